-- ===== PART A: goes FIRST, ahead of the names: the tables' words, and 'selects' of the private methods out of them =====
/-- a private method of a class that the tables say can be made, by its rows of tables_1 -/
def lw_okq (q : MethodName × Nat) : Prop := (q.1.cls ≠ "java/lang/invoke/MethodHandle" ∧ q.1.cls ≠ "java/lang/invoke/VarHandle") ∧ Cond.instantiable q.1.cls q.2 ∈ tables_1 ∧ Cond.privateMethod q.1 ∈ tables_1 ∧ Cond.instanceMethod q.1 ∈ tables_1
theorem lw_p0 : lw_okq (⟨"RoofsOfSnow$Plan", "setChain", "(IIII)V"⟩, 20) := ⟨⟨by decide +kernel, by decide +kernel⟩, List.mem_of_getElem? (i := 70) (by decide +kernel), List.mem_of_getElem? (i := 263) (by decide +kernel), List.mem_of_getElem? (i := 264) (by decide +kernel)⟩
theorem lw_p1 : lw_okq (⟨"RoofsOfSnow$Plan", "addRoof", "(IIIIII)Z"⟩, 20) := ⟨⟨by decide +kernel, by decide +kernel⟩, List.mem_of_getElem? (i := 70) (by decide +kernel), List.mem_of_getElem? (i := 271) (by decide +kernel), List.mem_of_getElem? (i := 272) (by decide +kernel)⟩
theorem lw_p2 : lw_okq (⟨"RoofsOfSnow$Plan", "addBearing", "(III)Z"⟩, 20) := ⟨⟨by decide +kernel, by decide +kernel⟩, List.mem_of_getElem? (i := 70) (by decide +kernel), List.mem_of_getElem? (i := 283) (by decide +kernel), List.mem_of_getElem? (i := 284) (by decide +kernel)⟩
theorem lw_p3 : lw_okq (⟨"RoofsOfSnow$Village", "feel", "(I)Z"⟩, 13) := ⟨⟨by decide +kernel, by decide +kernel⟩, List.mem_of_getElem? (i := 159) (by decide +kernel), List.mem_of_getElem? (i := 309) (by decide +kernel), List.mem_of_getElem? (i := 310) (by decide +kernel)⟩
theorem lw_p4 : lw_okq (⟨"RoofsOfSnow$Village", "drop", "(I)V"⟩, 13) := ⟨⟨by decide +kernel, by decide +kernel⟩, List.mem_of_getElem? (i := 159) (by decide +kernel), List.mem_of_getElem? (i := 342) (by decide +kernel), List.mem_of_getElem? (i := 343) (by decide +kernel)⟩
theorem lw_p5 : lw_okq (⟨"RoofsOfSnow$Reader", "readItem", "(LRoofsOfSnow$Plan;)Z"⟩, 3) := ⟨⟨by decide +kernel, by decide +kernel⟩, List.mem_of_getElem? (i := 52) (by decide +kernel), List.mem_of_getElem? (i := 418) (by decide +kernel), List.mem_of_getElem? (i := 419) (by decide +kernel)⟩
theorem lw_p6 : lw_okq (⟨"RoofsOfSnow$Reader", "readNumber", "(I)Z"⟩, 3) := ⟨⟨by decide +kernel, by decide +kernel⟩, List.mem_of_getElem? (i := 52) (by decide +kernel), List.mem_of_getElem? (i := 514) (by decide +kernel), List.mem_of_getElem? (i := 515) (by decide +kernel)⟩
theorem lw_p7 : lw_okq (⟨"RoofsOfSnow$Reader", "isInRange", "(II)Z"⟩, 3) := ⟨⟨by decide +kernel, by decide +kernel⟩, List.mem_of_getElem? (i := 52) (by decide +kernel), List.mem_of_getElem? (i := 522) (by decide +kernel), List.mem_of_getElem? (i := 523) (by decide +kernel)⟩
theorem lw_p8 : lw_okq (⟨"RoofsOfSnow$Reader", "readSign", "(I)Z"⟩, 3) := ⟨⟨by decide +kernel, by decide +kernel⟩, List.mem_of_getElem? (i := 52) (by decide +kernel), List.mem_of_getElem? (i := 531) (by decide +kernel), List.mem_of_getElem? (i := 532) (by decide +kernel)⟩
theorem lw_p9 : lw_okq (⟨"RoofsOfSnow$Plan", "takeSetting", "(ILRoofsOfSnow$Row;)V"⟩, 20) := ⟨⟨by decide +kernel, by decide +kernel⟩, List.mem_of_getElem? (i := 70) (by decide +kernel), List.mem_of_getElem? (i := 539) (by decide +kernel), List.mem_of_getElem? (i := 540) (by decide +kernel)⟩
theorem lw_p10 : lw_okq (⟨"RoofsOfSnow", "isRoof", "(I)Z"⟩, 13) := ⟨⟨by decide +kernel, by decide +kernel⟩, List.mem_of_getElem? (i := 17) (by decide +kernel), List.mem_of_getElem? (i := 559) (by decide +kernel), List.mem_of_getElem? (i := 560) (by decide +kernel)⟩
theorem lw_p11 : lw_okq (⟨"RoofsOfSnow$Village", "clearAt", "(I)V"⟩, 13) := ⟨⟨by decide +kernel, by decide +kernel⟩, List.mem_of_getElem? (i := 159) (by decide +kernel), List.mem_of_getElem? (i := 650) (by decide +kernel), List.mem_of_getElem? (i := 651) (by decide +kernel)⟩
theorem lw_p12 : lw_okq (⟨"RoofsOfSnow$Village", "passWeather", "(I)V"⟩, 13) := ⟨⟨by decide +kernel, by decide +kernel⟩, List.mem_of_getElem? (i := 159) (by decide +kernel), List.mem_of_getElem? (i := 661) (by decide +kernel), List.mem_of_getElem? (i := 662) (by decide +kernel)⟩
theorem lw_p13 : lw_okq (⟨"RoofsOfSnow$Village", "letFall", "(I)V"⟩, 13) := ⟨⟨by decide +kernel, by decide +kernel⟩, List.mem_of_getElem? (i := 159) (by decide +kernel), List.mem_of_getElem? (i := 665) (by decide +kernel), List.mem_of_getElem? (i := 666) (by decide +kernel)⟩
theorem lw_p14 : lw_okq (⟨"RoofsOfSnow$Village", "slide", "()V"⟩, 13) := ⟨⟨by decide +kernel, by decide +kernel⟩, List.mem_of_getElem? (i := 159) (by decide +kernel), List.mem_of_getElem? (i := 669) (by decide +kernel), List.mem_of_getElem? (i := 670) (by decide +kernel)⟩
theorem lw_p15 : lw_okq (⟨"RoofsOfSnow$Village", "bringPropsNearer", "()V"⟩, 13) := ⟨⟨by decide +kernel, by decide +kernel⟩, List.mem_of_getElem? (i := 159) (by decide +kernel), List.mem_of_getElem? (i := 673) (by decide +kernel), List.mem_of_getElem? (i := 674) (by decide +kernel)⟩
def lw_privs_1 : List (MethodName × Nat) := [(⟨"RoofsOfSnow$Plan", "setChain", "(IIII)V"⟩, 20), (⟨"RoofsOfSnow$Plan", "addRoof", "(IIIIII)Z"⟩, 20), (⟨"RoofsOfSnow$Plan", "addBearing", "(III)Z"⟩, 20), (⟨"RoofsOfSnow$Village", "feel", "(I)Z"⟩, 13), (⟨"RoofsOfSnow$Village", "drop", "(I)V"⟩, 13), (⟨"RoofsOfSnow$Reader", "readItem", "(LRoofsOfSnow$Plan;)Z"⟩, 3), (⟨"RoofsOfSnow$Reader", "readNumber", "(I)Z"⟩, 3), (⟨"RoofsOfSnow$Reader", "isInRange", "(II)Z"⟩, 3), (⟨"RoofsOfSnow$Reader", "readSign", "(I)Z"⟩, 3), (⟨"RoofsOfSnow$Plan", "takeSetting", "(ILRoofsOfSnow$Row;)V"⟩, 20), (⟨"RoofsOfSnow", "isRoof", "(I)Z"⟩, 13), (⟨"RoofsOfSnow$Village", "clearAt", "(I)V"⟩, 13), (⟨"RoofsOfSnow$Village", "passWeather", "(I)V"⟩, 13), (⟨"RoofsOfSnow$Village", "letFall", "(I)V"⟩, 13), (⟨"RoofsOfSnow$Village", "slide", "()V"⟩, 13), (⟨"RoofsOfSnow$Village", "bringPropsNearer", "()V"⟩, 13)]
theorem lw_r1 : ∀ q ∈ lw_privs_1, lw_okq q := List.forall_mem_cons.mpr ⟨lw_p0, List.forall_mem_cons.mpr ⟨lw_p1, List.forall_mem_cons.mpr ⟨lw_p2, List.forall_mem_cons.mpr ⟨lw_p3, List.forall_mem_cons.mpr ⟨lw_p4, List.forall_mem_cons.mpr ⟨lw_p5, List.forall_mem_cons.mpr ⟨lw_p6, List.forall_mem_cons.mpr ⟨lw_p7, List.forall_mem_cons.mpr ⟨lw_p8, List.forall_mem_cons.mpr ⟨lw_p9, List.forall_mem_cons.mpr ⟨lw_p10, List.forall_mem_cons.mpr ⟨lw_p11, List.forall_mem_cons.mpr ⟨lw_p12, List.forall_mem_cons.mpr ⟨lw_p13, List.forall_mem_cons.mpr ⟨lw_p14, List.forall_mem_cons.mpr ⟨lw_p15, fun _ h => absurd h List.not_mem_nil⟩⟩⟩⟩⟩⟩⟩⟩⟩⟩⟩⟩⟩⟩⟩⟩
theorem lw_p16 : lw_okq (⟨"RoofsOfSnow", "lossByRow", "(IIII)J"⟩, 13) := ⟨⟨by decide +kernel, by decide +kernel⟩, List.mem_of_getElem? (i := 17) (by decide +kernel), List.mem_of_getElem? (i := 699) (by decide +kernel), List.mem_of_getElem? (i := 700) (by decide +kernel)⟩
theorem lw_p17 : lw_okq (⟨"RoofsOfSnow$Search", "goOn", "(LRoofsOfSnow$Village;II)V"⟩, 4) := ⟨⟨by decide +kernel, by decide +kernel⟩, List.mem_of_getElem? (i := 228) (by decide +kernel), List.mem_of_getElem? (i := 741) (by decide +kernel), List.mem_of_getElem? (i := 742) (by decide +kernel)⟩
theorem lw_p18 : lw_okq (⟨"RoofsOfSnow", "refusalOfProp", "(I)I"⟩, 13) := ⟨⟨by decide +kernel, by decide +kernel⟩, List.mem_of_getElem? (i := 17) (by decide +kernel), List.mem_of_getElem? (i := 767) (by decide +kernel), List.mem_of_getElem? (i := 768) (by decide +kernel)⟩
theorem lw_p19 : lw_okq (⟨"RoofsOfSnow", "drawBearings", "(I)V"⟩, 13) := ⟨⟨by decide +kernel, by decide +kernel⟩, List.mem_of_getElem? (i := 17) (by decide +kernel), List.mem_of_getElem? (i := 796) (by decide +kernel), List.mem_of_getElem? (i := 797) (by decide +kernel)⟩
theorem lw_p20 : lw_okq (⟨"RoofsOfSnow", "drawSky", "(ILRoofsOfSnow$Village;)I"⟩, 13) := ⟨⟨by decide +kernel, by decide +kernel⟩, List.mem_of_getElem? (i := 17) (by decide +kernel), List.mem_of_getElem? (i := 813) (by decide +kernel), List.mem_of_getElem? (i := 814) (by decide +kernel)⟩
theorem lw_p21 : lw_okq (⟨"RoofsOfSnow", "worthOf", "(I)I"⟩, 13) := ⟨⟨by decide +kernel, by decide +kernel⟩, List.mem_of_getElem? (i := 17) (by decide +kernel), List.mem_of_getElem? (i := 821) (by decide +kernel), List.mem_of_getElem? (i := 822) (by decide +kernel)⟩
theorem lw_p22 : lw_okq (⟨"RoofsOfSnow", "keptAt", "(I)LRoofsOfSnow$Village;"⟩, 13) := ⟨⟨by decide +kernel, by decide +kernel⟩, List.mem_of_getElem? (i := 17) (by decide +kernel), List.mem_of_getElem? (i := 830) (by decide +kernel), List.mem_of_getElem? (i := 831) (by decide +kernel)⟩
theorem lw_p23 : lw_okq (⟨"RoofsOfSnowModel", "reset", "()V"⟩, 42) := ⟨⟨by decide +kernel, by decide +kernel⟩, List.mem_of_getElem? (i := 842) (by decide +kernel), List.mem_of_getElem? (i := 848) (by decide +kernel), List.mem_of_getElem? (i := 849) (by decide +kernel)⟩
theorem lw_p24 : lw_okq (⟨"RoofsOfSnowModel", "roofBy", "(IIIIII)V"⟩, 42) := ⟨⟨by decide +kernel, by decide +kernel⟩, List.mem_of_getElem? (i := 842) (by decide +kernel), List.mem_of_getElem? (i := 852) (by decide +kernel), List.mem_of_getElem? (i := 853) (by decide +kernel)⟩
theorem lw_p25 : lw_okq (⟨"RoofsOfSnowModel", "bearsOf", "(I)V"⟩, 42) := ⟨⟨by decide +kernel, by decide +kernel⟩, List.mem_of_getElem? (i := 842) (by decide +kernel), List.mem_of_getElem? (i := 856) (by decide +kernel), List.mem_of_getElem? (i := 857) (by decide +kernel)⟩
theorem lw_p26 : lw_okq (⟨"RoofsOfSnowModel", "begun", "()V"⟩, 42) := ⟨⟨by decide +kernel, by decide +kernel⟩, List.mem_of_getElem? (i := 842) (by decide +kernel), List.mem_of_getElem? (i := 860) (by decide +kernel), List.mem_of_getElem? (i := 861) (by decide +kernel)⟩
theorem lw_p27 : lw_okq (⟨"RoofsOfSnowModel", "feel", "()V"⟩, 42) := ⟨⟨by decide +kernel, by decide +kernel⟩, List.mem_of_getElem? (i := 842) (by decide +kernel), List.mem_of_getElem? (i := 864) (by decide +kernel), List.mem_of_getElem? (i := 865) (by decide +kernel)⟩
theorem lw_p28 : lw_okq (⟨"RoofsOfSnowModel", "load", "()V"⟩, 42) := ⟨⟨by decide +kernel, by decide +kernel⟩, List.mem_of_getElem? (i := 842) (by decide +kernel), List.mem_of_getElem? (i := 868) (by decide +kernel), List.mem_of_getElem? (i := 869) (by decide +kernel)⟩
theorem lw_p29 : lw_okq (⟨"RoofsOfSnowModel", "felt", "(III)I"⟩, 42) := ⟨⟨by decide +kernel, by decide +kernel⟩, List.mem_of_getElem? (i := 842) (by decide +kernel), List.mem_of_getElem? (i := 876) (by decide +kernel), List.mem_of_getElem? (i := 877) (by decide +kernel)⟩
theorem lw_p30 : lw_okq (⟨"RoofsOfSnowModel", "pressOf", "(III)I"⟩, 42) := ⟨⟨by decide +kernel, by decide +kernel⟩, List.mem_of_getElem? (i := 842) (by decide +kernel), List.mem_of_getElem? (i := 880) (by decide +kernel), List.mem_of_getElem? (i := 881) (by decide +kernel)⟩
theorem lw_p31 : lw_okq (⟨"RoofsOfSnowModel", "done", "(I)I"⟩, 42) := ⟨⟨by decide +kernel, by decide +kernel⟩, List.mem_of_getElem? (i := 842) (by decide +kernel), List.mem_of_getElem? (i := 884) (by decide +kernel), List.mem_of_getElem? (i := 885) (by decide +kernel)⟩
def lw_privs_2 : List (MethodName × Nat) := [(⟨"RoofsOfSnow", "lossByRow", "(IIII)J"⟩, 13), (⟨"RoofsOfSnow$Search", "goOn", "(LRoofsOfSnow$Village;II)V"⟩, 4), (⟨"RoofsOfSnow", "refusalOfProp", "(I)I"⟩, 13), (⟨"RoofsOfSnow", "drawBearings", "(I)V"⟩, 13), (⟨"RoofsOfSnow", "drawSky", "(ILRoofsOfSnow$Village;)I"⟩, 13), (⟨"RoofsOfSnow", "worthOf", "(I)I"⟩, 13), (⟨"RoofsOfSnow", "keptAt", "(I)LRoofsOfSnow$Village;"⟩, 13), (⟨"RoofsOfSnowModel", "reset", "()V"⟩, 42), (⟨"RoofsOfSnowModel", "roofBy", "(IIIIII)V"⟩, 42), (⟨"RoofsOfSnowModel", "bearsOf", "(I)V"⟩, 42), (⟨"RoofsOfSnowModel", "begun", "()V"⟩, 42), (⟨"RoofsOfSnowModel", "feel", "()V"⟩, 42), (⟨"RoofsOfSnowModel", "load", "()V"⟩, 42), (⟨"RoofsOfSnowModel", "felt", "(III)I"⟩, 42), (⟨"RoofsOfSnowModel", "pressOf", "(III)I"⟩, 42), (⟨"RoofsOfSnowModel", "done", "(I)I"⟩, 42)]
theorem lw_r2 : ∀ q ∈ lw_privs_2, lw_okq q := List.forall_mem_cons.mpr ⟨lw_p16, List.forall_mem_cons.mpr ⟨lw_p17, List.forall_mem_cons.mpr ⟨lw_p18, List.forall_mem_cons.mpr ⟨lw_p19, List.forall_mem_cons.mpr ⟨lw_p20, List.forall_mem_cons.mpr ⟨lw_p21, List.forall_mem_cons.mpr ⟨lw_p22, List.forall_mem_cons.mpr ⟨lw_p23, List.forall_mem_cons.mpr ⟨lw_p24, List.forall_mem_cons.mpr ⟨lw_p25, List.forall_mem_cons.mpr ⟨lw_p26, List.forall_mem_cons.mpr ⟨lw_p27, List.forall_mem_cons.mpr ⟨lw_p28, List.forall_mem_cons.mpr ⟨lw_p29, List.forall_mem_cons.mpr ⟨lw_p30, List.forall_mem_cons.mpr ⟨lw_p31, fun _ h => absurd h List.not_mem_nil⟩⟩⟩⟩⟩⟩⟩⟩⟩⟩⟩⟩⟩⟩⟩⟩
theorem lw_p32 : lw_okq (⟨"RoofsOfSnowModel", "below", "(II)I"⟩, 42) := ⟨⟨by decide +kernel, by decide +kernel⟩, List.mem_of_getElem? (i := 842) (by decide +kernel), List.mem_of_getElem? (i := 888) (by decide +kernel), List.mem_of_getElem? (i := 889) (by decide +kernel)⟩
theorem lw_p33 : lw_okq (⟨"RoofsOfSnowModel", "chances", "(I)I"⟩, 42) := ⟨⟨by decide +kernel, by decide +kernel⟩, List.mem_of_getElem? (i := 842) (by decide +kernel), List.mem_of_getElem? (i := 892) (by decide +kernel), List.mem_of_getElem? (i := 893) (by decide +kernel)⟩
theorem lw_p34 : lw_okq (⟨"RoofsOfSnowModel", "readsItem", "()Z"⟩, 42) := ⟨⟨by decide +kernel, by decide +kernel⟩, List.mem_of_getElem? (i := 842) (by decide +kernel), List.mem_of_getElem? (i := 1041) (by decide +kernel), List.mem_of_getElem? (i := 1042) (by decide +kernel)⟩
theorem lw_p35 : lw_okq (⟨"RoofsOfSnowModel", "isSign", "(I)Z"⟩, 42) := ⟨⟨by decide +kernel, by decide +kernel⟩, List.mem_of_getElem? (i := 842) (by decide +kernel), List.mem_of_getElem? (i := 1048) (by decide +kernel), List.mem_of_getElem? (i := 1049) (by decide +kernel)⟩
theorem lw_p36 : lw_okq (⟨"RoofsOfSnowModel", "reads", "(I)Z"⟩, 42) := ⟨⟨by decide +kernel, by decide +kernel⟩, List.mem_of_getElem? (i := 842) (by decide +kernel), List.mem_of_getElem? (i := 1052) (by decide +kernel), List.mem_of_getElem? (i := 1053) (by decide +kernel)⟩
theorem lw_p37 : lw_okq (⟨"RoofsOfSnowModel", "fits", "()Z"⟩, 42) := ⟨⟨by decide +kernel, by decide +kernel⟩, List.mem_of_getElem? (i := 842) (by decide +kernel), List.mem_of_getElem? (i := 1062) (by decide +kernel), List.mem_of_getElem? (i := 1063) (by decide +kernel)⟩
theorem lw_p38 : lw_okq (⟨"RoofsOfSnowModel", "told", "(II)I"⟩, 42) := ⟨⟨by decide +kernel, by decide +kernel⟩, List.mem_of_getElem? (i := 842) (by decide +kernel), List.mem_of_getElem? (i := 1066) (by decide +kernel), List.mem_of_getElem? (i := 1067) (by decide +kernel)⟩
theorem lw_p39 : lw_okq (⟨"RoofsOfSnowModel", "mayBeLaid", "()Z"⟩, 42) := ⟨⟨by decide +kernel, by decide +kernel⟩, List.mem_of_getElem? (i := 842) (by decide +kernel), List.mem_of_getElem? (i := 1075) (by decide +kernel), List.mem_of_getElem? (i := 1076) (by decide +kernel)⟩
theorem lw_p40 : lw_okq (⟨"RoofsOfSnowModel", "layItem", "(I)V"⟩, 42) := ⟨⟨by decide +kernel, by decide +kernel⟩, List.mem_of_getElem? (i := 842) (by decide +kernel), List.mem_of_getElem? (i := 1079) (by decide +kernel), List.mem_of_getElem? (i := 1080) (by decide +kernel)⟩
theorem lw_p41 : lw_okq (⟨"RoofsOfSnowModel", "isRoof", "(I)Z"⟩, 42) := ⟨⟨by decide +kernel, by decide +kernel⟩, List.mem_of_getElem? (i := 842) (by decide +kernel), List.mem_of_getElem? (i := 1087) (by decide +kernel), List.mem_of_getElem? (i := 1088) (by decide +kernel)⟩
theorem lw_p42 : lw_okq (⟨"RoofsOfSnowModel", "goHour", "(IIII)V"⟩, 42) := ⟨⟨by decide +kernel, by decide +kernel⟩, List.mem_of_getElem? (i := 842) (by decide +kernel), List.mem_of_getElem? (i := 1129) (by decide +kernel), List.mem_of_getElem? (i := 1130) (by decide +kernel)⟩
theorem lw_p43 : lw_okq (⟨"RoofsOfSnowModel", "chosen", "(II)I"⟩, 42) := ⟨⟨by decide +kernel, by decide +kernel⟩, List.mem_of_getElem? (i := 842) (by decide +kernel), List.mem_of_getElem? (i := 1133) (by decide +kernel), List.mem_of_getElem? (i := 1134) (by decide +kernel)⟩
theorem lw_p44 : lw_okq (⟨"RoofsOfSnowModel", "deepest", "()I"⟩, 42) := ⟨⟨by decide +kernel, by decide +kernel⟩, List.mem_of_getElem? (i := 842) (by decide +kernel), List.mem_of_getElem? (i := 1137) (by decide +kernel), List.mem_of_getElem? (i := 1138) (by decide +kernel)⟩
theorem lw_p45 : lw_okq (⟨"RoofsOfSnowModel", "lies", "(I)Z"⟩, 42) := ⟨⟨by decide +kernel, by decide +kernel⟩, List.mem_of_getElem? (i := 842) (by decide +kernel), List.mem_of_getElem? (i := 1141) (by decide +kernel), List.mem_of_getElem? (i := 1142) (by decide +kernel)⟩
theorem lw_p46 : lw_okq (⟨"RoofsOfSnowModel", "weakest", "(I)I"⟩, 42) := ⟨⟨by decide +kernel, by decide +kernel⟩, List.mem_of_getElem? (i := 842) (by decide +kernel), List.mem_of_getElem? (i := 1145) (by decide +kernel), List.mem_of_getElem? (i := 1146) (by decide +kernel)⟩
theorem lw_p47 : lw_okq (⟨"RoofsOfSnowModel", "isLaden", "(I)Z"⟩, 42) := ⟨⟨by decide +kernel, by decide +kernel⟩, List.mem_of_getElem? (i := 842) (by decide +kernel), List.mem_of_getElem? (i := 1149) (by decide +kernel), List.mem_of_getElem? (i := 1150) (by decide +kernel)⟩
def lw_privs_3 : List (MethodName × Nat) := [(⟨"RoofsOfSnowModel", "below", "(II)I"⟩, 42), (⟨"RoofsOfSnowModel", "chances", "(I)I"⟩, 42), (⟨"RoofsOfSnowModel", "readsItem", "()Z"⟩, 42), (⟨"RoofsOfSnowModel", "isSign", "(I)Z"⟩, 42), (⟨"RoofsOfSnowModel", "reads", "(I)Z"⟩, 42), (⟨"RoofsOfSnowModel", "fits", "()Z"⟩, 42), (⟨"RoofsOfSnowModel", "told", "(II)I"⟩, 42), (⟨"RoofsOfSnowModel", "mayBeLaid", "()Z"⟩, 42), (⟨"RoofsOfSnowModel", "layItem", "(I)V"⟩, 42), (⟨"RoofsOfSnowModel", "isRoof", "(I)Z"⟩, 42), (⟨"RoofsOfSnowModel", "goHour", "(IIII)V"⟩, 42), (⟨"RoofsOfSnowModel", "chosen", "(II)I"⟩, 42), (⟨"RoofsOfSnowModel", "deepest", "()I"⟩, 42), (⟨"RoofsOfSnowModel", "lies", "(I)Z"⟩, 42), (⟨"RoofsOfSnowModel", "weakest", "(I)I"⟩, 42), (⟨"RoofsOfSnowModel", "isLaden", "(I)Z"⟩, 42)]
theorem lw_r3 : ∀ q ∈ lw_privs_3, lw_okq q := List.forall_mem_cons.mpr ⟨lw_p32, List.forall_mem_cons.mpr ⟨lw_p33, List.forall_mem_cons.mpr ⟨lw_p34, List.forall_mem_cons.mpr ⟨lw_p35, List.forall_mem_cons.mpr ⟨lw_p36, List.forall_mem_cons.mpr ⟨lw_p37, List.forall_mem_cons.mpr ⟨lw_p38, List.forall_mem_cons.mpr ⟨lw_p39, List.forall_mem_cons.mpr ⟨lw_p40, List.forall_mem_cons.mpr ⟨lw_p41, List.forall_mem_cons.mpr ⟨lw_p42, List.forall_mem_cons.mpr ⟨lw_p43, List.forall_mem_cons.mpr ⟨lw_p44, List.forall_mem_cons.mpr ⟨lw_p45, List.forall_mem_cons.mpr ⟨lw_p46, List.forall_mem_cons.mpr ⟨lw_p47, fun _ h => absurd h List.not_mem_nil⟩⟩⟩⟩⟩⟩⟩⟩⟩⟩⟩⟩⟩⟩⟩⟩
theorem lw_p48 : lw_okq (⟨"RoofsOfSnowModel", "sideOf", "(I)I"⟩, 42) := ⟨⟨by decide +kernel, by decide +kernel⟩, List.mem_of_getElem? (i := 842) (by decide +kernel), List.mem_of_getElem? (i := 1153) (by decide +kernel), List.mem_of_getElem? (i := 1154) (by decide +kernel)⟩
theorem lw_p49 : lw_okq (⟨"RoofsOfSnowModel", "fullest", "()I"⟩, 42) := ⟨⟨by decide +kernel, by decide +kernel⟩, List.mem_of_getElem? (i := 842) (by decide +kernel), List.mem_of_getElem? (i := 1157) (by decide +kernel), List.mem_of_getElem? (i := 1158) (by decide +kernel)⟩
theorem lw_p50 : lw_okq (⟨"RoofsOfSnowModel", "clear", "(I)V"⟩, 42) := ⟨⟨by decide +kernel, by decide +kernel⟩, List.mem_of_getElem? (i := 842) (by decide +kernel), List.mem_of_getElem? (i := 1161) (by decide +kernel), List.mem_of_getElem? (i := 1162) (by decide +kernel)⟩
theorem lw_p51 : lw_okq (⟨"RoofsOfSnowModel", "lossBy", "(IIII)J"⟩, 42) := ⟨⟨by decide +kernel, by decide +kernel⟩, List.mem_of_getElem? (i := 842) (by decide +kernel), List.mem_of_getElem? (i := 1177) (by decide +kernel), List.mem_of_getElem? (i := 1178) (by decide +kernel)⟩
theorem lw_p52 : lw_okq (⟨"RoofsOfSnowModel", "lost", "()J"⟩, 42) := ⟨⟨by decide +kernel, by decide +kernel⟩, List.mem_of_getElem? (i := 842) (by decide +kernel), List.mem_of_getElem? (i := 1181) (by decide +kernel), List.mem_of_getElem? (i := 1182) (by decide +kernel)⟩
theorem lw_p53 : lw_okq (⟨"RoofsOfSnowModel", "bestRow", "(I)I"⟩, 42) := ⟨⟨by decide +kernel, by decide +kernel⟩, List.mem_of_getElem? (i := 842) (by decide +kernel), List.mem_of_getElem? (i := 1199) (by decide +kernel), List.mem_of_getElem? (i := 1200) (by decide +kernel)⟩
theorem lw_p54 : lw_okq (⟨"RoofsOfSnowModel", "drawBears", "(I)V"⟩, 42) := ⟨⟨by decide +kernel, by decide +kernel⟩, List.mem_of_getElem? (i := 842) (by decide +kernel), List.mem_of_getElem? (i := 1241) (by decide +kernel), List.mem_of_getElem? (i := 1242) (by decide +kernel)⟩
theorem lw_p55 : lw_okq (⟨"RoofsOfSnowModel", "store", "(I)V"⟩, 42) := ⟨⟨by decide +kernel, by decide +kernel⟩, List.mem_of_getElem? (i := 842) (by decide +kernel), List.mem_of_getElem? (i := 1257) (by decide +kernel), List.mem_of_getElem? (i := 1258) (by decide +kernel)⟩
theorem lw_p56 : lw_okq (⟨"RoofsOfSnowModel", "fetch", "(I)V"⟩, 42) := ⟨⟨by decide +kernel, by decide +kernel⟩, List.mem_of_getElem? (i := 842) (by decide +kernel), List.mem_of_getElem? (i := 1265) (by decide +kernel), List.mem_of_getElem? (i := 1266) (by decide +kernel)⟩
def lw_privs_4 : List (MethodName × Nat) := [(⟨"RoofsOfSnowModel", "sideOf", "(I)I"⟩, 42), (⟨"RoofsOfSnowModel", "fullest", "()I"⟩, 42), (⟨"RoofsOfSnowModel", "clear", "(I)V"⟩, 42), (⟨"RoofsOfSnowModel", "lossBy", "(IIII)J"⟩, 42), (⟨"RoofsOfSnowModel", "lost", "()J"⟩, 42), (⟨"RoofsOfSnowModel", "bestRow", "(I)I"⟩, 42), (⟨"RoofsOfSnowModel", "drawBears", "(I)V"⟩, 42), (⟨"RoofsOfSnowModel", "store", "(I)V"⟩, 42), (⟨"RoofsOfSnowModel", "fetch", "(I)V"⟩, 42)]
theorem lw_r4 : ∀ q ∈ lw_privs_4, lw_okq q := List.forall_mem_cons.mpr ⟨lw_p48, List.forall_mem_cons.mpr ⟨lw_p49, List.forall_mem_cons.mpr ⟨lw_p50, List.forall_mem_cons.mpr ⟨lw_p51, List.forall_mem_cons.mpr ⟨lw_p52, List.forall_mem_cons.mpr ⟨lw_p53, List.forall_mem_cons.mpr ⟨lw_p54, List.forall_mem_cons.mpr ⟨lw_p55, List.forall_mem_cons.mpr ⟨lw_p56, fun _ h => absurd h List.not_mem_nil⟩⟩⟩⟩⟩⟩⟩⟩⟩
def lw_privs : List (MethodName × Nat) := lw_privs_1 ++ (lw_privs_2 ++ (lw_privs_3 ++ (lw_privs_4)))
def lw_tbl : List Cond := k2_sels lw_privs ++ tables_1
theorem lw_privs_ok : ∀ q ∈ lw_privs, lw_okq q := by
  show ∀ q ∈ lw_privs_1 ++ (lw_privs_2 ++ (lw_privs_3 ++ (lw_privs_4))), lw_okq q
  exact List.forall_mem_append.mpr ⟨lw_r1, List.forall_mem_append.mpr ⟨lw_r2, List.forall_mem_append.mpr ⟨lw_r3, lw_r4⟩⟩⟩
def RX0 : String := "RoofsOfSnow$Plan"
def TX0 : u_T := fun k => match k with
  | 0 => ("RoofsOfSnow$Plan", "roofs", "I", false)
  | 1 => ("RoofsOfSnow$Plan", "snow", "LRoofsOfSnow$Row;", true)
  | 2 => ("RoofsOfSnow$Plan", "uneven", "LRoofsOfSnow$Row;", true)
  | 3 => ("RoofsOfSnow$Plan", "slides", "LRoofsOfSnow$Row;", true)
  | 4 => ("RoofsOfSnow$Plan", "worth", "LRoofsOfSnow$Row;", true)
  | 5 => ("RoofsOfSnow$Plan", "thrown", "LRoofsOfSnow$Row;", true)
  | 6 => ("RoofsOfSnow$Plan", "people", "LRoofsOfSnow$Row;", true)
  | 7 => ("RoofsOfSnow$Plan", "manyBearings", "LRoofsOfSnow$Row;", true)
  | 8 => ("RoofsOfSnow$Plan", "bearings", "LRoofsOfSnow$Row;", true)
  | 9 => ("RoofsOfSnow$Plan", "tenths", "LRoofsOfSnow$Row;", true)
  | 10 => ("RoofsOfSnow$Plan", "fall", "LRoofsOfSnow$Row;", true)
  | 11 => ("RoofsOfSnow$Plan", "water", "LRoofsOfSnow$Row;", true)
  | 12 => ("RoofsOfSnow$Plan", "chain", "LRoofsOfSnow$Row;", true)
  | 13 => ("RoofsOfSnow$Plan", "firstSky", "I", false)
  | 14 => ("RoofsOfSnow$Plan", "hands", "I", false)
  | 15 => ("RoofsOfSnow$Plan", "clears", "I", false)
  | 16 => ("RoofsOfSnow$Plan", "gap", "I", false)
  | 17 => ("RoofsOfSnow$Plan", "propAdds", "I", false)
  | 18 => ("RoofsOfSnow$Plan", "propHours", "I", false)
  | _ => ("RoofsOfSnow$Plan", "life", "I", false)
def tyX0 : Nat → FieldType := fun k => match k with
  | 0 => .int
  | 1 => .object "RoofsOfSnow$Row"
  | 2 => .object "RoofsOfSnow$Row"
  | 3 => .object "RoofsOfSnow$Row"
  | 4 => .object "RoofsOfSnow$Row"
  | 5 => .object "RoofsOfSnow$Row"
  | 6 => .object "RoofsOfSnow$Row"
  | 7 => .object "RoofsOfSnow$Row"
  | 8 => .object "RoofsOfSnow$Row"
  | 9 => .object "RoofsOfSnow$Row"
  | 10 => .object "RoofsOfSnow$Row"
  | 11 => .object "RoofsOfSnow$Row"
  | 12 => .object "RoofsOfSnow$Row"
  | 13 => .int
  | 14 => .int
  | 15 => .int
  | 16 => .int
  | 17 => .int
  | 18 => .int
  | _ => .int
abbrev wsX00 : List Cond := u_ws RX0 TX0 20
theorem nmX0 : ∀ a, a < 20 → ∀ b, b < 20 → a ≠ b → (TX0 a).2.1 ≠ (TX0 b).2.1 := by decide +kernel
theorem tyX0_ok : ∀ k, k < 20 → parseFieldDescriptor (TX0 k).2.2.1 = some (tyX0 k) := by decide +kernel
abbrev cX0_init : ByteArray := prog_2_method_1_code
def yX0_init : MethodName := ⟨RX0, "<init>", "()V"⟩
abbrev cX0_clear : ByteArray := prog_2_method_2_code
def yX0_clear : MethodName := ⟨RX0, "clear", "()V"⟩
abbrev cX0_makeBare : ByteArray := prog_2_method_3_code
def yX0_makeBare : MethodName := ⟨RX0, "makeBare", "()V"⟩
abbrev cX0_take : ByteArray := prog_2_method_4_code
def yX0_take : MethodName := ⟨RX0, "take", "(ILRoofsOfSnow$Row;)Z"⟩
abbrev cX0_takeSetting : ByteArray := prog_2_method_5_code
def yX0_takeSetting : MethodName := ⟨RX0, "takeSetting", "(ILRoofsOfSnow$Row;)V"⟩
abbrev cX0_addRoof : ByteArray := prog_2_method_6_code
def yX0_addRoof : MethodName := ⟨RX0, "addRoof", "(IIIIII)Z"⟩
abbrev cX0_addBearing : ByteArray := prog_2_method_7_code
def yX0_addBearing : MethodName := ⟨RX0, "addBearing", "(III)Z"⟩
abbrev cX0_setChain : ByteArray := prog_2_method_8_code
def yX0_setChain : MethodName := ⟨RX0, "setChain", "(IIII)V"⟩
abbrev cX0_addPlainBearings : ByteArray := prog_2_method_9_code
def yX0_addPlainBearings : MethodName := ⟨RX0, "addPlainBearings", "()V"⟩
abbrev cX0_fitsTogether : ByteArray := prog_2_method_10_code
def yX0_fitsTogether : MethodName := ⟨RX0, "fitsTogether", "()Z"⟩
abbrev cX0_allBearings : ByteArray := prog_2_method_11_code
def yX0_allBearings : MethodName := ⟨RX0, "allBearings", "(I)I"⟩
abbrev cX0_tenthsOf : ByteArray := prog_2_method_12_code
def yX0_tenthsOf : MethodName := ⟨RX0, "tenthsOf", "(II)I"⟩
abbrev cX0_tenthsOfNext : ByteArray := prog_2_method_13_code
def yX0_tenthsOfNext : MethodName := ⟨RX0, "tenthsOfNext", "(II)I"⟩
abbrev cX0_worthWithLives : ByteArray := prog_2_method_14_code
def yX0_worthWithLives : MethodName := ⟨RX0, "worthWithLives", "(I)I"⟩
def RX1 : String := "RoofsOfSnow$Reader"
def TX1 : u_T := fun k => match k with
  | 0 => ("RoofsOfSnow$Reader", "text", "LRoofsOfSnow$Text;", true)
  | 1 => ("RoofsOfSnow$Reader", "numbers", "LRoofsOfSnow$Row;", true)
  | _ => ("RoofsOfSnow$Reader", "place", "I", false)
def tyX1 : Nat → FieldType := fun k => match k with
  | 0 => .object "RoofsOfSnow$Text"
  | 1 => .object "RoofsOfSnow$Row"
  | _ => .int
abbrev wsX10 : List Cond := u_ws RX1 TX1 3
theorem nmX1 : ∀ a, a < 3 → ∀ b, b < 3 → a ≠ b → (TX1 a).2.1 ≠ (TX1 b).2.1 := by decide +kernel
theorem tyX1_ok : ∀ k, k < 3 → parseFieldDescriptor (TX1 k).2.2.1 = some (tyX1 k) := by decide +kernel
abbrev cX1_init : ByteArray := prog_3_method_1_code
def yX1_init : MethodName := ⟨RX1, "<init>", "(LRoofsOfSnow$Text;)V"⟩
abbrev cX1_readInto : ByteArray := prog_3_method_2_code
def yX1_readInto : MethodName := ⟨RX1, "readInto", "(LRoofsOfSnow$Plan;)I"⟩
abbrev cX1_readItem : ByteArray := prog_3_method_3_code
def yX1_readItem : MethodName := ⟨RX1, "readItem", "(LRoofsOfSnow$Plan;)Z"⟩
abbrev cX1_readNumber : ByteArray := prog_3_method_4_code
def yX1_readNumber : MethodName := ⟨RX1, "readNumber", "(I)Z"⟩
abbrev cX1_isFigure : ByteArray := prog_3_method_5_code
def yX1_isFigure : MethodName := ⟨RX1, "isFigure", "(I)Z"⟩
abbrev cX1_isInRange : ByteArray := prog_3_method_6_code
def yX1_isInRange : MethodName := ⟨RX1, "isInRange", "(II)Z"⟩
abbrev cX1_readSign : ByteArray := prog_3_method_7_code
def yX1_readSign : MethodName := ⟨RX1, "readSign", "(I)Z"⟩
def RX2 : String := "RoofsOfSnow$Row"
def TX2 : u_T := fun k => match k with
  | _ => ("RoofsOfSnow$Row", "cells", "[I", true)
def tyX2 : Nat → FieldType := fun k => match k with
  | _ => .array .int
abbrev wsX20 : List Cond := u_ws RX2 TX2 1
theorem nmX2 : ∀ a, a < 1 → ∀ b, b < 1 → a ≠ b → (TX2 a).2.1 ≠ (TX2 b).2.1 := by decide +kernel
theorem tyX2_ok : ∀ k, k < 1 → parseFieldDescriptor (TX2 k).2.2.1 = some (tyX2 k) := by decide +kernel
abbrev cX2_init : ByteArray := prog_4_method_1_code
def yX2_init : MethodName := ⟨RX2, "<init>", "(I)V"⟩
abbrev cX2_get : ByteArray := prog_4_method_2_code
def yX2_get : MethodName := ⟨RX2, "get", "(I)I"⟩
abbrev cX2_set : ByteArray := prog_4_method_3_code
def yX2_set : MethodName := ⟨RX2, "set", "(II)V"⟩
abbrev cX2_increase : ByteArray := prog_4_method_4_code
def yX2_increase : MethodName := ⟨RX2, "increase", "(II)V"⟩
abbrev cX2_fill : ByteArray := prog_4_method_5_code
def yX2_fill : MethodName := ⟨RX2, "fill", "(I)V"⟩
abbrev cX2_copyFrom : ByteArray := prog_4_method_6_code
def yX2_copyFrom : MethodName := ⟨RX2, "copyFrom", "(LRoofsOfSnow$Row;)V"⟩
def RX3 : String := "RoofsOfSnow$Rules"
def TX3 : u_T := fun k => match k with
  | _ => ("", "", "", false)
def tyX3 : Nat → FieldType := fun k => match k with
  | _ => .int
abbrev wsX30 : List Cond := u_ws RX3 TX3 0
theorem nmX3 : ∀ a, a < 0 → ∀ b, b < 0 → a ≠ b → (TX3 a).2.1 ≠ (TX3 b).2.1 := by decide +kernel
theorem tyX3_ok : ∀ k, k < 0 → parseFieldDescriptor (TX3 k).2.2.1 = some (tyX3 k) := by decide +kernel
abbrev cX3_choose : ByteArray := prog_5_method_2_code
def yX3_choose : MethodName := ⟨RX3, "choose", "(LRoofsOfSnow$Village;II)I"⟩
abbrev cX3_deepest : ByteArray := prog_5_method_3_code
def yX3_deepest : MethodName := ⟨RX3, "deepest", "(LRoofsOfSnow$Village;)I"⟩
abbrev cX3_weakest : ByteArray := prog_5_method_4_code
def yX3_weakest : MethodName := ⟨RX3, "weakest", "(LRoofsOfSnow$Village;I)I"⟩
abbrev cX3_fullest : ByteArray := prog_5_method_5_code
def yX3_fullest : MethodName := ⟨RX3, "fullest", "(LRoofsOfSnow$Village;)I"⟩
abbrev cX3_isSnowy : ByteArray := prog_5_method_6_code
def yX3_isSnowy : MethodName := ⟨RX3, "isSnowy", "(LRoofsOfSnow$Village;I)Z"⟩
abbrev cX3_deeperSide : ByteArray := prog_5_method_7_code
def yX3_deeperSide : MethodName := ⟨RX3, "deeperSide", "(LRoofsOfSnow$Village;I)I"⟩
def RX4 : String := "RoofsOfSnow$Search"
def TX4 : u_T := fun k => match k with
  | 0 => ("RoofsOfSnow$Search", "skies", "LRoofsOfSnow$Row;", true)
  | 1 => ("RoofsOfSnow$Search", "triedSpots", "LRoofsOfSnow$Row;", true)
  | 2 => ("RoofsOfSnow$Search", "bestSpots", "LRoofsOfSnow$Row;", true)
  | _ => ("RoofsOfSnow$Search", "leastLoss", "J", false)
def tyX4 : Nat → FieldType := fun k => match k with
  | 0 => .object "RoofsOfSnow$Row"
  | 1 => .object "RoofsOfSnow$Row"
  | 2 => .object "RoofsOfSnow$Row"
  | _ => .long
abbrev wsX40 : List Cond := u_ws RX4 TX4 4
theorem nmX4 : ∀ a, a < 4 → ∀ b, b < 4 → a ≠ b → (TX4 a).2.1 ≠ (TX4 b).2.1 := by decide +kernel
theorem tyX4_ok : ∀ k, k < 4 → parseFieldDescriptor (TX4 k).2.2.1 = some (tyX4 k) := by decide +kernel
abbrev cX4_init : ByteArray := prog_6_method_1_code
def yX4_init : MethodName := ⟨RX4, "<init>", "(LRoofsOfSnow$Row;)V"⟩
abbrev cX4_find : ByteArray := prog_6_method_2_code
def yX4_find : MethodName := ⟨RX4, "find", "(LRoofsOfSnow$Village;I)V"⟩
abbrev cX4_goOn : ByteArray := prog_6_method_3_code
def yX4_goOn : MethodName := ⟨RX4, "goOn", "(LRoofsOfSnow$Village;II)V"⟩
def RX5 : String := "RoofsOfSnow$Text"
def TX5 : u_T := fun k => match k with
  | 0 => ("RoofsOfSnow$Text", "bytes", "LRoofsOfSnow$Row;", true)
  | _ => ("RoofsOfSnow$Text", "length", "I", false)
def tyX5 : Nat → FieldType := fun k => match k with
  | 0 => .object "RoofsOfSnow$Row"
  | _ => .int
abbrev wsX50 : List Cond := u_ws RX5 TX5 2
theorem nmX5 : ∀ a, a < 2 → ∀ b, b < 2 → a ≠ b → (TX5 a).2.1 ≠ (TX5 b).2.1 := by decide +kernel
theorem tyX5_ok : ∀ k, k < 2 → parseFieldDescriptor (TX5 k).2.2.1 = some (tyX5 k) := by decide +kernel
abbrev cX5_init : ByteArray := prog_7_method_1_code
def yX5_init : MethodName := ⟨RX5, "<init>", "()V"⟩
abbrev cX5_length : ByteArray := prog_7_method_2_code
def yX5_length : MethodName := ⟨RX5, "length", "()I"⟩
abbrev cX5_append : ByteArray := prog_7_method_3_code
def yX5_append : MethodName := ⟨RX5, "append", "(I)V"⟩
abbrev cX5_clear : ByteArray := prog_7_method_4_code
def yX5_clear : MethodName := ⟨RX5, "clear", "()V"⟩
abbrev cX5_byteAt : ByteArray := prog_7_method_5_code
def yX5_byteAt : MethodName := ⟨RX5, "byteAt", "(I)I"⟩
def RX6 : String := "RoofsOfSnow$Village"
def TX6 : u_T := fun k => match k with
  | 0 => ("RoofsOfSnow$Village", "plan", "LRoofsOfSnow$Plan;", true)
  | 1 => ("RoofsOfSnow$Village", "snow", "LRoofsOfSnow$Row;", true)
  | 2 => ("RoofsOfSnow$Village", "stays", "LRoofsOfSnow$Row;", true)
  | 3 => ("RoofsOfSnow$Village", "stood", "LRoofsOfSnow$Row;", true)
  | 4 => ("RoofsOfSnow$Village", "props", "LRoofsOfSnow$Row;", true)
  | 5 => ("RoofsOfSnow$Village", "waits", "LRoofsOfSnow$Row;", true)
  | 6 => ("RoofsOfSnow$Village", "peak", "LRoofsOfSnow$Row;", true)
  | 7 => ("RoofsOfSnow$Village", "next", "LRoofsOfSnow$Village;", true)
  | 8 => ("RoofsOfSnow$Village", "standing", "I", false)
  | 9 => ("RoofsOfSnow$Village", "creaks", "I", false)
  | 10 => ("RoofsOfSnow$Village", "hour", "I", false)
  | 11 => ("RoofsOfSnow$Village", "sky", "I", false)
  | _ => ("RoofsOfSnow$Village", "told", "I", false)
def tyX6 : Nat → FieldType := fun k => match k with
  | 0 => .object "RoofsOfSnow$Plan"
  | 1 => .object "RoofsOfSnow$Row"
  | 2 => .object "RoofsOfSnow$Row"
  | 3 => .object "RoofsOfSnow$Row"
  | 4 => .object "RoofsOfSnow$Row"
  | 5 => .object "RoofsOfSnow$Row"
  | 6 => .object "RoofsOfSnow$Row"
  | 7 => .object "RoofsOfSnow$Village"
  | 8 => .int
  | 9 => .int
  | 10 => .int
  | 11 => .int
  | _ => .int
abbrev wsX60 : List Cond := u_ws RX6 TX6 13
theorem nmX6 : ∀ a, a < 13 → ∀ b, b < 13 → a ≠ b → (TX6 a).2.1 ≠ (TX6 b).2.1 := by decide +kernel
theorem tyX6_ok : ∀ k, k < 13 → parseFieldDescriptor (TX6 k).2.2.1 = some (tyX6 k) := by decide +kernel
abbrev cX6_init : ByteArray := prog_8_method_1_code
def yX6_init : MethodName := ⟨RX6, "<init>", "(LRoofsOfSnow$Plan;LRoofsOfSnow$Village;)V"⟩
abbrev cX6_copyFrom : ByteArray := prog_8_method_2_code
def yX6_copyFrom : MethodName := ⟨RX6, "copyFrom", "(LRoofsOfSnow$Village;)V"⟩
abbrev cX6_startFrom : ByteArray := prog_8_method_3_code
def yX6_startFrom : MethodName := ⟨RX6, "startFrom", "(LRoofsOfSnow$Village;)V"⟩
abbrev cX6_begin : ByteArray := prog_8_method_4_code
def yX6_begin : MethodName := ⟨RX6, "begin", "()V"⟩
abbrev cX6_stands : ByteArray := prog_8_method_5_code
def yX6_stands : MethodName := ⟨RX6, "stands", "(I)Z"⟩
abbrev cX6_pressWith : ByteArray := prog_8_method_6_code
def yX6_pressWith : MethodName := ⟨RX6, "pressWith", "(III)I"⟩
abbrev cX6_propped : ByteArray := prog_8_method_7_code
def yX6_propped : MethodName := ⟨RX6, "propped", "(I)I"⟩
abbrev cX6_loadWith : ByteArray := prog_8_method_8_code
def yX6_loadWith : MethodName := ⟨RX6, "loadWith", "(III)I"⟩
abbrev cX6_load : ByteArray := prog_8_method_9_code
def yX6_load : MethodName := ⟨RX6, "load", "(I)I"⟩
abbrev cX6_chances : ByteArray := prog_8_method_10_code
def yX6_chances : MethodName := ⟨RX6, "chances", "(I)I"⟩
abbrev cX6_chanceOf : ByteArray := prog_8_method_11_code
def yX6_chanceOf : MethodName := ⟨RX6, "chanceOf", "(II)I"⟩
abbrev cX6_staysBelow : ByteArray := prog_8_method_12_code
def yX6_staysBelow : MethodName := ⟨RX6, "staysBelow", "(II)I"⟩
abbrev cX6_staysFrom : ByteArray := prog_8_method_13_code
def yX6_staysFrom : MethodName := ⟨RX6, "staysFrom", "(II)I"⟩
abbrev cX6_chancesBelow : ByteArray := prog_8_method_14_code
def yX6_chancesBelow : MethodName := ⟨RX6, "chancesBelow", "(II)I"⟩
abbrev cX6_bearingAt : ByteArray := prog_8_method_15_code
def yX6_bearingAt : MethodName := ⟨RX6, "bearingAt", "(II)I"⟩
abbrev cX6_passHour : ByteArray := prog_8_method_16_code
def yX6_passHour : MethodName := ⟨RX6, "passHour", "(III)V"⟩
abbrev cX6_passHourAt : ByteArray := prog_8_method_17_code
def yX6_passHourAt : MethodName := ⟨RX6, "passHourAt", "(III)V"⟩
abbrev cX6_passWeather : ByteArray := prog_8_method_18_code
def yX6_passWeather : MethodName := ⟨RX6, "passWeather", "(I)V"⟩
abbrev cX6_clearAt : ByteArray := prog_8_method_19_code
def yX6_clearAt : MethodName := ⟨RX6, "clearAt", "(I)V"⟩
abbrev cX6_letFall : ByteArray := prog_8_method_20_code
def yX6_letFall : MethodName := ⟨RX6, "letFall", "(I)V"⟩
abbrev cX6_slide : ByteArray := prog_8_method_21_code
def yX6_slide : MethodName := ⟨RX6, "slide", "()V"⟩
abbrev cX6_bringPropsNearer : ByteArray := prog_8_method_22_code
def yX6_bringPropsNearer : MethodName := ⟨RX6, "bringPropsNearer", "()V"⟩
abbrev cX6_addProp : ByteArray := prog_8_method_23_code
def yX6_addProp : MethodName := ⟨RX6, "addProp", "(I)V"⟩
abbrev cX6_feelAll : ByteArray := prog_8_method_24_code
def yX6_feelAll : MethodName := ⟨RX6, "feelAll", "()I"⟩
abbrev cX6_feel : ByteArray := prog_8_method_25_code
def yX6_feel : MethodName := ⟨RX6, "feel", "(I)Z"⟩
abbrev cX6_drop : ByteArray := prog_8_method_26_code
def yX6_drop : MethodName := ⟨RX6, "drop", "(I)V"⟩
abbrev cX6_chancesGone : ByteArray := prog_8_method_27_code
def yX6_chancesGone : MethodName := ⟨RX6, "chancesGone", "(I)I"⟩
abbrev cX6_lossSoFar : ByteArray := prog_8_method_28_code
def yX6_lossSoFar : MethodName := ⟨RX6, "lossSoFar", "()J"⟩
abbrev cX6_dropAbove : ByteArray := prog_8_method_29_code
def yX6_dropAbove : MethodName := ⟨RX6, "dropAbove", "(LRoofsOfSnow$Row;)I"⟩
def RX7 : String := "RoofsOfSnow"
def TX7 : u_T := fun k => match k with
  | 0 => ("RoofsOfSnow", "text", "LRoofsOfSnow$Text;", true)
  | 1 => ("RoofsOfSnow", "reader", "LRoofsOfSnow$Reader;", true)
  | 2 => ("RoofsOfSnow", "plan", "LRoofsOfSnow$Plan;", true)
  | 3 => ("RoofsOfSnow", "spare", "LRoofsOfSnow$Plan;", true)
  | 4 => ("RoofsOfSnow", "village", "LRoofsOfSnow$Village;", true)
  | 5 => ("RoofsOfSnow", "keptFirst", "LRoofsOfSnow$Village;", true)
  | 6 => ("RoofsOfSnow", "keptSecond", "LRoofsOfSnow$Village;", true)
  | 7 => ("RoofsOfSnow", "kept", "I", false)
  | 8 => ("RoofsOfSnow", "skies", "LRoofsOfSnow$Row;", true)
  | 9 => ("RoofsOfSnow", "manySkies", "I", false)
  | 10 => ("RoofsOfSnow", "course", "LRoofsOfSnow$Village;", true)
  | 11 => ("RoofsOfSnow", "search", "LRoofsOfSnow$Search;", true)
  | _ => ("RoofsOfSnow", "borne", "LRoofsOfSnow$Row;", true)
def tyX7 : Nat → FieldType := fun k => match k with
  | 0 => .object "RoofsOfSnow$Text"
  | 1 => .object "RoofsOfSnow$Reader"
  | 2 => .object "RoofsOfSnow$Plan"
  | 3 => .object "RoofsOfSnow$Plan"
  | 4 => .object "RoofsOfSnow$Village"
  | 5 => .object "RoofsOfSnow$Village"
  | 6 => .object "RoofsOfSnow$Village"
  | 7 => .int
  | 8 => .object "RoofsOfSnow$Row"
  | 9 => .int
  | 10 => .object "RoofsOfSnow$Village"
  | 11 => .object "RoofsOfSnow$Search"
  | _ => .object "RoofsOfSnow$Row"
abbrev wsX70 : List Cond := u_ws RX7 TX7 13
theorem nmX7 : ∀ a, a < 13 → ∀ b, b < 13 → a ≠ b → (TX7 a).2.1 ≠ (TX7 b).2.1 := by decide +kernel
theorem tyX7_ok : ∀ k, k < 13 → parseFieldDescriptor (TX7 k).2.2.1 = some (tyX7 k) := by decide +kernel
abbrev cX7_init : ByteArray := prog_1_method_1_code
def yX7_init : MethodName := ⟨RX7, "<init>", "()V"⟩
abbrev cX7_write : ByteArray := prog_1_method_2_code
def yX7_write : MethodName := ⟨RX7, "write", "(IJ)I"⟩
abbrev cX7_wipe : ByteArray := prog_1_method_3_code
def yX7_wipe : MethodName := ⟨RX7, "wipe", "()I"⟩
abbrev cX7_fault : ByteArray := prog_1_method_4_code
def yX7_fault : MethodName := ⟨RX7, "fault", "()I"⟩
abbrev cX7_lay : ByteArray := prog_1_method_5_code
def yX7_lay : MethodName := ⟨RX7, "lay", "()I"⟩
abbrev cX7_roof : ByteArray := prog_1_method_6_code
def yX7_roof : MethodName := ⟨RX7, "roof", "(II)I"⟩
abbrev cX7_thought : ByteArray := prog_1_method_7_code
def yX7_thought : MethodName := ⟨RX7, "thought", "(II)I"⟩
abbrev cX7_now : ByteArray := prog_1_method_8_code
def yX7_now : MethodName := ⟨RX7, "now", "(I)I"⟩
abbrev cX7_creak : ByteArray := prog_1_method_9_code
def yX7_creak : MethodName := ⟨RX7, "creak", "(IZ)I"⟩
abbrev cX7_goes : ByteArray := prog_1_method_10_code
def yX7_goes : MethodName := ⟨RX7, "goes", "(III)I"⟩
abbrev cX7_tell : ByteArray := prog_1_method_11_code
def yX7_tell : MethodName := ⟨RX7, "tell", "(II)I"⟩
abbrev cX7_on : ByteArray := prog_1_method_12_code
def yX7_on : MethodName := ⟨RX7, "on", "(II)I"⟩
abbrev cX7_sky : ByteArray := prog_1_method_13_code
def yX7_sky : MethodName := ⟨RX7, "sky", "(I)I"⟩
abbrev cX7_noSkies : ByteArray := prog_1_method_14_code
def yX7_noSkies : MethodName := ⟨RX7, "noSkies", "()I"⟩
abbrev cX7_loss : ByteArray := prog_1_method_15_code
def yX7_loss : MethodName := ⟨RX7, "loss", "(I)J"⟩
abbrev cX7_over : ByteArray := prog_1_method_16_code
def yX7_over : MethodName := ⟨RX7, "over", "(II)J"⟩
abbrev cX7_best : ByteArray := prog_1_method_17_code
def yX7_best : MethodName := ⟨RX7, "best", "(II)J"⟩
abbrev cX7_first : ByteArray := prog_1_method_18_code
def yX7_first : MethodName := ⟨RX7, "first", "(I)I"⟩
abbrev cX7_more : ByteArray := prog_1_method_19_code
def yX7_more : MethodName := ⟨RX7, "more", "(II)J"⟩
abbrev cX7_prop : ByteArray := prog_1_method_20_code
def yX7_prop : MethodName := ⟨RX7, "prop", "(I)I"⟩
abbrev cX7_instead : ByteArray := prog_1_method_21_code
def yX7_instead : MethodName := ⟨RX7, "instead", "(II)J"⟩
abbrev cX7_look : ByteArray := prog_1_method_22_code
def yX7_look : MethodName := ⟨RX7, "look", "(I)J"⟩
abbrev cX7_rain : ByteArray := prog_1_method_23_code
def yX7_rain : MethodName := ⟨RX7, "rain", "(I)I"⟩
abbrev cX7_out : ByteArray := prog_1_method_24_code
def yX7_out : MethodName := ⟨RX7, "out", "(IIIII)I"⟩
abbrev cX7_night : ByteArray := prog_1_method_25_code
def yX7_night : MethodName := ⟨RX7, "night", "(IIII)I"⟩
abbrev cX7_keep : ByteArray := prog_1_method_26_code
def yX7_keep : MethodName := ⟨RX7, "keep", "()I"⟩
abbrev cX7_back : ByteArray := prog_1_method_27_code
def yX7_back : MethodName := ⟨RX7, "back", "()I"⟩
abbrev cX7_count : ByteArray := prog_1_method_28_code
def yX7_count : MethodName := ⟨RX7, "count", "(I)I"⟩
abbrev cX7_isRoof : ByteArray := prog_1_method_29_code
def yX7_isRoof : MethodName := ⟨RX7, "isRoof", "(I)Z"⟩
abbrev cX7_isRule : ByteArray := prog_1_method_30_code
def yX7_isRule : MethodName := ⟨RX7, "isRule", "(I)Z"⟩
abbrev cX7_isSky : ByteArray := prog_1_method_31_code
def yX7_isSky : MethodName := ⟨RX7, "isSky", "(I)Z"⟩
abbrev cX7_refusalOfProp : ByteArray := prog_1_method_32_code
def yX7_refusalOfProp : MethodName := ⟨RX7, "refusalOfProp", "(I)I"⟩
abbrev cX7_keptAt : ByteArray := prog_1_method_33_code
def yX7_keptAt : MethodName := ⟨RX7, "keptAt", "(I)LRoofsOfSnow$Village;"⟩
abbrev cX7_lossOverAll : ByteArray := prog_1_method_34_code
def yX7_lossOverAll : MethodName := ⟨RX7, "lossOverAll", "(LRoofsOfSnow$Village;II)J"⟩
abbrev cX7_lossByRow : ByteArray := prog_1_method_35_code
def yX7_lossByRow : MethodName := ⟨RX7, "lossByRow", "(IIII)J"⟩
abbrev cX7_drawBearings : ByteArray := prog_1_method_36_code
def yX7_drawBearings : MethodName := ⟨RX7, "drawBearings", "(I)V"⟩
abbrev cX7_drawSky : ByteArray := prog_1_method_37_code
def yX7_drawSky : MethodName := ⟨RX7, "drawSky", "(ILRoofsOfSnow$Village;)I"⟩
abbrev cX7_draw : ByteArray := prog_1_method_38_code
def yX7_draw : MethodName := ⟨RX7, "draw", "(III)I"⟩
abbrev cX7_worthOf : ByteArray := prog_1_method_39_code
def yX7_worthOf : MethodName := ⟨RX7, "worthOf", "(I)I"⟩
abbrev cX7_chainOf : ByteArray := prog_1_method_40_code
def yX7_chainOf : MethodName := ⟨RX7, "chainOf", "(LRoofsOfSnow$Plan;I)LRoofsOfSnow$Village;"⟩
abbrev cX7_greatestCommon : ByteArray := prog_1_method_41_code
def yX7_greatestCommon : MethodName := ⟨RX7, "greatestCommon", "(II)I"⟩
def RX8 : String := "RoofsOfSnowModel"
def TX8 : u_T := fun k => match k with
  | 0 => ("RoofsOfSnowModel", "text", "[I", true)
  | 1 => ("RoofsOfSnowModel", "length", "I", false)
  | 2 => ("RoofsOfSnowModel", "items", "[I", true)
  | 3 => ("RoofsOfSnowModel", "itemMany", "I", false)
  | 4 => ("RoofsOfSnowModel", "many", "I", false)
  | 5 => ("RoofsOfSnowModel", "uneven", "[I", true)
  | 6 => ("RoofsOfSnowModel", "slides", "[I", true)
  | 7 => ("RoofsOfSnowModel", "worth", "[I", true)
  | 8 => ("RoofsOfSnowModel", "thrown", "[I", true)
  | 9 => ("RoofsOfSnowModel", "people", "[I", true)
  | 10 => ("RoofsOfSnowModel", "bears", "[I", true)
  | 11 => ("RoofsOfSnowModel", "tenths", "[I", true)
  | 12 => ("RoofsOfSnowModel", "bearMany", "[I", true)
  | 13 => ("RoofsOfSnowModel", "skies", "[I", true)
  | 14 => ("RoofsOfSnowModel", "chain", "[I", true)
  | 15 => ("RoofsOfSnowModel", "hands", "I", false)
  | 16 => ("RoofsOfSnowModel", "clears", "I", false)
  | 17 => ("RoofsOfSnowModel", "creakLess", "I", false)
  | 18 => ("RoofsOfSnowModel", "propAdds", "I", false)
  | 19 => ("RoofsOfSnowModel", "propHours", "I", false)
  | 20 => ("RoofsOfSnowModel", "life", "I", false)
  | 21 => ("RoofsOfSnowModel", "snow", "[I", true)
  | 22 => ("RoofsOfSnowModel", "stays", "[I", true)
  | 23 => ("RoofsOfSnowModel", "stood", "[I", true)
  | 24 => ("RoofsOfSnowModel", "props", "[I", true)
  | 25 => ("RoofsOfSnowModel", "propMany", "[I", true)
  | 26 => ("RoofsOfSnowModel", "stands", "I", false)
  | 27 => ("RoofsOfSnowModel", "hour", "I", false)
  | 28 => ("RoofsOfSnowModel", "skyNow", "I", false)
  | 29 => ("RoofsOfSnowModel", "told", "I", false)
  | 30 => ("RoofsOfSnowModel", "creaks", "I", false)
  | 31 => ("RoofsOfSnowModel", "row", "[I", true)
  | 32 => ("RoofsOfSnowModel", "rowMany", "I", false)
  | 33 => ("RoofsOfSnowModel", "kept", "[I", true)
  | 34 => ("RoofsOfSnowModel", "keptMany", "I", false)
  | 35 => ("RoofsOfSnowModel", "at", "I", false)
  | 36 => ("RoofsOfSnowModel", "ahead", "[I", true)
  | 37 => ("RoofsOfSnowModel", "goes", "[I", true)
  | 38 => ("RoofsOfSnowModel", "aheadStands", "I", false)
  | 39 => ("RoofsOfSnowModel", "most", "[I", true)
  | 40 => ("RoofsOfSnowModel", "least", "J", false)
  | _ => ("RoofsOfSnowModel", "drawn", "[I", true)
def tyX8 : Nat → FieldType := fun k => match k with
  | 0 => .array .int
  | 1 => .int
  | 2 => .array .int
  | 3 => .int
  | 4 => .int
  | 5 => .array .int
  | 6 => .array .int
  | 7 => .array .int
  | 8 => .array .int
  | 9 => .array .int
  | 10 => .array .int
  | 11 => .array .int
  | 12 => .array .int
  | 13 => .array .int
  | 14 => .array .int
  | 15 => .int
  | 16 => .int
  | 17 => .int
  | 18 => .int
  | 19 => .int
  | 20 => .int
  | 21 => .array .int
  | 22 => .array .int
  | 23 => .array .int
  | 24 => .array .int
  | 25 => .array .int
  | 26 => .int
  | 27 => .int
  | 28 => .int
  | 29 => .int
  | 30 => .int
  | 31 => .array .int
  | 32 => .int
  | 33 => .array .int
  | 34 => .int
  | 35 => .int
  | 36 => .array .int
  | 37 => .array .int
  | 38 => .int
  | 39 => .array .int
  | 40 => .long
  | _ => .array .int
abbrev wsX80 : List Cond := u_ws RX8 TX8 42
theorem nmX8 : ∀ a, a < 42 → ∀ b, b < 42 → a ≠ b → (TX8 a).2.1 ≠ (TX8 b).2.1 := by decide +kernel
theorem tyX8_ok : ∀ k, k < 42 → parseFieldDescriptor (TX8 k).2.2.1 = some (tyX8 k) := by decide +kernel
abbrev cX8_init : ByteArray := prog_10_method_1_code
def yX8_init : MethodName := ⟨RX8, "<init>", "()V"⟩
abbrev cX8_in : ByteArray := prog_10_method_2_code
def yX8_in : MethodName := ⟨RX8, "in", "(JJJ)Z"⟩
abbrev cX8_has : ByteArray := prog_10_method_3_code
def yX8_has : MethodName := ⟨RX8, "has", "(II)Z"⟩
abbrev cX8_write : ByteArray := prog_10_method_4_code
def yX8_write : MethodName := ⟨RX8, "write", "(IJ)I"⟩
abbrev cX8_wipe : ByteArray := prog_10_method_5_code
def yX8_wipe : MethodName := ⟨RX8, "wipe", "()I"⟩
abbrev cX8_numbersOf : ByteArray := prog_10_method_6_code
def yX8_numbersOf : MethodName := ⟨RX8, "numbersOf", "(I)I"⟩
abbrev cX8_leastOf : ByteArray := prog_10_method_7_code
def yX8_leastOf : MethodName := ⟨RX8, "leastOf", "(II)I"⟩
abbrev cX8_mostOf : ByteArray := prog_10_method_8_code
def yX8_mostOf : MethodName := ⟨RX8, "mostOf", "(II)I"⟩
abbrev cX8_reads : ByteArray := prog_10_method_9_code
def yX8_reads : MethodName := ⟨RX8, "reads", "(I)Z"⟩
abbrev cX8_isSign : ByteArray := prog_10_method_10_code
def yX8_isSign : MethodName := ⟨RX8, "isSign", "(I)Z"⟩
abbrev cX8_readsItem : ByteArray := prog_10_method_11_code
def yX8_readsItem : MethodName := ⟨RX8, "readsItem", "()Z"⟩
abbrev cX8_told : ByteArray := prog_10_method_12_code
def yX8_told : MethodName := ⟨RX8, "told", "(II)I"⟩
abbrev cX8_fits : ByteArray := prog_10_method_13_code
def yX8_fits : MethodName := ⟨RX8, "fits", "()Z"⟩
abbrev cX8_fault : ByteArray := prog_10_method_14_code
def yX8_fault : MethodName := ⟨RX8, "fault", "()I"⟩
abbrev cX8_roofBy : ByteArray := prog_10_method_15_code
def yX8_roofBy : MethodName := ⟨RX8, "roofBy", "(IIIIII)V"⟩
abbrev cX8_reset : ByteArray := prog_10_method_16_code
def yX8_reset : MethodName := ⟨RX8, "reset", "()V"⟩
abbrev cX8_bearsOf : ByteArray := prog_10_method_17_code
def yX8_bearsOf : MethodName := ⟨RX8, "bearsOf", "(I)V"⟩
abbrev cX8_begun : ByteArray := prog_10_method_18_code
def yX8_begun : MethodName := ⟨RX8, "begun", "()V"⟩
abbrev cX8_layItem : ByteArray := prog_10_method_19_code
def yX8_layItem : MethodName := ⟨RX8, "layItem", "(I)V"⟩
abbrev cX8_mayBeLaid : ByteArray := prog_10_method_20_code
def yX8_mayBeLaid : MethodName := ⟨RX8, "mayBeLaid", "()Z"⟩
abbrev cX8_lay : ByteArray := prog_10_method_21_code
def yX8_lay : MethodName := ⟨RX8, "lay", "()I"⟩
abbrev cX8_load : ByteArray := prog_10_method_22_code
def yX8_load : MethodName := ⟨RX8, "load", "()V"⟩
abbrev cX8_done : ByteArray := prog_10_method_23_code
def yX8_done : MethodName := ⟨RX8, "done", "(I)I"⟩
abbrev cX8_pressOf : ByteArray := prog_10_method_24_code
def yX8_pressOf : MethodName := ⟨RX8, "pressOf", "(III)I"⟩
abbrev cX8_felt : ByteArray := prog_10_method_25_code
def yX8_felt : MethodName := ⟨RX8, "felt", "(III)I"⟩
abbrev cX8_below : ByteArray := prog_10_method_26_code
def yX8_below : MethodName := ⟨RX8, "below", "(II)I"⟩
abbrev cX8_chances : ByteArray := prog_10_method_27_code
def yX8_chances : MethodName := ⟨RX8, "chances", "(I)I"⟩
abbrev cX8_feel : ByteArray := prog_10_method_28_code
def yX8_feel : MethodName := ⟨RX8, "feel", "()V"⟩
abbrev cX8_isRoof : ByteArray := prog_10_method_29_code
def yX8_isRoof : MethodName := ⟨RX8, "isRoof", "(I)Z"⟩
abbrev cX8_roof : ByteArray := prog_10_method_30_code
def yX8_roof : MethodName := ⟨RX8, "roof", "(II)I"⟩
abbrev cX8_thought : ByteArray := prog_10_method_31_code
def yX8_thought : MethodName := ⟨RX8, "thought", "(II)I"⟩
abbrev cX8_now : ByteArray := prog_10_method_32_code
def yX8_now : MethodName := ⟨RX8, "now", "(I)I"⟩
abbrev cX8_creak : ByteArray := prog_10_method_33_code
def yX8_creak : MethodName := ⟨RX8, "creak", "(IZ)I"⟩
abbrev cX8_divisor : ByteArray := prog_10_method_34_code
def yX8_divisor : MethodName := ⟨RX8, "divisor", "(JJ)J"⟩
abbrev cX8_goes : ByteArray := prog_10_method_35_code
def yX8_goes : MethodName := ⟨RX8, "goes", "(III)I"⟩
abbrev cX8_lies : ByteArray := prog_10_method_36_code
def yX8_lies : MethodName := ⟨RX8, "lies", "(I)Z"⟩
abbrev cX8_deepest : ByteArray := prog_10_method_37_code
def yX8_deepest : MethodName := ⟨RX8, "deepest", "()I"⟩
abbrev cX8_sideOf : ByteArray := prog_10_method_38_code
def yX8_sideOf : MethodName := ⟨RX8, "sideOf", "(I)I"⟩
abbrev cX8_isLaden : ByteArray := prog_10_method_39_code
def yX8_isLaden : MethodName := ⟨RX8, "isLaden", "(I)Z"⟩
abbrev cX8_weakest : ByteArray := prog_10_method_40_code
def yX8_weakest : MethodName := ⟨RX8, "weakest", "(I)I"⟩
abbrev cX8_fullest : ByteArray := prog_10_method_41_code
def yX8_fullest : MethodName := ⟨RX8, "fullest", "()I"⟩
abbrev cX8_chosen : ByteArray := prog_10_method_42_code
def yX8_chosen : MethodName := ⟨RX8, "chosen", "(II)I"⟩
abbrev cX8_clear : ByteArray := prog_10_method_43_code
def yX8_clear : MethodName := ⟨RX8, "clear", "(I)V"⟩
abbrev cX8_goHour : ByteArray := prog_10_method_44_code
def yX8_goHour : MethodName := ⟨RX8, "goHour", "(IIII)V"⟩
abbrev cX8_isRule : ByteArray := prog_10_method_45_code
def yX8_isRule : MethodName := ⟨RX8, "isRule", "(I)Z"⟩
abbrev cX8_isSky : ByteArray := prog_10_method_46_code
def yX8_isSky : MethodName := ⟨RX8, "isSky", "(I)Z"⟩
abbrev cX8_tell : ByteArray := prog_10_method_47_code
def yX8_tell : MethodName := ⟨RX8, "tell", "(II)I"⟩
abbrev cX8_on : ByteArray := prog_10_method_48_code
def yX8_on : MethodName := ⟨RX8, "on", "(II)I"⟩
abbrev cX8_sky : ByteArray := prog_10_method_49_code
def yX8_sky : MethodName := ⟨RX8, "sky", "(I)I"⟩
abbrev cX8_noSkies : ByteArray := prog_10_method_50_code
def yX8_noSkies : MethodName := ⟨RX8, "noSkies", "()I"⟩
abbrev cX8_lost : ByteArray := prog_10_method_51_code
def yX8_lost : MethodName := ⟨RX8, "lost", "()J"⟩
abbrev cX8_lossBy : ByteArray := prog_10_method_52_code
def yX8_lossBy : MethodName := ⟨RX8, "lossBy", "(IIII)J"⟩
abbrev cX8_loss : ByteArray := prog_10_method_53_code
def yX8_loss : MethodName := ⟨RX8, "loss", "(I)J"⟩
abbrev cX8_power : ByteArray := prog_10_method_54_code
def yX8_power : MethodName := ⟨RX8, "power", "(II)I"⟩
abbrev cX8_over : ByteArray := prog_10_method_55_code
def yX8_over : MethodName := ⟨RX8, "over", "(II)J"⟩
abbrev cX8_bestRow : ByteArray := prog_10_method_56_code
def yX8_bestRow : MethodName := ⟨RX8, "bestRow", "(I)I"⟩
abbrev cX8_best : ByteArray := prog_10_method_57_code
def yX8_best : MethodName := ⟨RX8, "best", "(II)J"⟩
abbrev cX8_first : ByteArray := prog_10_method_58_code
def yX8_first : MethodName := ⟨RX8, "first", "(I)I"⟩
abbrev cX8_more : ByteArray := prog_10_method_59_code
def yX8_more : MethodName := ⟨RX8, "more", "(II)J"⟩
abbrev cX8_prop : ByteArray := prog_10_method_60_code
def yX8_prop : MethodName := ⟨RX8, "prop", "(I)I"⟩
abbrev cX8_instead : ByteArray := prog_10_method_61_code
def yX8_instead : MethodName := ⟨RX8, "instead", "(II)J"⟩
abbrev cX8_look : ByteArray := prog_10_method_62_code
def yX8_look : MethodName := ⟨RX8, "look", "(I)J"⟩
abbrev cX8_rain : ByteArray := prog_10_method_63_code
def yX8_rain : MethodName := ⟨RX8, "rain", "(I)I"⟩
abbrev cX8_out : ByteArray := prog_10_method_64_code
def yX8_out : MethodName := ⟨RX8, "out", "(IIIII)I"⟩
abbrev cX8_draw : ByteArray := prog_10_method_65_code
def yX8_draw : MethodName := ⟨RX8, "draw", "(III)I"⟩
abbrev cX8_drawBears : ByteArray := prog_10_method_66_code
def yX8_drawBears : MethodName := ⟨RX8, "drawBears", "(I)V"⟩
abbrev cX8_night : ByteArray := prog_10_method_67_code
def yX8_night : MethodName := ⟨RX8, "night", "(IIII)I"⟩
abbrev cX8_store : ByteArray := prog_10_method_68_code
def yX8_store : MethodName := ⟨RX8, "store", "(I)V"⟩
abbrev cX8_fetch : ByteArray := prog_10_method_69_code
def yX8_fetch : MethodName := ⟨RX8, "fetch", "(I)V"⟩
abbrev cX8_keep : ByteArray := prog_10_method_70_code
def yX8_keep : MethodName := ⟨RX8, "keep", "()I"⟩
abbrev cX8_back : ByteArray := prog_10_method_71_code
def yX8_back : MethodName := ⟨RX8, "back", "()I"⟩
abbrev cX8_count : ByteArray := prog_10_method_72_code
def yX8_count : MethodName := ⟨RX8, "count", "(I)I"⟩
def RJ11 : String := "java/lang/Character"
def TJ11 : u_T := fun k => match k with
  | _ => ("", "", "", false)
def tyJ11 : Nat → FieldType := fun k => match k with
  | _ => .int
abbrev wsJ110 : List Cond := u_ws RJ11 TJ11 0
theorem nmJ11 : ∀ a, a < 0 → ∀ b, b < 0 → a ≠ b → (TJ11 a).2.1 ≠ (TJ11 b).2.1 := by decide +kernel
theorem tyJ11_ok : ∀ k, k < 0 → parseFieldDescriptor (TJ11 k).2.2.1 = some (tyJ11 k) := by decide +kernel
abbrev cJ11_isValidCodePoint_9a6ad : ByteArray := prog_11_method_11_code
def yJ11_isValidCodePoint_9a6ad : MethodName := ⟨RJ11, "isValidCodePoint", "(I)Z"⟩
abbrev cJ11_highSurrogate_5068e : ByteArray := prog_11_method_28_code
def yJ11_highSurrogate_5068e : MethodName := ⟨RJ11, "highSurrogate", "(I)C"⟩
abbrev cJ11_lowSurrogate_5068e : ByteArray := prog_11_method_29_code
def yJ11_lowSurrogate_5068e : MethodName := ⟨RJ11, "lowSurrogate", "(I)C"⟩
def RJ9 : String := "java/lang/Math"
def TJ9 : u_T := fun k => match k with
  | _ => ("", "", "", false)
def tyJ9 : Nat → FieldType := fun k => match k with
  | _ => .int
abbrev wsJ90 : List Cond := u_ws RJ9 TJ9 0
theorem nmJ9 : ∀ a, a < 0 → ∀ b, b < 0 → a ≠ b → (TJ9 a).2.1 ≠ (TJ9 b).2.1 := by decide +kernel
theorem tyJ9_ok : ∀ k, k < 0 → parseFieldDescriptor (TJ9 k).2.2.1 = some (tyJ9 k) := by decide +kernel
abbrev cJ9_abs_0f7a4 : ByteArray := prog_12_method_59_code
def yJ9_abs_0f7a4 : MethodName := ⟨RJ9, "abs", "(I)I"⟩
abbrev cJ9_max_7cf53 : ByteArray := prog_12_method_65_code
def yJ9_max_7cf53 : MethodName := ⟨RJ9, "max", "(II)I"⟩
abbrev cJ9_min_7cf53 : ByteArray := prog_12_method_69_code
def yJ9_min_7cf53 : MethodName := ⟨RJ9, "min", "(II)I"⟩
def RJ0 : String := "java/lang/String"
def TJ0 : u_T := fun k => match k with
  | _ => ("", "", "", false)
def tyJ0 : Nat → FieldType := fun k => match k with
  | _ => .int
abbrev wsJ00 : List Cond := u_ws RJ0 TJ0 0
theorem nmJ0 : ∀ a, a < 0 → ∀ b, b < 0 → a ≠ b → (TJ0 a).2.1 ≠ (TJ0 b).2.1 := by decide +kernel
theorem tyJ0_ok : ∀ k, k < 0 → parseFieldDescriptor (TJ0 k).2.2.1 = some (tyJ0 k) := by decide +kernel
abbrev cJ0_length_8abf5 : ByteArray := prog_13_method_54_code
def yJ0_length_8abf5 : MethodName := ⟨RJ0, "length", "()I"⟩
abbrev cJ0_indexOf_0f7a4 : ByteArray := prog_13_method_79_code
def yJ0_indexOf_0f7a4 : MethodName := ⟨RJ0, "indexOf", "(I)I"⟩
abbrev cJ0_indexOf_7cf53 : ByteArray := prog_13_method_80_code
def yJ0_indexOf_7cf53 : MethodName := ⟨RJ0, "indexOf", "(II)I"⟩
abbrev cJ0_coder_7d493 : ByteArray := prog_13_method_152_code
def yJ0_coder_7d493 : MethodName := ⟨RJ0, "coder", "()B"⟩
abbrev cJ0_isLatin1_aae02 : ByteArray := prog_13_method_154_code
def yJ0_isLatin1_aae02 : MethodName := ⟨RJ0, "isLatin1", "()Z"⟩
abbrev cJ0_checkBoundsBeginEnd_23922 : ByteArray := prog_13_method_158_code
def yJ0_checkBoundsBeginEnd_23922 : MethodName := ⟨RJ0, "checkBoundsBeginEnd", "(III)V"⟩
def RJ1 : String := "java/lang/StringLatin1"
def TJ1 : u_T := fun k => match k with
  | _ => ("", "", "", false)
def tyJ1 : Nat → FieldType := fun k => match k with
  | _ => .int
abbrev wsJ10 : List Cond := u_ws RJ1 TJ1 0
theorem nmJ1 : ∀ a, a < 0 → ∀ b, b < 0 → a ≠ b → (TJ1 a).2.1 ≠ (TJ1 b).2.1 := by decide +kernel
theorem tyJ1_ok : ∀ k, k < 0 → parseFieldDescriptor (TJ1 k).2.2.1 = some (tyJ1 k) := by decide +kernel
abbrev cJ1_canEncode_9a6ad : ByteArray := prog_14_method_4_code
def yJ1_canEncode_9a6ad : MethodName := ⟨RJ1, "canEncode", "(I)Z"⟩
abbrev cJ1_indexOf_4cfef : ByteArray := prog_14_method_22_code
def yJ1_indexOf_4cfef : MethodName := ⟨RJ1, "indexOf", "([BIII)I"⟩
abbrev cJ1_indexOfChar_4cfef : ByteArray := prog_14_method_23_code
def yJ1_indexOfChar_4cfef : MethodName := ⟨RJ1, "indexOfChar", "([BIII)I"⟩
def RJ2 : String := "java/lang/StringUTF16"
def TJ2 : u_T := fun k => match k with
  | _ => ("", "", "", false)
def tyJ2 : Nat → FieldType := fun k => match k with
  | _ => .int
abbrev wsJ20 : List Cond := u_ws RJ2 TJ2 0
theorem nmJ2 : ∀ a, a < 0 → ∀ b, b < 0 → a ≠ b → (TJ2 a).2.1 ≠ (TJ2 b).2.1 := by decide +kernel
theorem tyJ2_ok : ∀ k, k < 0 → parseFieldDescriptor (TJ2 k).2.2.1 = some (tyJ2 k) := by decide +kernel
abbrev cJ2_getChar_3b067 : ByteArray := prog_15_method_5_code
def yJ2_getChar_3b067 : MethodName := ⟨RJ2, "getChar", "([BI)C"⟩
abbrev cJ2_length_9d52b : ByteArray := prog_15_method_6_code
def yJ2_length_9d52b : MethodName := ⟨RJ2, "length", "([B)I"⟩
abbrev cJ2_indexOf_4cfef : ByteArray := prog_15_method_40_code
def yJ2_indexOf_4cfef : MethodName := ⟨RJ2, "indexOf", "([BIII)I"⟩
abbrev cJ2_indexOfChar_4cfef : ByteArray := prog_15_method_47_code
def yJ2_indexOfChar_4cfef : MethodName := ⟨RJ2, "indexOfChar", "([BIII)I"⟩
abbrev cJ2_indexOfCharUnsafe_4cfef : ByteArray := prog_15_method_48_code
def yJ2_indexOfCharUnsafe_4cfef : MethodName := ⟨RJ2, "indexOfCharUnsafe", "([BIII)I"⟩
abbrev cJ2_indexOfSupplementary_4cfef : ByteArray := prog_15_method_49_code
def yJ2_indexOfSupplementary_4cfef : MethodName := ⟨RJ2, "indexOfSupplementary", "([BIII)I"⟩
abbrev cJ2_checkBoundsBeginEnd_d044e : ByteArray := prog_15_method_93_code
def yJ2_checkBoundsBeginEnd_d044e : MethodName := ⟨RJ2, "checkBoundsBeginEnd", "(II[B)V"⟩
def RJ3 : String := "jdk/internal/util/Preconditions"
def TJ3 : u_T := fun k => match k with
  | _ => ("", "", "", false)
def tyJ3 : Nat → FieldType := fun k => match k with
  | _ => .int
abbrev wsJ30 : List Cond := u_ws RJ3 TJ3 0
theorem nmJ3 : ∀ a, a < 0 → ∀ b, b < 0 → a ≠ b → (TJ3 a).2.1 ≠ (TJ3 b).2.1 := by decide +kernel
theorem tyJ3_ok : ∀ k, k < 0 → parseFieldDescriptor (TJ3 k).2.2.1 = some (tyJ3 k) := by decide +kernel
abbrev cJ3_checkFromToIndex_8c36e : ByteArray := prog_16_method_12_code
def yJ3_checkFromToIndex_8c36e : MethodName := ⟨RJ3, "checkFromToIndex", "(IIILjava/util/function/BiFunction;)I"⟩
def RL : String := "RoofsOfSnowLaw"
abbrev cL_law : ByteArray := code
def yL_law : MethodName := ⟨RL, "law", "([I)Z"⟩
abbrev vwCl : List vw_C := [(RX0, TX0, 20), (RX1, TX1, 3), (RX2, TX2, 1), (RX4, TX4, 4), (RX5, TX5, 2), (RX6, TX6, 13), (RX7, TX7, 13), (RX8, TX8, 42)]
