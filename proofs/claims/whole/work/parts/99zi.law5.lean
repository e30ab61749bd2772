/-! THE CLAIM OUT OF ONE WALK OF THE LAW'S BODY. Your part is whole_start (and what it stands on); all else here is the same for every law, but numbers. -/
def R_law : String := "RoofsOfSnowLaw"
def lw_P (b : Addr) (xs : List Int32) (args : Array Value) (s : State) : Prop := args = #[.ref b] ∧ s.IntsAt b xs ∧ xs.length ≤ 3072 ∧ (Jvm.Cond.and given_1 narrow_1).before args s = true
def lw_Q (_ : Array Value) (s : State) (o : Outcome) (t : State) : Prop := o = .returned (some (.int 1)) ∧ Framed s o t [] 600000 7302250
def lw_Z (below : List Frame) (a : Array Value) (s : State) : State → Prop := fun t => ∃ o, t.status = .running ∧ Ended t below o ∧ lw_Q a s o t
/-- the law's own end, with 1 on the stack, nothing written that was there before, its room as the claim has it -/
theorem lw_ret {p : Program} {l : Launch} {e : Env} {s : State} {m : MethodId} {below : List Frame} {meth : Method} {c : Code} {b : Nat} (hx : p.tables.exec = Jvm.exec) (hb : c.code = code) (hr : meth.sig.returnType = ret) (hlocks : meth.locks = false) {pc : Nat} {H : Heap} {ls : Array Slot} (hdg : decode code pc = .ok (.ireturn, 1)) : W p l e room_1 s m #[Value.ref b] below meth c H [] 600000 7302250 (lw_Z below #[Value.ref b] s) (F0 m pc ls [.int 1]) := by
  intro T hT X
  obtain ⟨fs, hret, hrun, hended, hW, hframe⟩ := X.leave (v := some (.int 1)) (hlocks := hlocks) (fun h => by rw [hr] at h; cases h)
  have hmeth' : T.vm.method? m = some meth := X.method'
  refine ⟨T.setFrames fs, ?_, .returned (some (.int 1)), hrun, hended, rfl, ⟨_, rfl⟩, hW, hframe⟩
  jvm_step X.here [X.here.top, hx, hb, hdg, hmeth', hr, ret, narrow_b1]
  (try refine ⟨rfl, ?_⟩); (try refine ⟨rfl, ?_⟩)
  first | (intro acts; rw [hret _ acts rfl rfl rfl]) | rw [hret _ _ rfl rfl rfl]
  exact Steps.refl _
/-- what holds at the law's entry: the machine, the code, the tables' words (any of lw_tbl by 'hts w (by decide +kernel)'), the script of L ints xs at the cell b, what the Statement gives of the start (any of its parts by flat_of_before) -/
def lw_At (p : Program) (s : State) (m : MethodId) (meth : Method) (c : Code) (b L : Nat) (xs : Nat → Int32) : Prop :=
  p.tables.exec = Jvm.exec ∧ c.code = code ∧ meth.sig.returnType = ret ∧ c.maxLocals = 4 ∧ s.vm.findClass R_law = some m.cls ∧ (∀ w ∈ lw_tbl, w.before #[Value.ref b] s = true) ∧ va_X b L xs s s.heap ∧ b < s.heap.size ∧ meth.locks = false ∧ (Jvm.Cond.and given_1 narrow_1).before #[Value.ref b] s = true
/-! the law's loop -/
theorem and31 (x : Int32) : ∃ k, k < 32 ∧ x &&& 31 = nI k := by
  have e : (x &&& 31).toBitVec.toNat = x.toBitVec.toNat &&& 31 := by rw [Int32.toBitVec_and]; rfl
  have l : x.toBitVec.toNat &&& 31 ≤ 31 := Nat.and_le_right
  refine ⟨x.toBitVec.toNat &&& 31, by omega, ?_⟩
  apply Int32.toInt_inj.mp
  rw [nI_toInt (by omega)]
  show (x &&& 31).toBitVec.toInt = _
  rw [BitVec.toInt_eq_toNat_of_lt (by rw [e]; omega), e]
section LAWL
variable {p : Program} {l : Launch} {e : Env} {s : State} {m : MethodId} {below : List Frame} {meth : Method} {c : Code} {dC : Nat → ClassId} {dI : Nat → Nat → Nat} {cI : ClassId} {ga : Nat → Nat} {b L : Nat} {xs : Nat → Int32} {ad ae : Nat → Nat} {i : Nat} {H : Heap} {locs : List Loc} {ls : Array Slot} {Q : State → Prop}
set_option maxHeartbeats 4000000 in
set_option maxRecDepth 100000 in
theorem law_head (hk : lawK p s m meth c b L xs (dC, dI) cI ga) (hi : i ≤ L) (hS : va_S (lwA s) s.heap H locs) (hl : lv_has ls 4 [(0, .ref b), (1, .ref (ad 0)), (2, .ref (ae 0)), (3, .int (nI i))])
    (kend : W p l e room_1 s m #[Value.ref b] below meth c H locs 207 3939 Q (F0 m 965 ls [])) (kgo : i + 6 ≤ L → W p l e room_1 s m #[Value.ref b] below meth c H locs 207 3939 Q (F0 m 27 ls [])) : W p l e room_1 s m #[Value.ref b] below meth c H locs 207 3939 Q (F0 m 18 ls []) := by
  obtain ⟨⟨hx, hb, hml, hown, hts⟩, -, ⟨hX, hbl, hL⟩, hK, hN, hG⟩ := hk
  have hbA : ¬ lwA s b := Nat.not_le.mpr hbl
  refine lv_iload_n hx hb dL_law_18 rfl (lv_at hl 3 rfl) ?_
  refine lv_aload_n hx hb dL_law_19 rfl (lv_at hl 0 rfl) ?_
  refine va_slen hx hb hX hbl hbA hS dL_law_20 ?_
  refine lv_bipush (v := 6) hx hb dL_law_21 (by decide) ?_
  refine lv_isub hx hb dL_law_23 ?_
  refine lv_icmp_gt (tgt := 965) hx hb dL_law_24 (by decide) (fun _ => kend) (fun c1 => kgo ?_)
  have e6 : (6 : Int32).toInt = 6 := by decide
  have eL : (Int32.ofNat L).toInt = (L : Int) := nI_toInt (by omega)
  rw [ti_lt, ti_sub (by rw [eL, e6]; omega) (by rw [eL, e6]; omega), eL, e6, nI_toInt (by omega)] at c1
  omega
set_option maxHeartbeats 4000000 in
set_option maxRecDepth 100000 in
theorem law_switch (hk : lawK p s m meth c b L xs (dC, dI) cI ga) (hA : adOk s ad ae) (hi6 : i + 6 ≤ L) (hJ : kJ (dC, dI) cI ad ae H) (hS : va_S (lwA s) s.heap H locs) (hl : lv_has ls 4 [(0, .ref b), (1, .ref (ad 0)), (2, .ref (ae 0)), (3, .int (nI i))])
    (kk : ∀ (H1 : Heap) (locs1 : List Loc), kJ (dC, dI) cI ad ae H1 → va_S (lwA s) s.heap H1 locs1 → W p l e room_1 s m #[Value.ref b] below meth c H1 locs1 207 3939 Q (F0 m 959 ls [])) : W p l e room_1 s m #[Value.ref b] below meth c H locs 207 3939 Q (F0 m 27 ls []) := by
  obtain ⟨⟨hx, hb, hml, hown, hts⟩, -, ⟨hX, hbl, hL⟩, hK, hN, hG⟩ := id hk
  have hbA : ¬ lwA s b := Nat.not_le.mpr hbl
  refine lv_aload_n hx hb dL_law_27 rfl (lv_at hl 0 rfl) ?_
  refine lv_iload_n hx hb dL_law_28 rfl (lv_at hl 3 rfl) ?_
  refine va_sld hx hb hX hbl hbA hS (vp_in_nI (by omega) (by omega)) dL_law_29 ?_
  refine lv_bipush (v := 31) hx hb dL_law_30 (by decide) ?_
  refine lv_iand hx hb dL_law_32 ?_
  obtain ⟨k, hk32, ek⟩ := and31 (xs (nI i).toNatClampNeg)
  rw [ek]
  by_cases c1 : k < 27
  · rcases (show k = 0 ∨ k = 1 ∨ k = 2 ∨ k = 3 ∨ k = 4 ∨ k = 5 ∨ k = 6 ∨ k = 7 ∨ k = 8 ∨ k = 9 ∨ k = 10 ∨ k = 11 ∨ k = 12 ∨ k = 13 ∨ k = 14 ∨ k = 15 ∨ k = 16 ∨ k = 17 ∨ k = 18 ∨ k = 19 ∨ k = 20 ∨ k = 21 ∨ k = 22 ∨ k = 23 ∨ k = 24 ∨ k = 25 ∨ k = 26 by omega) with h | h | h | h | h | h | h | h | h | h | h | h | h | h | h | h | h | h | h | h | h | h | h | h | h | h | h <;> subst h
    · exact lv_tableIn (tgt := 156) (off := 123) hx hb dL_law_33 (by decide) (by decide) (by decide) (by decide) (law_write hk hA hi6 hJ hS hl kk)
    · exact lv_tableIn (tgt := 219) (off := 186) hx hb dL_law_33 (by decide) (by decide) (by decide) (by decide) (law_wipe hk hA hi6 hJ hS hl kk)
    · exact lv_tableIn (tgt := 232) (off := 199) hx hb dL_law_33 (by decide) (by decide) (by decide) (by decide) (law_fault hk hA hi6 hJ hS hl kk)
    · exact lv_tableIn (tgt := 245) (off := 212) hx hb dL_law_33 (by decide) (by decide) (by decide) (by decide) (law_lay hk hA hi6 hJ hS hl kk)
    · exact lv_tableIn (tgt := 258) (off := 225) hx hb dL_law_33 (by decide) (by decide) (by decide) (by decide) (law_roof hk hA hi6 hJ hS hl kk)
    · exact lv_tableIn (tgt := 291) (off := 258) hx hb dL_law_33 (by decide) (by decide) (by decide) (by decide) (law_thought hk hA hi6 hJ hS hl kk)
    · exact lv_tableIn (tgt := 324) (off := 291) hx hb dL_law_33 (by decide) (by decide) (by decide) (by decide) (law_now hk hA hi6 hJ hS hl kk)
    · exact lv_tableIn (tgt := 347) (off := 314) hx hb dL_law_33 (by decide) (by decide) (by decide) (by decide) (law_creak hk hA hi6 hJ hS hl kk)
    · exact lv_tableIn (tgt := 396) (off := 363) hx hb dL_law_33 (by decide) (by decide) (by decide) (by decide) (law_goes hk hA hi6 hJ hS hl kk)
    · exact lv_tableIn (tgt := 439) (off := 406) hx hb dL_law_33 (by decide) (by decide) (by decide) (by decide) (law_tell hk hA hi6 hJ hS hl kk)
    · exact lv_tableIn (tgt := 472) (off := 439) hx hb dL_law_33 (by decide) (by decide) (by decide) (by decide) (law_on hk hA hi6 hJ hS hl kk)
    · exact lv_tableIn (tgt := 505) (off := 472) hx hb dL_law_33 (by decide) (by decide) (by decide) (by decide) (law_sky hk hA hi6 hJ hS hl kk)
    · exact lv_tableIn (tgt := 528) (off := 495) hx hb dL_law_33 (by decide) (by decide) (by decide) (by decide) (law_noSkies hk hA hi6 hJ hS hl kk)
    · exact lv_tableIn (tgt := 541) (off := 508) hx hb dL_law_33 (by decide) (by decide) (by decide) (by decide) (law_loss hk hA hi6 hJ hS hl kk)
    · exact lv_tableIn (tgt := 565) (off := 532) hx hb dL_law_33 (by decide) (by decide) (by decide) (by decide) (law_over hk hA hi6 hJ hS hl kk)
    · exact lv_tableIn (tgt := 599) (off := 566) hx hb dL_law_33 (by decide) (by decide) (by decide) (by decide) (law_best hk hA hi6 hJ hS hl kk)
    · exact lv_tableIn (tgt := 633) (off := 600) hx hb dL_law_33 (by decide) (by decide) (by decide) (by decide) (law_first hk hA hi6 hJ hS hl kk)
    · exact lv_tableIn (tgt := 656) (off := 623) hx hb dL_law_33 (by decide) (by decide) (by decide) (by decide) (law_more hk hA hi6 hJ hS hl kk)
    · exact lv_tableIn (tgt := 690) (off := 657) hx hb dL_law_33 (by decide) (by decide) (by decide) (by decide) (law_prop hk hA hi6 hJ hS hl kk)
    · exact lv_tableIn (tgt := 713) (off := 680) hx hb dL_law_33 (by decide) (by decide) (by decide) (by decide) (law_instead hk hA hi6 hJ hS hl kk)
    · exact lv_tableIn (tgt := 747) (off := 714) hx hb dL_law_33 (by decide) (by decide) (by decide) (by decide) (law_look hk hA hi6 hJ hS hl kk)
    · exact lv_tableIn (tgt := 771) (off := 738) hx hb dL_law_33 (by decide) (by decide) (by decide) (by decide) (law_rain hk hA hi6 hJ hS hl kk)
    · exact lv_tableIn (tgt := 794) (off := 761) hx hb dL_law_33 (by decide) (by decide) (by decide) (by decide) (law_out hk hA hi6 hJ hS hl kk)
    · exact lv_tableIn (tgt := 857) (off := 824) hx hb dL_law_33 (by decide) (by decide) (by decide) (by decide) (law_night hk hA hi6 hJ hS hl kk)
    · exact lv_tableIn (tgt := 910) (off := 877) hx hb dL_law_33 (by decide) (by decide) (by decide) (by decide) (law_keep hk hA hi6 hJ hS hl kk)
    · exact lv_tableIn (tgt := 923) (off := 890) hx hb dL_law_33 (by decide) (by decide) (by decide) (by decide) (law_back hk hA hi6 hJ hS hl kk)
    · exact lv_tableIn (tgt := 936) (off := 903) hx hb dL_law_33 (by decide) (by decide) (by decide) (by decide) (law_count hk hA hi6 hJ hS hl kk)
  · exact lv_tableOut (tgt := 959) hx hb dL_law_33 (Or.inr (by rw [nI_toInt (by omega)]; omega)) (by decide) (kk _ _ hJ hS)
set_option maxHeartbeats 4000000 in
set_option maxRecDepth 100000 in
theorem law_loop (hk : lawK p s m meth c b L xs (dC, dI) cI ga) (hA : adOk s ad ae) : ∀ (n i : Nat) (H : Heap) (locs : List Loc) (ls : Array Slot), i ≤ L → L < i + 6 * n + 6 → kJ (dC, dI) cI ad ae H → va_S (lwA s) s.heap H locs → lv_has ls 4 [(0, .ref b), (1, .ref (ad 0)), (2, .ref (ae 0)), (3, .int (nI i))] → W p l e room_1 s m #[Value.ref b] below meth c H locs 207 3939 (lw_Z below #[Value.ref b] s) (F0 m 18 ls []) := by
  obtain ⟨⟨hx, hb, hml, hown, hts⟩, ⟨hr, hlocks⟩, ⟨hX, hbl, hL⟩, hK, hN, hG⟩ := id hk
  have fin : ∀ (H : Heap) (locs : List Loc) (ls : Array Slot), va_S (lwA s) s.heap H locs → W p l e room_1 s m #[Value.ref b] below meth c H locs 207 3939 (lw_Z below #[Value.ref b] s) (F0 m 965 ls []) := by
    intro H locs ls hS
    refine lv_iconst (v := 1) hx hb dL_law_965 (by decide) ?_
    refine va_forget (fun q hq => hS.2.2 q hq) ?_
    refine W.widen (k := 600000) (n := 7302250) (Nat.le_of_ble_eq_true rfl) (Nat.le_of_ble_eq_true rfl) ?_
    exact lw_ret hx hb hr hlocks dL_law_966
  intro n
  induction n with
  | zero =>
    intro i H locs ls hi hn hJ hS hl
    exact law_head hk hi hS hl (fin H locs ls hS) (fun h6 => by omega)
  | succ n ih =>
    intro i H locs ls hi hn hJ hS hl
    refine law_head hk hi hS hl (fin H locs ls hS) (fun h6 => ?_)
    refine law_switch hk hA h6 hJ hS hl (fun H1 locs1 hJ1 hS1 => ?_)
    refine lv_iinc (v := nI (i + 6)) (lv' := [(3, .int (nI (i + 6))), (0, .ref b), (1, .ref (ad 0)), (2, .ref (ae 0))]) hx hb dL_law_959 hl (k := 3) rfl (nI_add i 6) (by decide) rfl (fun ls2 hl2 => ?_)
    refine lv_goto (tgt := 18) hx hb dL_law_962 (by decide) ?_
    exact ih (i + 6) H1 locs1 ls2 (by omega) (by omega) hJ1 hS1 (lv_sub hl2 [1, 2, 3, 0] rfl)
end LAWL
