/-! THE GROUND: the program's own arrays and its string, which nothing ever writes. ga: 0 NUMBERS, 1 LEAST, 2 MOST, 3 the string, 4 its bytes -/
def gNum (j : Nat) : Int32 := ([6, 3, 2, 4, 4, 1, 2, 1, 2, 1] : List Int32).getD j 0
def gLeast (j : Nat) : Int32 := ([0, 0, 0, 1, 0, 0, 0, 1, 0, 0, 0, 0, 0, 0, 0, 0, 0, 0, 0, 0, 0, 0, 0, 0, 0, 0, 0, 0, 0, 0, 0, 0, 0, 0, 0, 0, 0, 1, 0, 0, 0, 0, 0, 0, 0, 0, 0, 0, 0, 1, 0, 0, 0, 0, 0, 0, 0, 0, 0, 0] : List Int32).getD j 0
def gMost (j : Nat) : Int32 := ([200, 200, 20, 999, 999, 8, 7, 999, 10, 0, 0, 0, 7, 99, 0, 0, 0, 0, 2, 60, 60, 9, 0, 0, 2, 10, 10, 10, 0, 0, 2, 0, 0, 0, 0, 0, 9, 50, 0, 0, 0, 0, 99, 0, 0, 0, 0, 0, 200, 20, 0, 0, 0, 0, 999, 0, 0, 0, 0, 0] : List Int32).getD j 0
def gStr (j : Nat) : Int32 := ([114, 98, 112, 107, 99, 115, 104, 103, 111, 108] : List Int32).getD j 0
def kG (ga : Nat → Nat) (A : Nat → Prop) (U : State) : Prop :=
  ((va_Z "RoofsOfSnow" "NUMBERS" "[I" (.ref (ga 0)) A U U.heap ∧ va_T .int (ga 0) 10 (fun j => .int (gNum j)) A U U.heap) ∧
   (va_Z "RoofsOfSnow" "LEAST" "[I" (.ref (ga 1)) A U U.heap ∧ va_T .int (ga 1) 60 (fun j => .int (gLeast j)) A U U.heap) ∧
   (va_Z "RoofsOfSnow" "MOST" "[I" (.ref (ga 2)) A U U.heap ∧ va_T .int (ga 2) 60 (fun j => .int (gMost j)) A U U.heap)) ∧
  (va_Z "java/lang/String" "COMPACT_STRINGS" "Z" (.int 1) A U U.heap ∧ vk_R "RoofsOfSnow$Reader" 47 "rbpkcshgol" (ga 3) U) ∧
  (va_O "java/lang/String" (ga 3) A U U.heap ∧ va_OF "java/lang/String" "coder" "B" (.int 0) (ga 3) A U U.heap) ∧
  (va_OF "java/lang/String" "value" "[B" (.ref (ga 4)) (ga 3) A U U.heap ∧ va_T .byte (ga 4) 10 (fun j => .int (gStr j)) A U U.heap)
section GROUND
variable {ga : Nat → Nat} {A : Nat → Prop} {s U : State}
theorem kG.num (h : kG ga A U) : va_Z "RoofsOfSnow" "NUMBERS" "[I" (.ref (ga 0)) A U U.heap := h.1.1.1
theorem kG.numT (h : kG ga A U) : va_T .int (ga 0) 10 (fun j => .int (gNum j)) A U U.heap := h.1.1.2
theorem kG.least (h : kG ga A U) : va_Z "RoofsOfSnow" "LEAST" "[I" (.ref (ga 1)) A U U.heap := h.1.2.1.1
theorem kG.leastT (h : kG ga A U) : va_T .int (ga 1) 60 (fun j => .int (gLeast j)) A U U.heap := h.1.2.1.2
theorem kG.most (h : kG ga A U) : va_Z "RoofsOfSnow" "MOST" "[I" (.ref (ga 2)) A U U.heap := h.1.2.2.1
theorem kG.mostT (h : kG ga A U) : va_T .int (ga 2) 60 (fun j => .int (gMost j)) A U U.heap := h.1.2.2.2
theorem kG.comp (h : kG ga A U) : va_Z "java/lang/String" "COMPACT_STRINGS" "Z" (.int 1) A U U.heap := h.2.1.1
theorem kG.str (h : kG ga A U) : vk_R "RoofsOfSnow$Reader" 47 "rbpkcshgol" (ga 3) U := h.2.1.2
theorem kG.obj (h : kG ga A U) : va_O "java/lang/String" (ga 3) A U U.heap := h.2.2.1.1
theorem kG.coder (h : kG ga A U) : va_OF "java/lang/String" "coder" "B" (.int 0) (ga 3) A U U.heap := h.2.2.1.2
theorem kG.val (h : kG ga A U) : va_OF "java/lang/String" "value" "[B" (.ref (ga 4)) (ga 3) A U U.heap := h.2.2.2.1
theorem kG.valT (h : kG ga A U) : va_T .byte (ga 4) 10 (fun j => .int (gStr j)) A U U.heap := h.2.2.2.2
theorem kG.blind {av : List Value} : FrameBlind (va_Pc av (kG ga A)) := fun a U g mk q => by
  have hv : U.vm.Alike (U.calling g mk a).vm := Vm.Alike.refl U.vm
  obtain ⟨q0, ⟨⟨a1, a2⟩, ⟨a3, a4⟩, a5, a6⟩, ⟨a7, a8⟩, ⟨a9, a10⟩, a11, a12⟩ := q
  exact ⟨q0, ⟨⟨a1.moved hv, a2.moved hv⟩, ⟨a3.moved hv, a4.moved hv⟩, a5.moved hv, a6.moved hv⟩, ⟨a7.moved hv, vk_R.same rfl a8⟩, ⟨a9.moved hv, a10.moved hv⟩, a11.moved hv, a12.moved hv⟩
theorem kG.of {H : Heap} {locs : List Loc} (h : kG ga A s) (hS : va_S A s.heap H locs) (hU : U.heap = H) (hW : s.WarmedH U.vm) : kG ga A U := by
  have hv := hW.alike
  have hq := hS.2.1
  subst hU
  obtain ⟨⟨⟨a1, a2⟩, ⟨a3, a4⟩, a5, a6⟩, ⟨a7, a8⟩, ⟨a9, a10⟩, a11, a12⟩ := h
  exact ⟨⟨⟨(a1.moved hv).kept hq, (a2.moved hv).kept hq⟩, ⟨(a3.moved hv).kept hq, (a4.moved hv).kept hq⟩, (a5.moved hv).kept hq, (a6.moved hv).kept hq⟩, ⟨(a7.moved hv).kept hq, vk_R.warm hW a8⟩, ⟨(a9.moved hv).kept hq, (a10.moved hv).kept hq⟩, (a11.moved hv).kept hq, (a12.moved hv).kept hq⟩
def kBG (ga : Nat → Nat) (A : Nat → Prop) (D : va_G) (tys : List (ClassId × FieldType)) (ws : va_W) (U : State) : Prop := kB D tys ws U ∧ kG ga A U
theorem kBG.blind {D : va_G} {tys : List (ClassId × FieldType)} {ws : va_W} {av : List Value} : FrameBlind (va_Pc av (kBG ga A D tys ws)) := fun a U g mk q => ⟨q.1, (kB.blind (av := av) a U g mk ⟨q.1, q.2.1⟩).2, (kG.blind (av := av) a U g mk ⟨q.1, q.2.2⟩).2⟩
end GROUND
section CORE3
variable {p : Program} {l : Launch} {e : Env} {R : Room} {s : State} {m : MethodId} {args : Array Value} {below : List Frame} {meth : Method} {c : Code} {H : Heap} {locs : List Loc} {cells slots : Nat} {Q : State → Prop}
variable {pc : Nat} {ls : Array Slot} {rest st0 : List Value} {cc bytes : ByteArray} {nL maxL index n mc ms : Nat} {own : String} {y : MethodName} {ret : Option FieldType} {rm : Room} {Pc : Array Value → State → Prop} {Qc : Array Value → State → Outcome → State → Prop} {free : Addr → Prop} {b : Addr} {As : List Value} {D : va_G} {tys : List (ClassId × FieldType)} {ws ws' : va_W} {A : Nat → Prop} {H0 : Heap} {ga : Nat → Nat}
/-- a call that reads alone, of a method of an object, whatever it asks of the state -/
theorem k_rVG {v : Value} {B : State → Prop} (hx : p.tables.exec = Jvm.exec) (hb : c.code = cc) (hml : c.maxLocals = nL) (hown : s.vm.findClass own = some m.cls) (hts : ∀ w ∈ kT, w.before args s = true) (hsz : ls.size = nL)
    (hrecv : ∃ cell : Cell, H[b]? = some cell ∧ cell.vm.isStatics = false ∧ s.vm.findClass y.cls = some cell.cls) (hbl : FrameBlind (va_Pc (.ref b :: As) B)) (hB : ∀ U : State, U.heap = H → s.WarmedH U.vm → B U)
    (hM : Met l y (.code y bytes maxL ret :: kT) rm (va_Pc (.ref b :: As) B) (kR (some v)) 0 0 (fun _ => False)) (he : kEV own index y bytes maxL ret n)
    (hn : As.length = n) (hstack : st0 = As.reverse ++ .ref b :: rest) (hW : (rest.map fun v => v.category).sum ≤ 8) (hR : rm.frames + 1 ≤ R.frames ∧ 8 + (maxL + 11) + rm.locals ≤ R.locals) (hrm : rm.cells = 0 ∧ rm.slots = 0) (hf : cells + 0 ≤ R.cells ∧ slots + 0 ≤ R.slots)
    (hdg : decode cc pc = .ok (.invokevirtual index, 3)) (k : W p l e R s m args below meth c H locs cells slots Q (F0 m (pc + 3) ls (v :: rest))) : W p l e R s m args below meth c H locs cells slots Q (F0 m pc ls st0) := by
  have cw := kcwV (R := R) (rm := rm) hts he hR
  rw [hrm.1, hrm.2] at cw
  have hr := W.runV (g := F0 m pc ls st0) (rest := rest) (p := p) (l := l) (e := e) (below := below) (meth := meth) (locs := locs) (cells := cells) (slots := slots) ⟨hx, hb, hml, hown, hts⟩ hM cw ⟨hbl, hrecv, fun U hU hW => ⟨rfl, hB U hU hW⟩⟩ rfl hn hsz hstack (lv_room hW) hdg hf
  intro T hT X
  obtain ⟨v', st₀, t, T', L, h0, X', hL, e1, ⟨hv, hh⟩, st⟩ := hr T hT X
  cases hv
  obtain ⟨t2, a1, b1⟩ := k T' (by rw [e1, hh, h0]) (Stand.forget X' (fun q h => (hL q h).elim))
  exact ⟨t2, st t2 a1, b1⟩
/-- a call that writes, of a method of an object that asks for the ground too -/
theorem k_wVG {r : Option Value} {ci q0 : Nat} {qc : vw_C} {fs : List Value} (hx : p.tables.exec = Jvm.exec) (hb : c.code = cc) (hml : c.maxLocals = nL) (hown : s.vm.findClass own = some m.cls) (hts : ∀ w ∈ kT, w.before args s = true) (hsz : ls.size = nL)
    (hP : va_P D vwCl ws H) (hK : va_K D vwCl tys s) (hN : kN s) (hG : kG ga A s) (hS : va_S A s.heap H locs)
    (hM : Met l y (.code y bytes maxL ret :: kT) rm (va_Pc (.ref b :: As) (kBG ga A D tys ws)) (kQ r (kB D tys ws') A) 0 0 A) (he : kEV own index y bytes maxL ret n)
    (hci : vwCl[ci]? = some qc) (hcn : qc.1 = y.cls) (hq0 : ws[q0]? = some (b, .inr (ci, fs)))
    (hn : As.length = n) (hstack : st0 = As.reverse ++ .ref b :: rest) (hW : (rest.map fun v => v.category).sum ≤ 8) (hR : rm.frames + 1 ≤ R.frames ∧ 8 + (maxL + 11) + rm.locals ≤ R.locals) (hrm : rm.cells = 0 ∧ rm.slots = 0) (hf : cells + 0 ≤ R.cells ∧ slots + 0 ≤ R.slots)
    (hdg : decode cc pc = .ok (.invokevirtual index, 3)) (k : ∀ (H1 : Heap) (locs1 : List Loc), va_P D vwCl ws' H1 → va_S A s.heap H1 locs1 → W p l e R s m args below meth c H1 locs1 cells slots Q (F0 m (pc + 3) ls (r.toList ++ rest))) : W p l e R s m args below meth c H locs cells slots Q (F0 m pc ls st0) := by
  have cw := kcwV (R := R) (rm := rm) hts he hR
  rw [hrm.1, hrm.2] at cw
  have hrecv := va_recv hK hP hci hq0
  rw [hcn] at hrecv
  have hr := W.runV (g := F0 m pc ls st0) (rest := rest) (p := p) (l := l) (e := e) (below := below) (meth := meth) (locs := locs) (cells := cells) (slots := slots) ⟨hx, hb, hml, hown, hts⟩ hM cw ⟨kBG.blind, hrecv, fun U hU hW => ⟨rfl, kB.of hP hK hN hU hW, hG.of hS hU hW⟩⟩ rfl hn hsz hstack (lv_room hW) hdg hf
  intro T hT X
  obtain ⟨v', st₀, t, T', L, h0, X', hL, e1, ⟨hv, hB', hz, hk⟩, st⟩ := hr T hT X
  cases hv
  rw [h0] at hz hk
  obtain ⟨t2, a1, b1⟩ := k T'.heap (locs ++ L) (by rw [e1]; exact hB'.1) ⟨Nat.le_trans hS.1 (by rw [e1]; exact hz), fun q h1 h2 => by rw [e1, hk q (Nat.lt_of_lt_of_le h1 hS.1) h2]; exact hS.2.1 q h1 h2, fun q hq => by
      rcases List.mem_append.mp hq with h | h
      · exact hS.2.2 q h
      · exact hL q h⟩ T' rfl X'
  exact ⟨t2, st t2 a1, b1⟩
end CORE3
theorem gRecv {ga : Nat → Nat} {A : Nat → Prop} {s : State} {H : Heap} {locs : List Loc} (hG : kG ga A s) (hS : va_S A s.heap H locs) : ∃ cell : Cell, H[ga 3]? = some cell ∧ cell.vm.isStatics = false ∧ s.vm.findClass "java/lang/String" = some cell.cls := by
  obtain ⟨cell, h1, h2, h3, -⟩ := hG.obj.kept hS.2.1
  exact ⟨cell, h1, h2, h3⟩
theorem gIn60 {x : Int32} (h1 : ¬ x < 0) (h2 : ¬ 60 ≤ x) : vp_in x 60 := by
  rw [vp_in_iff]
  have h3 := Int32.not_lt.mp h1
  have h4 := Int32.not_le.mp h2
  rw [Int32.le_iff_toInt_le] at h3
  rw [Int32.lt_iff_toInt_lt] at h4
  exact ⟨h3, h4⟩
theorem gIn10 {x : Int32} (h1 : ¬ x < 0) (h2 : ¬ 10 ≤ x) : vp_in x 10 := by
  rw [vp_in_iff]
  have h3 := Int32.not_lt.mp h1
  have h4 := Int32.not_le.mp h2
  rw [Int32.le_iff_toInt_le] at h3
  rw [Int32.lt_iff_toInt_lt] at h4
  exact ⟨h3, h4⟩
theorem gIn60b {x : Int32} (h1 : ¬ x < 0) (h2 : x < 60) : vp_in x 60 := gIn60 h1 (Int32.not_le.mpr h2)
theorem gIn10b {x : Int32} (h1 : ¬ x < 0) (h2 : x < 10) : vp_in x 10 := gIn10 h1 (Int32.not_le.mpr h2)
