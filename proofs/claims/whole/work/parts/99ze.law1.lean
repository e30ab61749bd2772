/-! the law: calls into one of two worlds -/
section LAW1
variable {p : Program} {l : Launch} {e : Env} {R : Room} {s : State} {m : MethodId} {args : Array Value} {below : List Frame} {meth : Method} {c : Code} {H : Heap} {locs : List Loc} {cells slots : Nat} {Q : State → Prop}
variable {pc : Nat} {ls : Array Slot} {rest st0 : List Value} {cc bytes : ByteArray} {nL maxL index n mc ms : Nat} {own : String} {y : MethodName} {ret : Option FieldType} {rm : Room} {free : Addr → Prop} {b : Addr} {As : List Value} {D : va_G} {tys : List (ClassId × FieldType)} {ws ws' : va_W} {A A' : Nat → Prop} {H0 : Heap} {B Pn : State → Prop}
/-- a call that writes within A' alone, whatever it asks of the state -/
theorem k_wL {r : Option Value} {ci q0 : Nat} {qc : vw_C} {fs : List Value} (hAA : ∀ q, A' q → A q) (hx : p.tables.exec = Jvm.exec) (hb : c.code = cc) (hml : c.maxLocals = nL) (hown : s.vm.findClass own = some m.cls) (hts : ∀ w ∈ kT, w.before args s = true) (hsz : ls.size = nL)
    (hP : va_P D vwCl ws H) (hK : va_K D vwCl tys s) (hS : va_S A H0 H locs) (hbl : FrameBlind (va_Pc (.ref b :: As) B)) (hB : ∀ U : State, U.heap = H → s.WarmedH U.vm → B U)
    (hM : Met l y (.code y bytes maxL ret :: kT) rm (va_Pc (.ref b :: As) B) (kQ r (kB D tys ws') A') 0 0 A') (he : kEV own index y bytes maxL ret n)
    (hci : vwCl[ci]? = some qc) (hcn : qc.1 = y.cls) (hq0 : ws[q0]? = some (b, .inr (ci, fs)))
    (hn : As.length = n) (hstack : st0 = As.reverse ++ .ref b :: rest) (hW : (rest.map fun v => v.category).sum ≤ 8) (hR : rm.frames + 1 ≤ R.frames ∧ 8 + (maxL + 11) + rm.locals ≤ R.locals) (hrm : rm.cells = 0 ∧ rm.slots = 0) (hf : cells + 0 ≤ R.cells ∧ slots + 0 ≤ R.slots)
    (hdg : decode cc pc = .ok (.invokevirtual index, 3)) (k : ∀ (H1 : Heap) (locs1 : List Loc), va_P D vwCl ws' H1 → (∀ q, q < H.size → ¬ A' q → H1[q]? = H[q]?) → va_S A H0 H1 locs1 → W p l e R s m args below meth c H1 locs1 cells slots Q (F0 m (pc + 3) ls (r.toList ++ rest))) : W p l e R s m args below meth c H locs cells slots Q (F0 m pc ls st0) := by
  have cw := kcwV (R := R) (rm := rm) hts he hR
  rw [hrm.1, hrm.2] at cw
  have hrecv := va_recv hK hP hci hq0
  rw [hcn] at hrecv
  have hr := W.runV (g := F0 m pc ls st0) (rest := rest) (p := p) (l := l) (e := e) (below := below) (meth := meth) (locs := locs) (cells := cells) (slots := slots) ⟨hx, hb, hml, hown, hts⟩ hM cw ⟨hbl, hrecv, fun U hU hW => ⟨rfl, hB U hU hW⟩⟩ rfl hn hsz hstack (lv_room hW) hdg hf
  intro T hT X
  obtain ⟨v', st₀, t, T', L, h0, X', hL, e1, ⟨hv, hB', hz, hk⟩, st⟩ := hr T hT X
  cases hv
  rw [h0] at hz hk
  obtain ⟨t2, a1, b1⟩ := k T'.heap (locs ++ L) (by rw [e1]; exact hB'.1) (fun q h1 h2 => by rw [e1]; exact hk q h1 h2) ⟨Nat.le_trans hS.1 (by rw [e1]; exact hz), fun q h1 h2 => by rw [e1, hk q (Nat.lt_of_lt_of_le h1 hS.1) (fun q9 => h2 (hAA _ q9))]; exact hS.2.1 q h1 h2, fun q hq => by
      rcases List.mem_append.mp hq with h | h
      · exact hS.2.2 q h
      · exact hAA _ (hL q h)⟩ T' rfl X'
  exact ⟨t2, st t2 a1, b1⟩
/-- a constructor's call, whatever it leaves -/
theorem k_iL (hAA : ∀ q, free q → A q) (hx : p.tables.exec = Jvm.exec) (hb : c.code = cc) (hml : c.maxLocals = nL) (hown : s.vm.findClass own = some m.cls) (hts : ∀ w ∈ kT, w.before args s = true) (hsz : ls.size = nL)
    (hS : va_S A H0 H locs) (hbl : FrameBlind (va_Pc (.ref b :: As) B)) (hB : ∀ U : State, U.heap = H → s.WarmedH U.vm → B U)
    (hM : Met l y (.code y bytes maxL none :: kT) rm (va_Pc (.ref b :: As) B) (fun _ st oc t => oc = .returned none ∧ Pn t ∧ va_F free st t) mc ms free) (he : kEI own index y bytes maxL none n)
    (hn : As.length = n) (hstack : st0 = As.reverse ++ .ref b :: rest) (hW : (rest.map fun v => v.category).sum ≤ 8) (hR : rm.frames + 1 ≤ R.frames ∧ 8 + (maxL + 11) + rm.locals ≤ R.locals) (hrm : rm.cells = mc ∧ rm.slots = ms) (hf : cells + mc ≤ R.cells ∧ slots + ms ≤ R.slots)
    (hdg : decode cc pc = .ok (.invokespecial index, 3)) (k : ∀ (t : State) (H1 : Heap) (locs1 : List Loc), t.heap = H1 → Pn t → (∀ q, q < H.size → ¬ free q → H1[q]? = H[q]?) → H.size ≤ H1.size → va_S A H0 H1 locs1 → W p l e R s m args below meth c H1 locs1 (cells + mc) (slots + ms) Q (F0 m (pc + 3) ls rest)) : W p l e R s m args below meth c H locs cells slots Q (F0 m pc ls st0) := by
  have cw := kcwI (R := R) (rm := rm) hts he hR
  rw [hrm.1, hrm.2] at cw
  have hr := W.runI (g := F0 m pc ls st0) (rest := rest) (p := p) (l := l) (e := e) (below := below) (meth := meth) (locs := locs) (cells := cells) (slots := slots) (H := H) ⟨hx, hb, hml, hown, hts⟩ hM cw ⟨hbl, fun U hU hW => ⟨rfl, hB U hU hW⟩⟩ rfl hn hsz hstack (lv_room hW) hdg hf
  intro T hT X
  obtain ⟨v', st₀, t, T', LL, h0, X', hL, e1, ⟨hv, hp, hz, hk⟩, st⟩ := hr T hT X
  cases hv
  rw [h0] at hz hk
  obtain ⟨t2, a1, b1⟩ := k t T'.heap (locs ++ LL) e1.symm hp (fun q h1 h2 => by rw [e1]; exact hk q h1 h2) (by rw [e1]; exact hz) ⟨Nat.le_trans hS.1 (by rw [e1]; exact hz), fun q h1 h2 => by rw [e1, hk q (Nat.lt_of_lt_of_le h1 hS.1) (fun q9 => h2 (hAA _ q9))]; exact hS.2.1 q h1 h2, fun q hq => by
      rcases List.mem_append.mp hq with h | h
      · exact hS.2.2 q h
      · exact hAA _ (hL q h)⟩ T' rfl X'
  exact ⟨t2, st t2 a1, b1⟩
end LAW1
theorem kG.narrow {ga : Nat → Nat} {A B : Nat → Prop} {U : State} (h : kG ga A U) (hAB : ∀ q, B q → A q) : kG ga B U := by
  obtain ⟨⟨⟨a1, a2⟩, ⟨a3, a4⟩, a5, a6⟩, ⟨a7, a8⟩, ⟨a9, a10⟩, a11, a12⟩ := h
  exact ⟨⟨⟨a1.narrow hAB, a2.narrow hAB⟩, ⟨a3.narrow hAB, a4.narrow hAB⟩, a5.narrow hAB, a6.narrow hAB⟩, ⟨a7.narrow hAB, a8⟩, ⟨a9.narrow hAB, a10.narrow hAB⟩, a11.narrow hAB, a12.narrow hAB⟩
theorem lg_self (x : Int64) : lg_cmp x x = 0 := by
  have h1 : ¬ lg_cmp x x < 0 := by rw [kcmp_lt]; omega
  have h2 : ¬ 0 < lg_cmp x x := by rw [kcmp_gt]; omega
  rw [ti_lt, ti_0] at h1 h2
  exact Int32.toInt_inj.mp (by rw [ti_0]; omega)
/-- the region that the law itself may write: all that is new -/
def lwA (s : State) : Nat → Prop := fun q => s.heap.size ≤ q
/-- the two objects' cells lie apart, and are new -/
def adOk (s : State) (ad ae : Nat → Nat) : Prop := (kInj ad 183 ∧ kInj ae 24) ∧ (∀ i j, i < 183 → j < 24 → ad i ≠ ae j) ∧ (∀ k, k < 183 → lwA s (ad k)) ∧ ∀ k, k < 24 → lwA s (ae k)
/-- both worlds, and all that is alike between them -/
def kJ (D : va_G) (cI : ClassId) (ad ae : Nat → Nat) (H : Heap) : Prop := ∃ (ML : Nat → Nat → Int32) (MS : Nat → Int32) (PL : Nat → Nat → Nat → Int32) (PS : Nat → Nat → Int32) (VL : Nat → Nat → Nat → Int32) (VS : Nat → Nat → Int32) (LL : Int64) (RA : Nat → Nat → Int32) (RS : Nat → Int32) (RN : Nat → Nat) (RL : Int64),
  sX ML MS PL PS VL VS RA RS RN ∧ va_P D vwCl (cws cI ad ML MS PL PS VL VS LL) H ∧ va_P D vwCl (RWs cI ae RA RS RN RL) H
section LAW2
variable {s : State} {ad ae : Nat → Nat} {D : va_G} {cI : ClassId} {H H1 : Heap} {ML : Nat → Nat → Int32} {MS : Nat → Int32} {PL : Nat → Nat → Nat → Int32} {PS : Nat → Nat → Int32} {VL : Nat → Nat → Nat → Int32} {VS : Nat → Nat → Int32} {LL : Int64} {RA : Nat → Nat → Int32} {RS : Nat → Int32} {RN : Nat → Nat} {RL : Int64}
theorem adOk.c (h : adOk s ad ae) : ∀ q, kAA ad 183 q → lwA s q := fun q ⟨k, hk, e⟩ => by rw [e]; exact h.2.2.1 k hk
theorem adOk.r (h : adOk s ad ae) : ∀ q, kAA ae 24 q → lwA s q := fun q ⟨k, hk, e⟩ => by rw [e]; exact h.2.2.2 k hk
theorem keepR (h : adOk s ad ae) (hP : va_P D vwCl (RWs cI ae RA RS RN RL) H) (hq : ∀ q, q < H.size → ¬ kAA ad 183 q → H1[q]? = H[q]?) : va_P D vwCl (RWs cI ae RA RS RN RL) H1 :=
  hP.kept (fun k x hx => hq x.1 ((hP k x hx).lt) (fun ⟨i, hi, e⟩ => by
    obtain ⟨j, hj, e2⟩ := (RWsD (cI := cI) (RA := RA) (RS := RS) (RN := RN) (RL := RL) h.1.2).2 k x hx
    exact h.2.1 i j hi hj (e.symm.trans e2)))
theorem keepC (h : adOk s ad ae) (hP : va_P D vwCl (cws cI ad ML MS PL PS VL VS LL) H) (hq : ∀ q, q < H.size → ¬ kAA ae 24 q → H1[q]? = H[q]?) : va_P D vwCl (cws cI ad ML MS PL PS VL VS LL) H1 :=
  hP.kept (fun k x hx => hq x.1 ((hP k x hx).lt) (fun ⟨j, hj, e⟩ => by
    obtain ⟨i, hi, e2⟩ := (cwsD (cI := cI) (ML := ML) (MS := MS) (PL := PL) (PS := PS) (VL := VL) (VS := VS) (LL := LL) h.1.1).2 k x hx
    exact h.2.1 i j hi hj (e2.symm.trans e)))
end LAW2
/-- what stands in the law all along -/
def lawK (p : Program) (s : State) (m : MethodId) (meth : Method) (c : Code) (b L : Nat) (xs : Nat → Int32) (D : va_G) (cI : ClassId) (ga : Nat → Nat) : Prop :=
  (p.tables.exec = Jvm.exec ∧ c.code = cL_law ∧ c.maxLocals = 4 ∧ s.vm.findClass RL = some m.cls ∧ (∀ w ∈ kT, w.before #[Value.ref b] s = true)) ∧ (meth.sig.returnType = ret ∧ meth.locks = false) ∧ (va_X b L xs s s.heap ∧ b < s.heap.size ∧ L ≤ 3072) ∧ va_K D vwCl [(cI, .int)] s ∧ kN s ∧ kG ga (lwA s) s
