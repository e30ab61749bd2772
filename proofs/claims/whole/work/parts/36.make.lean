/-! constructors: new arrays, final fields, calls that write less than one may -/
section MAKE
variable {p : Program} {l : Launch} {e : Env} {R : Room} {s : State} {m : MethodId} {args : Array Value} {below : List Frame} {meth : Method} {c : Code} {H : Heap} {locs : List Loc} {cells slots : Nat} {Q : State → Prop}
variable {pc : Nat} {ls : Array Slot} {rest st0 : List Value} {cc bytes : ByteArray} {nL maxL index n mc ms : Nat} {own : String} {y : MethodName} {ret : Option FieldType} {rm : Room} {Pc : Array Value → State → Prop} {Qc : Array Value → State → Outcome → State → Prop} {free : Addr → Prop} {b : Addr} {As : List Value} {D : va_G} {tys : List (ClassId × FieldType)} {ws ws' : va_W} {A A' : Nat → Prop} {H0 : Heap} {cI : ClassId} {a : Addr} {ad : Nat → Nat} {RA : Nat → Nat → Int32} {RS : Nat → Int32} {RN : Nat → Nat} {RL : Int64}
theorem k_newa (hx : p.tables.exec = Jvm.exec) (hb : c.code = cc) (hts : ∀ w ∈ kT, w.before args s = true) (hK : va_K D vwCl [(cI, .int)] s) (hP : va_P D vwCl ws H) (hD : va_D A ws) (hS : va_S A H0 H locs) (hA : ∀ q, H0.size ≤ q → A q) {n : Int32} (N' : Nat) (hn : ¬ n < 0) (hN : n.toNatClampNeg = N') (hbytes : N' * 4 ≤ 536870912) (hcells : cells + 1 ≤ R.cells) (hslots : slots + N' ≤ R.slots) (hdg : decode cc pc = .ok (.newarray .int, 2))
    (kk : ∀ (q : Nat) (H1 : Heap), va_P D vwCl (ws ++ [(q, .inl (cI, N', .inl (fun _ => 0)))]) H1 → va_D A (ws ++ [(q, .inl (cI, N', .inl (fun _ => 0)))]) → va_S A H0 H1 locs → W p l e R s m args below meth c H1 locs (cells + 1) (slots + N') Q (F0 m (pc + 2) ls (.ref q :: rest))) : W p l e R s m args below meth c H locs cells slots Q (F0 m pc ls (.int n :: rest)) := by
  refine va_newa (atype := .int) (ty := .int) (a0 := (N', .inl (fun _ => 0))) hx hb (hts _ k_arrI) rfl hK hP hD hS hA (fun _ => rfl) hn hN hbytes hcells hslots hdg (fun q cA H1 hK1 hP1 hD1 hS1 => ?_)
  have h1 : s.vm.findClass ("[" ++ (FieldType.int).toString) = some cI := (hK1.2 0 _ rfl).2
  have h2 : s.vm.findClass ("[" ++ (FieldType.int).toString) = some cA := (hK1.2 1 _ rfl).2
  have h3 : cA = cI := Option.some.inj (h2.symm.trans h1)
  subst h3
  exact kk q H1 hP1 hD1 hS1
theorem k_putF {C : String} {T : u_T} {N ci index q0 : Nat} {fs : List Value} (hx : p.tables.exec = Jvm.exec) (hb : c.code = cc) (hts : ∀ w ∈ kT, w.before args s = true) (hin : ∀ w ∈ u_ws C T N, w ∈ kT) (ty0 : Nat → FieldType) (hty : ∀ k, k < N → parseFieldDescriptor (T k).2.2.1 = some (ty0 k)) (hnm : ∀ a, a < N → ∀ b, b < N → a ≠ b → (T a).2.1 ≠ (T b).2.1) (hown : s.vm.findClass own = some m.cls) (hname : meth.name = "<init>") (hK : va_K D vwCl [(cI, .int)] s) (hP : va_P D vwCl ws H) (hD : va_D A ws) (hS : va_S A H0 H locs) (he : ws[q0]? = some (a, .inr (ci, fs))) (hc : vwCl[ci]? = some (C, T, N)) (k : Nat) (hk : k < N) (hd : (T k).1 = C) (hd2 : (T k).1 = own) (hl : Cond.fieldLink own index C (T k).2.1 (T k).2.2.1 ∈ kT) {ty : FieldType} {v : Value} (hfin : (T k).2.2.2 = true) (hpd : parseFieldDescriptor (T k).2.2.1 = some ty) (hn : narrow ty v = v) (hfit : fits ty v = true) (hlen : k < fs.length) (hset : ws.set q0 (a, .inr (ci, fs.set k v)) = ws') (hdg : decode cc pc = .ok (.putfield index, 3))
    (kk : ∀ (H1 : Heap) (locs1 : List Loc), va_P D vwCl ws' H1 → va_D A ws' → va_S A H0 H1 locs1 → W p l e R s m args below meth c H1 locs1 cells slots Q (F0 m (pc + 3) ls rest)) : W p l e R s m args below meth c H locs cells slots Q (F0 m pc ls (v :: .ref a :: rest)) :=
  va_putF hx hb hts hin ty0 hty hnm hown hK hP hD hS q0 he hc k hk (hts _ hl) (fun _ h9 => by rw [hd] at h9; exact h9) hfin hname hd2 hpd hn hfit hlen hdg (fun H1 locs1 h1 h2 h3 => kk H1 locs1 (hset ▸ h1) (hset ▸ h2) h3)
theorem k_wVf {r : Option Value} {ci q0 : Nat} {qc : vw_C} {fs : List Value} (hAA : ∀ q, A' q → A q) (hx : p.tables.exec = Jvm.exec) (hb : c.code = cc) (hml : c.maxLocals = nL) (hown : s.vm.findClass own = some m.cls) (hts : ∀ w ∈ kT, w.before args s = true) (hsz : ls.size = nL)
    (hP : va_P D vwCl ws H) (hK : va_K D vwCl tys s) (hN : kN s) (hS : va_S A H0 H locs)
    (hM : Met l y (.code y bytes maxL ret :: kT) rm (va_Pc (.ref b :: As) (kB D tys ws)) (kQ r (kB D tys ws') A') 0 0 A') (he : kEV own index y bytes maxL ret n)
    (hci : vwCl[ci]? = some qc) (hcn : qc.1 = y.cls) (hq0 : ws[q0]? = some (b, .inr (ci, fs)))
    (hn : As.length = n) (hstack : st0 = As.reverse ++ .ref b :: rest) (hW : (rest.map fun v => v.category).sum ≤ 8) (hR : rm.frames + 1 ≤ R.frames ∧ 8 + (maxL + 11) + rm.locals ≤ R.locals) (hrm : rm.cells = 0 ∧ rm.slots = 0) (hf : cells + 0 ≤ R.cells ∧ slots + 0 ≤ R.slots)
    (hdg : decode cc pc = .ok (.invokevirtual index, 3)) (k : ∀ (H1 : Heap) (locs1 : List Loc), va_P D vwCl ws' H1 → va_S A H0 H1 locs1 → W p l e R s m args below meth c H1 locs1 cells slots Q (F0 m (pc + 3) ls (r.toList ++ rest))) : W p l e R s m args below meth c H locs cells slots Q (F0 m pc ls st0) := by
  have cw := kcwV (R := R) (rm := rm) hts he hR
  rw [hrm.1, hrm.2] at cw
  have hrecv := va_recv hK hP hci hq0
  rw [hcn] at hrecv
  have hr := W.runV (g := F0 m pc ls st0) (rest := rest) (p := p) (l := l) (e := e) (below := below) (meth := meth) (locs := locs) (cells := cells) (slots := slots) ⟨hx, hb, hml, hown, hts⟩ hM cw ⟨kB.blind, hrecv, fun U hU hW => ⟨rfl, kB.of hP hK hN hU hW⟩⟩ rfl hn hsz hstack (lv_room hW) hdg hf
  intro T hT X
  obtain ⟨v', st₀, t, T', L, h0, X', hL, e1, ⟨hv, hB', hz, hk⟩, st⟩ := hr T hT X
  cases hv
  rw [h0] at hz hk
  obtain ⟨t2, a1, b1⟩ := k T'.heap (locs ++ L) (by rw [e1]; exact hB'.1) ⟨Nat.le_trans hS.1 (by rw [e1]; exact hz), fun q h1 h2 => by rw [e1, hk q (Nat.lt_of_lt_of_le h1 hS.1) (fun q9 => h2 (hAA _ q9))]; exact hS.2.1 q h1 h2, fun q hq => by
      rcases List.mem_append.mp hq with h | h
      · exact hS.2.2 q h
      · exact hAA _ (hL q h)⟩ T' rfl X'
  exact ⟨t2, st t2 a1, b1⟩
/-- the k-th of some addresses -/
def kAt (l : List Nat) (k : Nat) : Nat := l.getD k 0
theorem kAt_in (hD : va_D A ws) (l : List Nat) (hl : ws.map Prod.fst = l) : kInj (kAt l) l.length ∧ ∀ k, k < l.length → A (kAt l k) := by
  subst hl
  have key : ∀ k, k < (ws.map Prod.fst).length → ∃ q, ws[k]? = some q ∧ kAt (ws.map Prod.fst) k = q.1 := by
    intro k hk
    rw [List.length_map] at hk
    exact ⟨ws[k], List.getElem?_eq_getElem hk, by simp [kAt, hk]⟩
  refine ⟨fun i j hi hj h => ?_, fun k hk => ?_⟩
  · obtain ⟨x, hx, ex⟩ := key i hi
    obtain ⟨z, hz, ez⟩ := key j hj
    exact hD.1 i j x z hx hz (by rw [← ex, ← ez, h])
  · obtain ⟨x, hx, ex⟩ := key k hk
    rw [ex]
    exact hD.2 k x hx
theorem RWsDA (hI : kInj ad 24) (hAd : ∀ k, k < 24 → A (ad k)) : va_D A (RWs cI ad RA RS RN RL) := by
  have h := RWsD (cI := cI) (RA := RA) (RS := RS) (RN := RN) (RL := RL) hI
  exact ⟨h.1, fun k q hq => by obtain ⟨j, hj, e⟩ := h.2 k q hq; rw [e]; exact hAd j hj⟩
theorem m_putA {index : Nat} {RS' : Nat → Int32} {RN' : Nat → Nat} {RL' : Int64} (hAd : ∀ k, k < 24 → A (ad k)) (hx : p.tables.exec = Jvm.exec) (hb : c.code = cc) (hts : ∀ w ∈ kT, w.before args s = true) (hown : s.vm.findClass RX8 = some m.cls) (hI : kInj ad 24) (hK : va_K D vwCl [(cI, .int)] s) (hP : va_P D vwCl (RWs cI ad RA RS RN RL) H) (hS : va_S A H0 H locs) (k : Nat) (hk : k < 42) (hd : (TX8 k).1 = RX8) (hl : Cond.fieldLink RX8 index RX8 (TX8 k).2.1 (TX8 k).2.2.1 ∈ kT) {ty : FieldType} {v : Value} (hfin : (TX8 k).2.2.2 = false) (hpd : parseFieldDescriptor (TX8 k).2.2.1 = some ty) (hn : narrow ty v = v) (hfit : fits ty v = true) (hset : (mflds ad RS RN RL).set k v = mflds ad RS' RN' RL') (hdg : decode cc pc = .ok (.putfield index, 3))
    (kk : ∀ (H1 : Heap) (locs1 : List Loc), va_P D vwCl (RWs cI ad RA RS' RN' RL') H1 → va_S A H0 H1 locs1 → W p l e R s m args below meth c H1 locs1 cells slots Q (F0 m (pc + 3) ls rest)) : W p l e R s m args below meth c H locs cells slots Q (F0 m pc ls (v :: .ref (ad 0) :: rest)) :=
  k_put (q0 := 0) (ci := 7) (ws' := RWs cI ad RA RS' RN' RL') hx hb hts inT_X8 tyX8 tyX8_ok nmX8 hown hK hP (RWsDA hI hAd) hS rfl rfl k hk hd hl hfin hpd hn hfit (by show k < 42; exact hk) (by show (RWs cI ad RA RS RN RL).set 0 (ad 0, .inr (7, (mflds ad RS RN RL).set k v)) = _; rw [hset]; rfl) hdg kk
end MAKE
def zA : Nat → Nat → Int32 := fun _ _ => 0
def zS : Nat → Int32 := fun _ => 0
def zN : Nat → Nat := fun _ => 0
theorem mI_z : mI zA zS zN := ⟨by decide, fun _ _ => (show 0 ≤ (0 : Int32).toInt ∧ (0 : Int32).toInt ≤ 4 by decide), fun _ _ => (show 0 ≤ (0 : Int32).toInt ∧ (0 : Int32).toInt ≤ 3 by decide), fun _ _ => (show 0 ≤ (0 : Int32).toInt by decide), by decide, by decide, by decide, fun _ _ => (show 0 ≤ (0 : Int32).toInt ∧ (0 : Int32).toInt < 3 by decide), by decide, by decide, fun _ _ => (show 0 ≤ (0 : Int32).toInt ∧ (0 : Int32).toInt ≤ 10 by decide), fun _ _ => (show (0 : Int32).toInt < 1000000 by decide)⟩
theorem va_D_one {A : Nat → Prop} {a : Nat} {x : va_E} (h : A a) : va_D A [(a, x)] := by
  refine ⟨fun i j p q hp hq _ => ?_, fun k q hk => ?_⟩
  · have h1 := (List.getElem?_eq_some_iff.mp hp).1
    have h2 := (List.getElem?_eq_some_iff.mp hq).1
    simp at h1 h2
    omega
  · have h1 := (List.getElem?_eq_some_iff.mp hk).1
    simp at h1
    subst h1
    cases hk
    exact h
theorem mI_first {RA RA' : Nat → Nat → Int32} {RS' : Nat → Int32} {RN' : Nat → Nat} {r : (Nat → Int32) × (Nat → Int32) × (Nat → Int32) × (Nat → Int32) × (Nat → Int32) × (Nat → Int32)} (hr : r = m_bearsOf RA 0) (c12 : RA 12 = (m_reset_L46 8 0 (zA 9) (zA 12)).2) (c8 : RA 8 = upd (zA 8) 0 8) (c10 : RA 10 = zA 10) (c11 : RA 11 = zA 11) (c25 : RA 25 = zA 25) (c31 : RA 31 = zA 31) (a8 : RA' 8 = RA 8) (a10 : RA' 10 = r.1) (a11 : RA' 11 = r.2.1) (a12 : RA' 12 = r.2.2.1) (a25 : RA' 25 = r.2.2.2.2.2) (a31 : RA' 31 = RA 31) (e4 : RN' 4 = 1) (e28 : RN' 28 = 0) (e29 : RN' 29 = 0) (e32 : RN' 32 = 0) (e34 : RN' 34 = 0) (e1 : RN' 1 = 0) : mI RA' RS' RN' := by
  obtain ⟨m1, m2, m3, m4, m5, m6, m7, m8, m9, m10, m11, m12⟩ := mI_z
  have h : mI RA RS' RN' := by
    refine ⟨by omega, fun i hi => ?_, by rw [c25]; exact m3, fun i hi => ?_, by omega, by omega, by omega, by rw [c31]; exact m8, by omega, by omega, by rw [c11]; exact m11, by rw [c10]; exact m12⟩
    · rw [c12, (reset_L 0 _ _ i).2 (by omega) (by omega)]; decide
    · rw [c8]
      by_cases e : i = 0
      · rw [e, pk_us]; decide
      · rw [pk_un e]; exact m4 i hi
  exact mI_bearsOf h (by omega) hr a8 a10 a11 a12 a25 a31 rfl rfl rfl rfl rfl rfl
