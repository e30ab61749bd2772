/-! rows over the two worlds -/
section KR
variable {p : Program} {l : Launch} {e : Env} {R : Room} {s : State} {m : MethodId} {args : Array Value} {below : List Frame} {meth : Method} {c : Code} {H : Heap} {locs : List Loc} {cells slots : Nat} {Q : State → Prop}
variable {pc : Nat} {ls : Array Slot} {rest : List Value} {cc : ByteArray} {D : va_G} {A : Nat → Prop} {a : Nat} {cI : ClassId} {ws ws' : va_W} {H0 : Heap} {own : String}
-- numbers
theorem kn_top {x x' : Int32} (h : x = x') (k : W p l e R s m args below meth c H locs cells slots Q (F0 m pc ls (.int x' :: rest))) : W p l e R s m args below meth c H locs cells slots Q (F0 m pc ls (.int x :: rest)) := by rw [h]; exact k
theorem kn_nm {x : Nat} (k : ∀ z : Nat, z = x → W p l e R s m args below meth c H locs cells slots Q (F0 m pc ls (.int (nI z) :: rest))) : W p l e R s m args below meth c H locs cells slots Q (F0 m pc ls (.int (nI x) :: rest)) := k x rfl
theorem kn_iadd (hx : p.tables.exec = Jvm.exec) (hb : c.code = cc) {x y : Int32} (a b : Nat) (ha : x = nI a) (hy : y = nI b) (hdg : decode cc pc = .ok (.iadd, 1))
    (k : W p l e R s m args below meth c H locs cells slots Q (F0 m (pc + 1) ls (.int (nI (a + b)) :: rest))) : W p l e R s m args below meth c H locs cells slots Q (F0 m pc ls (.int y :: .int x :: rest)) := by
  subst ha; subst hy
  exact lv_iadd hx hb hdg (by rw [nI_add]; exact k)
theorem kn_imul (hx : p.tables.exec = Jvm.exec) (hb : c.code = cc) {x y : Int32} (a b : Nat) (ha : x = nI a) (hy : y = nI b) (hdg : decode cc pc = .ok (.imul, 1))
    (k : W p l e R s m args below meth c H locs cells slots Q (F0 m (pc + 1) ls (.int (nI (a * b)) :: rest))) : W p l e R s m args below meth c H locs cells slots Q (F0 m pc ls (.int y :: .int x :: rest)) := by
  subst ha; subst hy
  exact lv_imul hx hb hdg (by rw [pk_mul]; exact k)
theorem kct_lt {i N : Nat} {B : Int32} (hB : B.toNatClampNeg = N) (h : i < N) : ¬ B ≤ nI i := by
  intro hle
  subst hB
  have h1 := Int32.le_iff_toInt_le.mp hle
  have h2 := Int32.toInt_lt B
  have h3 : B.toNatClampNeg = B.toInt.toNat := rfl
  rw [nI_toInt (by omega)] at h1
  omega
theorem kct_ge {i N : Nat} {B : Int32} (hB : B.toNatClampNeg = N) (h : N ≤ i) (hi : i < 2 ^ 31) : B ≤ nI i := by
  subst hB
  have h3 : B.toNatClampNeg = B.toInt.toNat := rfl
  rw [Int32.le_iff_toInt_le, nI_toInt hi]
  omega
theorem kcl_lt (B : Int32) : B.toNatClampNeg < 2 ^ 31 := by
  have h2 := Int32.toInt_lt B
  have h3 : B.toNatClampNeg = B.toInt.toNat := rfl
  omega
-- arrays at an index that is a number
theorem kn_iald (hx : p.tables.exec = Jvm.exec) (hb : c.code = cc) (hK : va_K D vwCl [(cI, .int)] s) (hP : va_P D vwCl ws H) (q0 : Nat) {n : Nat} {f : Nat → Int32} (ha : ws[q0]? = some (a, .inl (cI, n, .inl f))) {i : Int32} (k : Nat) (hi : i = nI k) (hk : k < n) (hn : n < 2 ^ 31) {v : Int32} (hv : f k = v) (hdg : decode cc pc = .ok (.iaload, 1))
    (kk : W p l e R s m args below meth c H locs cells slots Q (F0 m (pc + 1) ls (.int v :: rest))) : W p l e R s m args below meth c H locs cells slots Q (F0 m pc ls (.int i :: .ref a :: rest)) := by
  subst hi
  refine va_iald hx hb hK hP q0 0 ha rfl (vp_in_nI hk hn) hdg ?_
  rw [nI_clamp (by omega), hv]
  exact kk
theorem kn_iast (hx : p.tables.exec = Jvm.exec) (hb : c.code = cc) (hK : va_K D vwCl [(cI, .int)] s) (hP : va_P D vwCl ws H) (hD : va_D A ws) (hS : va_S A H0 H locs) (q0 : Nat) {n : Nat} {f : Nat → Int32} (ha : ws[q0]? = some (a, .inl (cI, n, .inl f))) {i x : Int32} (k : Nat) (hi : i = nI k) (hk : k < n) (hn : n < 2 ^ 31) (hset : ws.set q0 (a, .inl (cI, n, .inl (upd f k x))) = ws') (hdg : decode cc pc = .ok (.iastore, 1))
    (kk : ∀ (H1 : Heap) (locs1 : List Loc), va_P D vwCl ws' H1 → va_S A H0 H1 locs1 → W p l e R s m args below meth c H1 locs1 cells slots Q (F0 m (pc + 1) ls rest)) : W p l e R s m args below meth c H locs cells slots Q (F0 m pc ls (.int x :: .int i :: .ref a :: rest)) := by
  subst hi
  refine va_iast hx hb hK hP hD hS q0 0 ha rfl (vp_in_nI hk hn) hdg (fun H1 locs1 h1 _ h3 => kk H1 locs1 ?_ h3)
  rw [nI_clamp (by omega), hset] at h1
  exact h1
-- fields of an object at a known place, by the class itself
theorem k_get {C : String} {T : u_T} {N ci index q0 : Nat} {fs : List Value} (hx : p.tables.exec = Jvm.exec) (hb : c.code = cc) (hts : ∀ w ∈ kT, w.before args s = true) (hin : ∀ w ∈ u_ws C T N, w ∈ kT) (hown : s.vm.findClass own = some m.cls) (hK : va_K D vwCl [(cI, .int)] s) (hP : va_P D vwCl ws H) (he : ws[q0]? = some (a, .inr (ci, fs))) (hc : vwCl[ci]? = some (C, T, N)) (k : Nat) (hk : k < N) (hd : (T k).1 = C) (hl : Cond.fieldLink own index C (T k).2.1 (T k).2.2.1 ∈ kT) {v : Value} (hv : fs[k]? = some v) (hdg : decode cc pc = .ok (.getfield index, 3))
    (kk : W p l e R s m args below meth c H locs cells slots Q (F0 m (pc + 3) ls (v :: rest))) : W p l e R s m args below meth c H locs cells slots Q (F0 m pc ls (.ref a :: rest)) :=
  va_get hx hb hts hin hown hK hP q0 he hc k hk (hts _ hl) (fun _ h9 => by rw [hd] at h9; exact h9) hv hdg kk
/-- the same by a nest mate -/
theorem k_getN {C host : String} {T : u_T} {N ci index q0 : Nat} {fs : List Value} (hx : p.tables.exec = Jvm.exec) (hb : c.code = cc) (hts : ∀ w ∈ kT, w.before args s = true) (hN : kN s) (hin : ∀ w ∈ u_ws C T N, w ∈ kT) (hown : s.vm.findClass own = some m.cls) (hK : va_K D vwCl [(cI, .int)] s) (hP : va_P D vwCl ws H) (he : ws[q0]? = some (a, .inr (ci, fs))) (hc : vwCl[ci]? = some (C, T, N)) (k : Nat) (hk : k < N) (hd : (T k).1 = C) (hl : Cond.fieldLinkNest own index C (T k).2.1 (T k).2.2.1 host ∈ kNest) {v : Value} (hv : fs[k]? = some v) (hdg : decode cc pc = .ok (.getfield index, 3))
    (kk : W p l e R s m args below meth c H locs cells slots Q (F0 m (pc + 3) ls (v :: rest))) : W p l e R s m args below meth c H locs cells slots Q (F0 m pc ls (.ref a :: rest)) :=
  va_getN hx hb hts hin hown hK hP q0 he hc k hk (hN.use hl) (fun _ h9 => by rw [hd] at h9; exact h9) hv hdg kk
theorem k_put {C : String} {T : u_T} {N ci index q0 : Nat} {fs : List Value} (hx : p.tables.exec = Jvm.exec) (hb : c.code = cc) (hts : ∀ w ∈ kT, w.before args s = true) (hin : ∀ w ∈ u_ws C T N, w ∈ kT) (ty0 : Nat → FieldType) (hty : ∀ k, k < N → parseFieldDescriptor (T k).2.2.1 = some (ty0 k)) (hnm : ∀ a, a < N → ∀ b, b < N → a ≠ b → (T a).2.1 ≠ (T b).2.1) (hown : s.vm.findClass own = some m.cls) (hK : va_K D vwCl [(cI, .int)] s) (hP : va_P D vwCl ws H) (hD : va_D A ws) (hS : va_S A H0 H locs) (he : ws[q0]? = some (a, .inr (ci, fs))) (hc : vwCl[ci]? = some (C, T, N)) (k : Nat) (hk : k < N) (hd : (T k).1 = C) (hl : Cond.fieldLink own index C (T k).2.1 (T k).2.2.1 ∈ kT) {ty : FieldType} {v : Value} (hfin : (T k).2.2.2 = false) (hpd : parseFieldDescriptor (T k).2.2.1 = some ty) (hn : narrow ty v = v) (hfit : fits ty v = true) (hlen : k < fs.length) (hset : ws.set q0 (a, .inr (ci, fs.set k v)) = ws') (hdg : decode cc pc = .ok (.putfield index, 3))
    (kk : ∀ (H1 : Heap) (locs1 : List Loc), va_P D vwCl ws' H1 → va_S A H0 H1 locs1 → W p l e R s m args below meth c H1 locs1 cells slots Q (F0 m (pc + 3) ls rest)) : W p l e R s m args below meth c H locs cells slots Q (F0 m pc ls (v :: .ref a :: rest)) :=
  va_put hx hb hts hin ty0 hty hnm hown hK hP hD hS q0 he hc k hk (hts _ hl) (fun _ h9 => by rw [hd] at h9; exact h9) hfin hpd hn hfit hlen hdg (fun H1 locs1 h1 _ h3 => kk H1 locs1 (hset ▸ h1) h3)
theorem k_putN {C host : String} {T : u_T} {N ci index q0 : Nat} {fs : List Value} (hx : p.tables.exec = Jvm.exec) (hb : c.code = cc) (hts : ∀ w ∈ kT, w.before args s = true) (hN : kN s) (hin : ∀ w ∈ u_ws C T N, w ∈ kT) (ty0 : Nat → FieldType) (hty : ∀ k, k < N → parseFieldDescriptor (T k).2.2.1 = some (ty0 k)) (hnm : ∀ a, a < N → ∀ b, b < N → a ≠ b → (T a).2.1 ≠ (T b).2.1) (hown : s.vm.findClass own = some m.cls) (hK : va_K D vwCl [(cI, .int)] s) (hP : va_P D vwCl ws H) (hD : va_D A ws) (hS : va_S A H0 H locs) (he : ws[q0]? = some (a, .inr (ci, fs))) (hc : vwCl[ci]? = some (C, T, N)) (k : Nat) (hk : k < N) (hd : (T k).1 = C) (hl : Cond.fieldLinkNest own index C (T k).2.1 (T k).2.2.1 host ∈ kNest) {ty : FieldType} {v : Value} (hfin : (T k).2.2.2 = false) (hpd : parseFieldDescriptor (T k).2.2.1 = some ty) (hn : narrow ty v = v) (hfit : fits ty v = true) (hlen : k < fs.length) (hset : ws.set q0 (a, .inr (ci, fs.set k v)) = ws') (hdg : decode cc pc = .ok (.putfield index, 3))
    (kk : ∀ (H1 : Heap) (locs1 : List Loc), va_P D vwCl ws' H1 → va_S A H0 H1 locs1 → W p l e R s m args below meth c H1 locs1 cells slots Q (F0 m (pc + 3) ls rest)) : W p l e R s m args below meth c H locs cells slots Q (F0 m pc ls (v :: .ref a :: rest)) :=
  va_putN hx hb hts hin ty0 hty hnm hown hK hP hD hS q0 he hc k hk (hN.use hl) (fun _ h9 => by rw [hd] at h9; exact h9) hfin hpd hn hfit hlen hdg (fun H1 locs1 h1 _ h3 => kk H1 locs1 (hset ▸ h1) h3)
-- the reference's own
variable {ad : Nat → Nat} {RA : Nat → Nat → Int32} {RS : Nat → Int32} {RN : Nat → Nat} {RL : Int64}
theorem m_get {index : Nat} (hx : p.tables.exec = Jvm.exec) (hb : c.code = cc) (hts : ∀ w ∈ kT, w.before args s = true) (hown : s.vm.findClass RX8 = some m.cls) (hK : va_K D vwCl [(cI, .int)] s) (hP : va_P D vwCl (RWs cI ad RA RS RN RL) H) (k : Nat) (hk : k < 42) (hd : (TX8 k).1 = RX8) (hl : Cond.fieldLink RX8 index RX8 (TX8 k).2.1 (TX8 k).2.2.1 ∈ kT) {v : Value} (hv : (mflds ad RS RN RL)[k]? = some v) (hdg : decode cc pc = .ok (.getfield index, 3))
    (kk : W p l e R s m args below meth c H locs cells slots Q (F0 m (pc + 3) ls (v :: rest))) : W p l e R s m args below meth c H locs cells slots Q (F0 m pc ls (.ref (ad 0) :: rest)) :=
  k_get (q0 := 0) (ci := 7) hx hb hts inT_X8 hown hK hP rfl rfl k hk hd hl hv hdg kk
theorem m_put {index : Nat} {RS' : Nat → Int32} {RN' : Nat → Nat} {RL' : Int64} (hx : p.tables.exec = Jvm.exec) (hb : c.code = cc) (hts : ∀ w ∈ kT, w.before args s = true) (hown : s.vm.findClass RX8 = some m.cls) (hI : kInj ad 24) (hK : va_K D vwCl [(cI, .int)] s) (hP : va_P D vwCl (RWs cI ad RA RS RN RL) H) (hS : va_S (kAA ad 24) H0 H locs) (k : Nat) (hk : k < 42) (hd : (TX8 k).1 = RX8) (hl : Cond.fieldLink RX8 index RX8 (TX8 k).2.1 (TX8 k).2.2.1 ∈ kT) {ty : FieldType} {v : Value} (hfin : (TX8 k).2.2.2 = false) (hpd : parseFieldDescriptor (TX8 k).2.2.1 = some ty) (hn : narrow ty v = v) (hfit : fits ty v = true) (hset : (mflds ad RS RN RL).set k v = mflds ad RS' RN' RL') (hdg : decode cc pc = .ok (.putfield index, 3))
    (kk : ∀ (H1 : Heap) (locs1 : List Loc), va_P D vwCl (RWs cI ad RA RS' RN' RL') H1 → va_S (kAA ad 24) H0 H1 locs1 → W p l e R s m args below meth c H1 locs1 cells slots Q (F0 m (pc + 3) ls rest)) : W p l e R s m args below meth c H locs cells slots Q (F0 m pc ls (v :: .ref (ad 0) :: rest)) :=
  k_put (q0 := 0) (ci := 7) (ws' := RWs cI ad RA RS' RN' RL') hx hb hts inT_X8 tyX8 tyX8_ok nmX8 hown hK hP (RWsD hI) hS rfl rfl k hk hd hl hfin hpd hn hfit (by show k < 42; exact hk) (by show (RWs cI ad RA RS RN RL).set 0 (ad 0, .inr (7, (mflds ad RS RN RL).set k v)) = _; rw [hset]; rfl) hdg kk
theorem kn_ialdG (hx : p.tables.exec = Jvm.exec) (hb : c.code = cc) (hK : va_K D vwCl [(cI, .int)] s) (hP : va_P D vwCl ws H) (q0 : Nat) {n : Nat} {f : Nat → Int32} (ha : ws[q0]? = some (a, .inl (cI, n, .inl f))) {i : Int32} (hi : vp_in i n) {v : Int32} (hv : f i.toNatClampNeg = v) (hdg : decode cc pc = .ok (.iaload, 1))
    (kk : W p l e R s m args below meth c H locs cells slots Q (F0 m (pc + 1) ls (.int v :: rest))) : W p l e R s m args below meth c H locs cells slots Q (F0 m pc ls (.int i :: .ref a :: rest)) := by
  subst hv
  exact va_iald hx hb hK hP q0 0 ha rfl hi hdg kk
theorem kd_table {x : Int32} {dflt lo hi : Int} {offs : Array Int} {len tgt : Nat} (hx : p.tables.exec = Jvm.exec) (hb : c.code = cc) (hdg : decode cc pc = .ok (.tableswitch dflt lo hi offs, len)) (hd : ∀ q : Int, lo ≤ q → q ≤ hi → q = x.toInt → offs[(q - lo).toNat]? = some dflt) (ht : (pc : Int) + dflt = (tgt : Int))
    (k : W p l e R s m args below meth c H locs cells slots Q (F0 m tgt ls rest)) : W p l e R s m args below meth c H locs cells slots Q (F0 m pc ls (.int x :: rest)) := by
  by_cases h1 : x.toInt < lo
  · exact lv_tableOut hx hb hdg (Or.inl h1) ht k
  · by_cases h2 : hi < x.toInt
    · exact lv_tableOut hx hb hdg (Or.inr h2) ht k
    · exact lv_tableIn hx hb hdg h1 h2 (hd x.toInt (by omega) (by omega) rfl) ht k
end KR
/-- the same world, its rows otherwise written -/
theorem RWs_conv {D : va_G} {cI : ClassId} {ad : Nat → Nat} {H : Heap} {RA RA' : Nat → Nat → Int32} {RS RS' : Nat → Int32} {RN RN' : Nat → Nat} {RL : Int64} (a0 : RA 0 = RA' 0) (a2 : RA 2 = RA' 2) (a5 : RA 5 = RA' 5) (a6 : RA 6 = RA' 6) (a7 : RA 7 = RA' 7) (a8 : RA 8 = RA' 8) (a9 : RA 9 = RA' 9) (a10 : RA 10 = RA' 10) (a11 : RA 11 = RA' 11) (a12 : RA 12 = RA' 12) (a13 : RA 13 = RA' 13) (a14 : RA 14 = RA' 14) (a21 : RA 21 = RA' 21) (a22 : RA 22 = RA' 22) (a23 : RA 23 = RA' 23) (a24 : RA 24 = RA' 24) (a25 : RA 25 = RA' 25) (a31 : RA 31 = RA' 31) (a33 : RA 33 = RA' 33) (a36 : RA 36 = RA' 36) (a37 : RA 37 = RA' 37) (a39 : RA 39 = RA' 39) (a41 : RA 41 = RA' 41) (s15 : RS 15 = RS' 15) (s16 : RS 16 = RS' 16) (s17 : RS 17 = RS' 17) (s18 : RS 18 = RS' 18) (s19 : RS 19 = RS' 19) (s20 : RS 20 = RS' 20) (s26 : RS 26 = RS' 26) (s27 : RS 27 = RS' 27) (s30 : RS 30 = RS' 30) (s38 : RS 38 = RS' 38) (n1 : RN 1 = RN' 1) (n3 : RN 3 = RN' 3) (n4 : RN 4 = RN' 4) (n28 : RN 28 = RN' 28) (n29 : RN 29 = RN' 29) (n32 : RN 32 = RN' 32) (n34 : RN 34 = RN' 34) (n35 : RN 35 = RN' 35) (h : va_P D vwCl (RWs cI ad RA RS RN RL) H) : va_P D vwCl (RWs cI ad RA' RS' RN' RL) H := by
  have e : RWs cI ad RA RS RN RL = RWs cI ad RA' RS' RN' RL := by
    unfold RWs mflds
    rw [a0, a2, a5, a6, a7, a8, a9, a10, a11, a12, a13, a14, a21, a22, a23, a24, a25, a31, a33, a36, a37, a39, a41, s15, s16, s17, s18, s19, s20, s26, s27, s30, s38, n1, n3, n4, n28, n29, n32, n34, n35]
  rw [← e]; exact h
