/-! what a village's likeness hangs on; all that is alike between two calls -/
def mG (RA : Nat → Nat → Int32) (RN : Nat → Nat) : Prop := RN 32 ≤ 12 ∧ (∀ k, k < 12 → 0 ≤ (RA 31 k).toInt ∧ (RA 31 k).toInt < 3) ∧ RN 34 ≤ 2 ∧ RN 1 ≤ 500
theorem mG_of {RA : Nat → Nat → Int32} {RS : Nat → Int32} {RN : Nat → Nat} (h : mI RA RS RN) : mG RA RN := ⟨mI_rowMany h, h.2.2.2.2.2.2.2.1, mI_kept h, mI_len h⟩
/-- the same plan -/
def eP (RA RA' : Nat → Nat → Int32) (RS RS' : Nat → Int32) (RN RN' : Nat → Nat) : Prop :=
  ((RA' 5 = RA 5 ∧ RA' 6 = RA 6) ∧ (RA' 7 = RA 7 ∧ RA' 8 = RA 8) ∧ (RA' 9 = RA 9 ∧ RA' 10 = RA 10) ∧ (RA' 11 = RA 11 ∧ RA' 12 = RA 12) ∧ RA' 13 = RA 13 ∧ RA' 14 = RA 14) ∧
  ((RS' 15 = RS 15 ∧ RS' 16 = RS 16) ∧ (RS' 17 = RS 17 ∧ RS' 18 = RS 18) ∧ RS' 19 = RS 19 ∧ RS' 20 = RS 20) ∧ RN' 4 = RN 4
theorem eP.rf {RA : Nat → Nat → Int32} {RS : Nat → Int32} {RN : Nat → Nat} : eP RA RA RS RS RN RN := ⟨⟨⟨rfl, rfl⟩, ⟨rfl, rfl⟩, ⟨rfl, rfl⟩, ⟨rfl, rfl⟩, rfl, rfl⟩, ⟨⟨rfl, rfl⟩, ⟨rfl, rfl⟩, rfl, rfl⟩, rfl⟩
theorem eP.tr {RA RA' RA2 : Nat → Nat → Int32} {RS RS' RS2 : Nat → Int32} {RN RN' RN2 : Nat → Nat} (h : eP RA RA' RS RS' RN RN') (k : eP RA' RA2 RS' RS2 RN' RN2) : eP RA RA2 RS RS2 RN RN2 := by
  obtain ⟨⟨⟨a1, a2⟩, ⟨a3, a4⟩, ⟨a5, a6⟩, ⟨a7, a8⟩, a9, a10⟩, ⟨⟨b1, b2⟩, ⟨b3, b4⟩, b5, b6⟩, c⟩ := h
  obtain ⟨⟨⟨d1, d2⟩, ⟨d3, d4⟩, ⟨d5, d6⟩, ⟨d7, d8⟩, d9, d10⟩, ⟨⟨f1, f2⟩, ⟨f3, f4⟩, f5, f6⟩, g⟩ := k
  exact ⟨⟨⟨d1.trans a1, d2.trans a2⟩, ⟨d3.trans a3, d4.trans a4⟩, ⟨d5.trans a5, d6.trans a6⟩, ⟨d7.trans a7, d8.trans a8⟩, d9.trans a9, d10.trans a10⟩, ⟨⟨f1.trans b1, f2.trans b2⟩, ⟨f3.trans b3, f4.trans b4⟩, f5.trans b5, f6.trans b6⟩, g.trans c⟩
/-- the same village, in the reference -/
def eV (RA RA' : Nat → Nat → Int32) (RS RS' : Nat → Int32) (RN RN' : Nat → Nat) : Prop :=
  ((∀ j, j < 16 → RA' 21 j = RA 21 j) ∧ (∀ j, j < 8 → RA' 22 j = RA 22 j) ∧ (∀ j, j < 8 → RA' 23 j = RA 23 j) ∧ (∀ j, j < 24 → RA' 24 j = RA 24 j) ∧ ∀ j, j < 8 → RA' 25 j = RA 25 j) ∧
  (RS' 26 = RS 26 ∧ RS' 27 = RS 27 ∧ RS' 30 = RS 30) ∧ RN' 28 = RN 28 ∧ RN' 29 = RN 29
theorem eV.rf {RA : Nat → Nat → Int32} {RS : Nat → Int32} {RN : Nat → Nat} : eV RA RA RS RS RN RN := ⟨⟨fun _ _ => rfl, fun _ _ => rfl, fun _ _ => rfl, fun _ _ => rfl, fun _ _ => rfl⟩, ⟨rfl, rfl, rfl⟩, rfl, rfl⟩
/-- the same village, in the class -/
def eC (vl vl' : Nat → Nat → Int32) (vs vs' : Nat → Int32) : Prop :=
  ((∀ j, j < 16 → vl' 1 j = vl 1 j) ∧ (∀ j, j < 8 → vl' 2 j = vl 2 j) ∧ (∀ j, j < 8 → vl' 3 j = vl 3 j) ∧ (∀ j, j < 8 → vl' 4 j = vl 4 j) ∧ ∀ j, j < 24 → vl' 5 j = vl 5 j) ∧
  (vs' 8 = vs 8 ∧ vs' 9 = vs 9) ∧ (vs' 10 = vs 10 ∧ vs' 11 = vs 11) ∧ vs' 12 = vs 12
theorem eC.rf {vl : Nat → Nat → Int32} {vs : Nat → Int32} : eC vl vl vs vs := ⟨⟨fun _ _ => rfl, fun _ _ => rfl, fun _ _ => rfl, fun _ _ => rfl, fun _ _ => rfl⟩, ⟨rfl, rfl⟩, ⟨rfl, rfl⟩, rfl⟩
section SX
variable {vl vl' pl : Nat → Nat → Int32} {vs vs' ps : Nat → Int32} {RA RA' : Nat → Nat → Int32} {RS RS' : Nat → Int32} {RN RN' : Nat → Nat}
theorem sD.cg (h : sD vl vs pl ps RA RS RN) (p : eP RA RA' RS RS' RN RN') (v : eV RA RA' RS RS' RN RN') (c : eC vl vl' vs vs') (g : mG RA' RN') : sD vl' vs' pl ps RA' RS' RN' := by
  have h8 := h.many
  obtain ⟨⟨⟨a5, a6⟩, ⟨a7, a8⟩, ⟨a9, a10⟩, ⟨a11, a12⟩, a13, a14⟩, ⟨⟨b15, b16⟩, ⟨b17, b18⟩, b19, b20⟩, n4⟩ := p
  obtain ⟨⟨e21, e22, e23, e24, e25⟩, ⟨s26, s27, s30⟩, n28, n29⟩ := v
  obtain ⟨⟨c1, c2, c3, c4, c5⟩, ⟨d8, d9⟩, ⟨d10, d11⟩, d12⟩ := c
  obtain ⟨g1, g2, g3, g4⟩ := g
  have hP : sP pl ps RA' RS' RN' := by
    unfold sP
    rw [n4, a5, a6, a7, a8, a9, a10, a11, a12, a13, a14, b15, b16, b17, b18, b19, b20]
    exact h.P
  have hM : mI RA' RS' RN' := by
    obtain ⟨m1, m2, m3, m4, m5, m6, m7, m8, m9, m10, m11, m12⟩ := h.M
    refine ⟨by rw [n4]; exact m1, by rw [a12]; exact m2, fun i hi => by rw [e25 i hi]; exact m3 i hi, by rw [a8]; exact m4, by rw [n29]; exact m5, by rw [n28]; exact m6, g1, g2, g3, g4, by rw [a11]; exact m11, by rw [a10]; exact m12⟩
  have hz : rS RA' RN' := by
    intro i hi k hk hb
    rw [n4] at hi
    rw [a12] at hb
    rw [e22 i (by omega)]
    exact h.z i hi k hk hb
  have hB : rB RA' RS' RN' := by
    unfold rB
    rw [n4, a5, a6, a7, a8, a9, a10, a12, a13, a14, b15, b16, b17, b18, b19, b20]
    exact h.b
  have hC : mC RA' RS' RN' := by
    intro i hi hs
    rw [n4] at hi
    rw [s26] at hs
    have q := h.C i hi hs
    unfold m_chances at q ⊢
    rw [be_cg (RA := RA') (RA' := RA) (e22 i (by omega)) a10 a11 a12]
    exact q
  refine ⟨⟨⟨hP, hM⟩, ⟨hz, hB⟩, hC⟩, ⟨⟨fun j hj => ?_, fun j hj => ?_⟩, ⟨fun j hj => ?_, fun j hj => ?_⟩, fun i k hi hk => ?_⟩, ⟨⟨?_, ?_⟩, ⟨?_, ?_⟩, ?_, ?_⟩, ⟨fun j hj => ?_, fun i hi hf => ?_, ?_⟩, fun j hj => ?_, ?_⟩
  · rw [n4] at hj; rw [c1 j (by omega), e21 j (by omega)]; exact h.e1 j hj
  · rw [n4] at hj; rw [c2 j (by omega), e22 j (by omega)]; exact h.e2 j hj
  · rw [n4] at hj; rw [c3 j (by omega), e23 j (by omega)]; exact h.e3 j hj
  · rw [n4] at hj; rw [c4 j (by omega), e25 j (by omega)]; exact h.e4 j hj
  · rw [n4] at hi
    rw [e25 i (by omega)] at hk
    have := mI_pm h.M i (by omega)
    rw [c5 _ (by omega), e24 _ (by omega)]; exact h.e5 i k hi hk
  · rw [d8, s26]; exact h.v8
  · rw [d9, s30]; exact h.v9
  · rw [d10, s27]; exact h.v10
  · rw [d11, n28]; exact h.v11
  · rw [d12, n29]; exact h.v12
  · rw [n4, n29]; exact h.told
  · rw [n4] at hj; rw [e21 j (by omega)]; exact h.w1 j hj
  · rw [n4] at hi; rw [s26] at hf; rw [e21 _ (by omega), e21 _ (by omega)]; exact h.w2 i hi hf
  · rw [n4, s26]; exact h.w3
  · rw [e24 j hj]; exact h.w5 j hj
  · rw [s30]; exact h.cr
/-- a kept village -/
def sK (vl : Nat → Nat → Int32) (vs : Nat → Int32) (pl : Nat → Nat → Int32) (ps : Nat → Int32) (RA : Nat → Nat → Int32) (RS : Nat → Int32) (RN : Nat → Nat) (k : Nat) : Prop :=
  ∀ (RA' : Nat → Nat → Int32) (RS' : Nat → Int32) (RN' : Nat → Nat), eP RA RA' RS RS' RN RN' → mG RA' RN' →
  ((∀ j, j < 16 → RA' 21 j = RA 33 (100 * k + 24 + j)) ∧ (∀ j, j < 8 → RA' 22 j = RA 33 (100 * k + 40 + j)) ∧ (∀ j, j < 8 → RA' 23 j = RA 33 (100 * k + 48 + j)) ∧ (∀ j, j < 24 → RA' 24 j = RA 33 (100 * k + j)) ∧ ∀ j, j < 8 → RA' 25 j = RA 33 (100 * k + 56 + j)) →
  (RS' 26 = RA 33 (100 * k + 64) ∧ RS' 27 = RA 33 (100 * k + 65) ∧ RS' 30 = RA 33 (100 * k + 68)) → (RN' 28 = (RA 33 (100 * k + 66)).toNatClampNeg ∧ RN' 29 = (RA 33 (100 * k + 67)).toNatClampNeg) → sD vl vs pl ps RA' RS' RN'
theorem sK.cg {k : Nat} (h : sK vl vs pl ps RA RS RN k) (p : eP RA RA' RS RS' RN RN') (e : RA' 33 = RA 33) : sK vl vs pl ps RA' RS' RN' k := by
  intro RA2 RS2 RN2 p2 g a s n
  rw [e] at a s n
  exact h RA2 RS2 RN2 (p.tr p2) g a s n
end SX
/-- all that is alike between two calls -/
def sX (ML : Nat → Nat → Int32) (MS : Nat → Int32) (PL : Nat → Nat → Nat → Int32) (PS : Nat → Nat → Int32) (VL : Nat → Nat → Nat → Int32) (VS : Nat → Nat → Int32) (RA : Nat → Nat → Int32) (RS : Nat → Int32) (RN : Nat → Nat) : Prop :=
  sD (VL 0) (VS 0) (PL 0) (PS 0) RA RS RN ∧
  (MS 2 = nI (RN 1) ∧ ∀ j, j < RN 1 → ML 0 j = RA 0 j ∧ 0 ≤ (RA 0 j).toInt ∧ (RA 0 j).toInt < 256) ∧
  (MS 1 = nI (RN 32) ∧ ∀ j, j < RN 32 → ML 2 j = RA 31 j) ∧
  MS 0 = nI (RN 34) ∧ mK RA RN ∧ ∀ k, k < RN 34 → sK (VL (1 + k)) (VS (1 + k)) (PL 0) (PS 0) RA RS RN k
section SX2
variable {ML ML' : Nat → Nat → Int32} {MS MS' : Nat → Int32} {PL : Nat → Nat → Nat → Int32} {PS : Nat → Nat → Int32} {VL VL' : Nat → Nat → Nat → Int32} {VS VS' : Nat → Nat → Int32} {RA RA' : Nat → Nat → Int32} {RS RS' : Nat → Int32} {RN RN' : Nat → Nat}
theorem sX.D (h : sX ML MS PL PS VL VS RA RS RN) : sD (VL 0) (VS 0) (PL 0) (PS 0) RA RS RN := h.1
theorem sX.skies (h : sX ML MS PL PS VL VS RA RS RN) : MS 1 = nI (RN 32) ∧ ∀ j, j < RN 32 → ML 2 j = RA 31 j := h.2.2.1
/-- only looked at: the reference's views and the class's courses may have changed -/
theorem sX.look (h : sX ML MS PL PS VL VS RA RS RN) (p : eP RA RA' RS RS' RN RN') (v : eV RA RA' RS RS' RN RN') (e0 : RA' 0 = RA 0) (e31 : RA' 31 = RA 31) (e33 : RA' 33 = RA 33) (n1 : RN' 1 = RN 1) (n32 : RN' 32 = RN 32) (n34 : RN' 34 = RN 34)
    (m0 : ML' 0 = ML 0) (m2 : ML' 2 = ML 2) (s0 : MS' 0 = MS 0) (s1 : MS' 1 = MS 1) (s2 : MS' 2 = MS 2) (hv : ∀ k, k < 3 → VL' k = VL k ∧ VS' k = VS k) : sX ML' MS' PL PS VL' VS' RA' RS' RN' := by
  have hg : mG RA' RN' := by unfold mG; rw [n32, e31, n34, n1]; exact mG_of h.D.M
  refine ⟨?_, ⟨by rw [s2, n1]; exact h.2.1.1, by rw [n1, m0, e0]; exact h.2.1.2⟩, ⟨by rw [s1, n32]; exact h.2.2.1.1, by rw [n32, m2, e31]; exact h.2.2.1.2⟩, by rw [s0, n34]; exact h.2.2.2.1, ?_, fun k hk => ?_⟩
  · rw [(hv 0 (by omega)).1, (hv 0 (by omega)).2]
    exact h.D.cg p v eC.rf hg
  · unfold mK
    rw [n34, e33]; exact h.2.2.2.2.1
  · rw [n34] at hk
    have h34 := mI_kept h.D.M
    rw [(hv (1 + k) (by omega)).1, (hv (1 + k) (by omega)).2]
    exact (h.2.2.2.2.2 k hk).cg p e33
end SX2
