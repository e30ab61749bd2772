/-! what is alike between two calls -/
def sD (vl : Nat → Nat → Int32) (vs : Nat → Int32) (pl : Nat → Nat → Int32) (ps : Nat → Int32) (RA : Nat → Nat → Int32) (RS : Nat → Int32) (RN : Nat → Nat) : Prop :=
  ((sP pl ps RA RS RN ∧ mI RA RS RN) ∧ (rS RA RN ∧ rB RA RS RN) ∧ mC RA RS RN) ∧
  ((eqF (2 * RN 4) (vl 1) (RA 21) ∧ eqF (RN 4) (vl 2) (RA 22)) ∧ (eqF (RN 4) (vl 3) (RA 23) ∧ eqF (RN 4) (vl 4) (RA 25)) ∧ ∀ i k, i < RN 4 → k < (RA 25 i).toNatClampNeg → vl 5 (3 * i + k) = RA 24 (3 * i + k)) ∧
  ((vs 8 = RS 26 ∧ vs 9 = RS 30) ∧ (vs 10 = RS 27 ∧ vs 11 = nI (RN 28)) ∧ vs 12 = nI (RN 29) ∧ RN 29 < 2 * RN 4) ∧
  ((∀ j, j < 2 * RN 4 → 0 ≤ (RA 21 j).toInt ∧ (RA 21 j).toInt ≤ 999) ∧ (∀ i, i < RN 4 → bt (RS 26) i = false → RA 21 (2 * i) = 0 ∧ RA 21 (2 * i + 1) = 0) ∧ zB (RS 26) (RN 4)) ∧
  (∀ j, j < 24 → 0 ≤ (RA 24 j).toInt) ∧ 0 ≤ (RS 30).toInt ∧ (RS 30).toInt ≤ 20
section SBASE
variable {vl vl' pl : Nat → Nat → Int32} {vs vs' ps : Nat → Int32} {RA : Nat → Nat → Int32} {RS : Nat → Int32} {RN : Nat → Nat}
theorem sD.P (h : sD vl vs pl ps RA RS RN) : sP pl ps RA RS RN := h.1.1.1
theorem sD.M (h : sD vl vs pl ps RA RS RN) : mI RA RS RN := h.1.1.2
theorem sD.z (h : sD vl vs pl ps RA RS RN) : rS RA RN := h.1.2.1.1
theorem sD.b (h : sD vl vs pl ps RA RS RN) : rB RA RS RN := h.1.2.1.2
theorem sD.C (h : sD vl vs pl ps RA RS RN) : mC RA RS RN := h.1.2.2
theorem sD.many (h : sD vl vs pl ps RA RS RN) : RN 4 ≤ 8 := mI_many h.M
theorem sD.e1 (h : sD vl vs pl ps RA RS RN) : eqF (2 * RN 4) (vl 1) (RA 21) := h.2.1.1.1
theorem sD.e2 (h : sD vl vs pl ps RA RS RN) : eqF (RN 4) (vl 2) (RA 22) := h.2.1.1.2
theorem sD.e3 (h : sD vl vs pl ps RA RS RN) : eqF (RN 4) (vl 3) (RA 23) := h.2.1.2.1.1
theorem sD.e4 (h : sD vl vs pl ps RA RS RN) : eqF (RN 4) (vl 4) (RA 25) := h.2.1.2.1.2
theorem sD.e5 (h : sD vl vs pl ps RA RS RN) : ∀ i k, i < RN 4 → k < (RA 25 i).toNatClampNeg → vl 5 (3 * i + k) = RA 24 (3 * i + k) := h.2.1.2.2
theorem sD.v8 (h : sD vl vs pl ps RA RS RN) : vs 8 = RS 26 := h.2.2.1.1.1
theorem sD.v9 (h : sD vl vs pl ps RA RS RN) : vs 9 = RS 30 := h.2.2.1.1.2
theorem sD.v10 (h : sD vl vs pl ps RA RS RN) : vs 10 = RS 27 := h.2.2.1.2.1.1
theorem sD.v11 (h : sD vl vs pl ps RA RS RN) : vs 11 = nI (RN 28) := h.2.2.1.2.1.2
theorem sD.v12 (h : sD vl vs pl ps RA RS RN) : vs 12 = nI (RN 29) := h.2.2.1.2.2.1
theorem sD.told (h : sD vl vs pl ps RA RS RN) : RN 29 < 2 * RN 4 := h.2.2.1.2.2.2
theorem sD.w1 (h : sD vl vs pl ps RA RS RN) : ∀ j, j < 2 * RN 4 → 0 ≤ (RA 21 j).toInt ∧ (RA 21 j).toInt ≤ 999 := h.2.2.2.1.1
theorem sD.w2 (h : sD vl vs pl ps RA RS RN) : ∀ i, i < RN 4 → bt (RS 26) i = false → RA 21 (2 * i) = 0 ∧ RA 21 (2 * i + 1) = 0 := h.2.2.2.1.2.1
theorem sD.w3 (h : sD vl vs pl ps RA RS RN) : zB (RS 26) (RN 4) := h.2.2.2.1.2.2
theorem sD.w5 (h : sD vl vs pl ps RA RS RN) : ∀ j, j < 24 → 0 ≤ (RA 24 j).toInt := h.2.2.2.2.1
theorem sD.cr (h : sD vl vs pl ps RA RS RN) : 0 ≤ (RS 30).toInt ∧ (RS 30).toInt ≤ 20 := h.2.2.2.2.2
/-- a look ahead begins -/
theorem sD.start (h : sD vl vs pl ps RA RS RN) (c1 : ∀ j, j < 16 → vl' 1 j = vl 1 j) (c2 : ∀ j, j < 8 → vl' 2 j = vl 2 j) (c4 : ∀ j, j < 8 → vl' 4 j = vl 4 j) (c5 : ∀ j, j < 24 → vl' 5 j = vl 5 j) (c6 : ∀ j, j < 8 → vl' 6 j = 0) (c8 : vs' 8 = vs 8) :
    sF vl' vs' pl ps (nR RA (m_load RA RS).1 (m_load RA RS).2.1 (m_load RA RS).2.2.1) (va_up RS 38 (m_load RA RS).2.2.2) RN := by
  have h8 := h.many
  obtain ⟨l1, l2, l3, l4⟩ := load_eq RA RS
  rw [l4]
  refine ⟨⟨⟨h.P, h.M⟩, ⟨h.z, h.b⟩, ⟨fun j hj => ?_, fun i hi => ⟨?_, ?_⟩, fun i k hi hk => ?_, c8.trans h.v8⟩, ⟨fun j hj => ?_, fun i hi hf => ?_, h.w3⟩⟩, fun i hi => ?_, fun j hj => ?_⟩
  · rw [c1 j (by omega), h.e1 j hj]; exact (l1 j (by omega)).symm
  · rw [c2 i (by omega)]; exact h.e2 i hi
  · rw [c4 i (by omega)]; exact h.e4 i hi
  · have hk : k < (RA 25 i).toNatClampNeg := hk
    have := mI_pm h.M i (by omega)
    rw [c5 _ (by omega), h.e5 i k hi hk]; exact (l2 _ (by omega)).symm
  · have e : nR RA (m_load RA RS).1 (m_load RA RS).2.1 (m_load RA RS).2.2.1 36 j = RA 21 j := l1 j (by omega)
    rw [e]; exact h.w1 j hj
  · have e : ∀ j, j < 16 → nR RA (m_load RA RS).1 (m_load RA RS).2.1 (m_load RA RS).2.2.1 36 j = RA 21 j := fun j hj => l1 j hj
    rw [e _ (by omega), e _ (by omega)]; exact h.w2 i hi hf
  · have e : nR RA (m_load RA RS).1 (m_load RA RS).2.1 (m_load RA RS).2.2.1 39 i = -268435456 := l3 i (by omega)
    rw [e, c6 i (by omega)]
    exact Or.inr ⟨rfl, by decide⟩
  · have e : nR RA (m_load RA RS).1 (m_load RA RS).2.1 (m_load RA RS).2.2.1 37 j = RA 24 j := l2 j hj
    rw [e]; exact h.w5 j hj
theorem rc_in {n j : Nat} {g f : Nat → Int32} (h : j < n) : rc n g f j = g j := if_pos h
/-- the course of villages, started from the first one -/
def nS (vl wl : Nat → Nat → Int32) (wz : Nat → Int32) : Nat → Nat → Int32 := va_up (va_up (va_up (va_up (va_up (va_up vl 1 ((v_startFrom vl wl wz).1)) 2 ((v_startFrom vl wl wz).2.1)) 3 ((v_startFrom vl wl wz).2.2.1)) 4 ((v_startFrom vl wl wz).2.2.2.1)) 5 ((v_startFrom vl wl wz).2.2.2.2.1)) 6 ((v_startFrom vl wl wz).2.2.2.2.2.1)
def nT (vl wl : Nat → Nat → Int32) (wz vs : Nat → Int32) : Nat → Int32 := va_up (va_up (va_up (va_up (va_up vs 8 ((v_startFrom vl wl wz).2.2.2.2.2.2.1)) 9 ((v_startFrom vl wl wz).2.2.2.2.2.2.2.1)) 10 ((v_startFrom vl wl wz).2.2.2.2.2.2.2.2.1)) 11 ((v_startFrom vl wl wz).2.2.2.2.2.2.2.2.2.1)) 12 ((v_startFrom vl wl wz).2.2.2.2.2.2.2.2.2.2)
theorem sD.begun (h : sD vl vs pl ps RA RS RN) : sF (nS vl' vl vs) (nT vl' vl vs vs') pl ps (nR RA (m_load RA RS).1 (m_load RA RS).2.1 (m_load RA RS).2.2.1) (va_up RS 38 (m_load RA RS).2.2.2) RN ∧ nT vl' vl vs vs' 12 = nI (RN 29) ∧ nT vl' vl vs vs' 10 = RS 27 ∧ nT vl' vl vs vs' 11 = nI (RN 28) :=
  ⟨h.start (fun j hj => rc_in hj) (fun j hj => rc_in hj) (fun j hj => rc_in hj) (fun j hj => rc_in hj) (fun j hj => rc_in (n := 8) (g := fun _ => 0) hj) rfl, h.v12, h.v10, h.v11⟩
/-- tests that both make -/
theorem in_0 (x : Int32) (a b : Int64) : m_in x.toInt64 a b = 0 ↔ x.toInt < a.toInt ∨ b.toInt < x.toInt := by
  unfold m_in
  have e : x.toInt64.toInt = x.toInt := Int32.toInt_toInt64 x
  by_cases c : lg_cmp x.toInt64 a < 0
  · rw [if_pos c]
    rw [kcmp_lt, e] at c
    exact ⟨fun _ => Or.inl c, fun _ => rfl⟩
  · rw [if_neg c]
    rw [kcmp_lt, e] at c
    by_cases d : 0 < lg_cmp x.toInt64 b
    · rw [if_pos d]
      rw [kcmp_gt, e] at d
      exact ⟨fun _ => Or.inr d, fun _ => rfl⟩
    · rw [if_neg d]
      rw [kcmp_gt, e] at d
      exact ⟨fun q => absurd q (by decide), fun q => by omega⟩
theorem rule_eq (v : Int32) : o_isRule v = 0 ↔ m_isRule v = 0 := by
  unfold m_isRule o_isRule
  rw [in_0, show (0 : Int64).toInt = 0 by decide, show (4 : Int64).toInt = 4 by decide]
  have h4 : (4 : Int32).toInt = 4 := by decide
  by_cases c : v < 0
  · rw [if_pos c]; rw [ti_lt, ti_0] at c; exact ⟨fun _ => Or.inl c, fun _ => rfl⟩
  · rw [if_neg c]; rw [ti_lt, ti_0] at c
    by_cases d : 4 < v
    · rw [if_pos d]; rw [ti_lt, h4] at d; exact ⟨fun _ => Or.inr d, fun _ => rfl⟩
    · rw [if_neg d]; rw [ti_lt, h4] at d; exact ⟨fun q => absurd q (by decide), fun q => by omega⟩
theorem sky_eq (v : Int32) : o_isSky v = 0 ↔ m_isSky v = 0 := by
  unfold m_isSky o_isSky
  rw [in_0, show (0 : Int64).toInt = 0 by decide, show (2 : Int64).toInt = 2 by decide]
  have h4 : (3 : Int32).toInt = 3 := by decide
  by_cases c : v < 0
  · rw [if_pos c]; rw [ti_lt, ti_0] at c; exact ⟨fun _ => Or.inl c, fun _ => rfl⟩
  · rw [if_neg c]; rw [ti_lt, ti_0] at c
    by_cases d : 3 ≤ v
    · rw [if_pos d]; rw [ti_le, h4] at d; exact ⟨fun _ => Or.inr (by omega), fun _ => rfl⟩
    · rw [if_neg d]; rw [ti_le, h4] at d; exact ⟨fun q => absurd q (by decide), fun q => by omega⟩
theorem roof_eq {PS : Nat → Nat → Int32} (h0 : PS 0 0 = nI (RN 4)) (h8 : RN 4 ≤ 8) (v : Int32) : (o_isRoof PS v = 0 ↔ m_isRoof RN v = 0) ∧ (¬ m_isRoof RN v = 0 → ∃ i, i < RN 4 ∧ v = nI i) := by
  have e1 : (nI (RN 4) - 1).toInt64.toInt = (RN 4 : Int) - 1 := by
    rw [Int32.toInt_toInt64]
    have h1 : (1 : Int32).toInt = 1 := by decide
    rw [ti_sub (by rw [nI_toInt (by omega), h1]; omega) (by rw [nI_toInt (by omega), h1]; omega), nI_toInt (by omega), h1]
  have e2 : m_isRoof RN v = 0 ↔ v.toInt < 0 ∨ (RN 4 : Int) - 1 < v.toInt := by
    unfold m_isRoof
    rw [in_0, e1, show (0 : Int64).toInt = 0 by decide]
  refine ⟨?_, fun q => ?_⟩
  · rw [e2]
    unfold o_isRoof
    rw [h0]
    by_cases c : v < 0
    · rw [if_pos c]; rw [ti_lt, ti_0] at c; exact ⟨fun _ => Or.inl c, fun _ => rfl⟩
    · rw [if_neg c]; rw [ti_lt, ti_0] at c
      by_cases d : nI (RN 4) ≤ v
      · rw [if_pos d]; rw [ti_le, nI_toInt (by omega)] at d; exact ⟨fun _ => Or.inr (by omega), fun _ => rfl⟩
      · rw [if_neg d]; rw [ti_le, nI_toInt (by omega)] at d; exact ⟨fun q => absurd q (by decide), fun q => by omega⟩
  · rw [e2] at q
    exact ⟨v.toNatClampNeg, kNat_lt (by omega) (by omega), kNat (by omega)⟩
theorem sD.stands (h : sD vl vs pl ps RA RS RN) {i : Nat} (hi : i < 32) : v_stands vs ps (nI i) = m_has (RS 26) (nI i) := by
  have hz : zB (vs 8) (RN 4) := by rw [h.v8]; exact h.w3
  rw [st_eq h.P.1 h.many hz hi, h.v8]
end SBASE
