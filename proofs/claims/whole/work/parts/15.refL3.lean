theorem m_deepest_L_le (RA : Nat → Nat → Int32) (RS : Nat → Int32) : ∀ (n i v : Nat), i + n = 16 → v ≤ 16 → m_deepest_L5 RA RS n i v ≤ 16 := by
  intro n
  induction n with
  | zero => intro i v _ hv; exact hv
  | succ n ih =>
    intro i v hi hv
    rw [m_deepest_L5.eq_2]
    repeat' split
    all_goals exact ih _ _ (by omega) (by omega)
theorem m_sideOf_le (RA : Nat → Nat → Int32) (i : Nat) : m_sideOf RA i ≤ 2 * i + 1 := by
  unfold m_sideOf
  split <;> omega
theorem m_weakest_L_rng (RA : Nat → Nat → Int32) (RS : Nat → Int32) (k N : Nat) (hN : N ≤ 8) : ∀ (n i : Nat) (a b c : Int32), i + n = N → (a = -4 ∨ (0 ≤ a.toInt ∧ a.toInt < 8)) → ((m_weakest_L11 RA RS k n i a b c).1 = -4 ∨ (0 ≤ (m_weakest_L11 RA RS k n i a b c).1.toInt ∧ (m_weakest_L11 RA RS k n i a b c).1.toInt < 8)) := by
  intro n
  induction n with
  | zero => intro i a b c _ h; exact h
  | succ n ih =>
    intro i a b c hi h
    rw [m_weakest_L11.eq_2]
    repeat' split
    all_goals first | exact ih _ _ _ _ (by omega) h | exact ih _ _ _ _ (by omega) (Or.inr (k48r (by omega)))
theorem kNat_id {x : Int32} (h : 0 ≤ x.toInt) : nI x.toNatClampNeg = x := (kNat h).symm
theorem m_fullest_L_rng (RA : Nat → Nat → Int32) (RS : Nat → Int32) (N : Nat) (hN : N ≤ 8) : ∀ (n i : Nat) (a : Int32), i + n = N → (a = -4 ∨ (0 ≤ a.toInt ∧ a.toInt < 8)) → (m_fullest_L5 RA RS n i a = -4 ∨ (0 ≤ (m_fullest_L5 RA RS n i a).toInt ∧ (m_fullest_L5 RA RS n i a).toInt < 8)) := by
  intro n
  induction n with
  | zero => intro i a _ h; exact h
  | succ n ih =>
    intro i a hi h
    rw [m_fullest_L5.eq_2]
    by_cases h1 : m_isLaden RA RS i = 0
    · rw [if_pos h1]; exact ih _ _ (by omega) h
    · rw [if_neg h1]
      by_cases h2 : a = -4
      · rw [if_pos h2]; exact ih _ _ (by omega) (Or.inr (k48r (by omega)))
      · rw [if_neg h2]
        have h3 := k48 h2 h
        split
        · exact ih _ _ (by omega) (by rw [kNat_id h3.1]; exact Or.inr h3)
        · exact ih _ _ (by omega) (Or.inr (k48r (by omega)))
theorem m_chosen_le {RA : Nat → Nat → Int32} {RS : Nat → Int32} {RN : Nat → Nat} (h29 : RN 29 < 16) (h4 : RN 4 ≤ 8) (r : Int32) (k : Nat) : m_chosen RA RS RN r k ≤ 16 := by
  have e2 : m_weakest RA RS RN k ≤ 16 := by
    unfold m_weakest m_weakest_k11
    have h := m_weakest_L_rng RA RS k (RN 4) h4 (RN 4) 0 (-4) 0 1 (by omega) (Or.inl rfl)
    split
    · exact Nat.le_refl _
    · next hn =>
      have h1 := k48 hn h
      have h2 := kNat_lt (n := 8) h1.2 (by omega)
      have h3 := m_sideOf_le RA (m_weakest_L11 RA RS k (RN 4) 0 (-4) 0 1).1.toNatClampNeg
      omega
  have e3 : m_fullest RA RS RN ≤ 16 := by
    unfold m_fullest m_fullest_k5
    have h := m_fullest_L_rng RA RS (RN 4) h4 (RN 4) 0 (-4) (by omega) (Or.inl rfl)
    split
    · exact Nat.le_refl _
    · next hn =>
      have h1 := k48 hn h
      have h2 := kNat_lt (n := 8) h1.2 (by omega)
      have h3 := m_sideOf_le RA (m_fullest_L5 RA RS (RN 4) 0 (-4)).toNatClampNeg
      omega
  have e1 : m_deepest RA RS ≤ 16 := m_deepest_L_le RA RS 16 0 16 (by omega) (by omega)
  unfold m_chosen
  repeat' split
  all_goals omega
theorem m_below_congr {RA RA' : Nat → Nat → Int32} (h10 : RA' 10 = RA 10) (h11 : RA' 11 = RA 11) (h12 : RA' 12 = RA 12) (h22 : RA' 22 = RA 22) (i : Nat) (p : Int32) : m_below RA' i p = m_below RA i p := by
  have hL : ∀ (n k : Nat) (a : Int32), m_below_L5 RA' i p n k a = m_below_L5 RA i p n k a := by
    intro n
    induction n with
    | zero => intro k a; rfl
    | succ n ih =>
      intro k a
      rw [m_below_L5.eq_2, m_below_L5.eq_2, h10, h11, h22]
      simp only [ih]
  unfold m_below
  rw [hL, h12]
theorem mC_of {RA RA' : Nat → Nat → Int32} {RS RS' : Nat → Int32} {RN RN' : Nat → Nat} (h : mC RA RS RN) (h10 : RA' 10 = RA 10) (h11 : RA' 11 = RA 11) (h12 : RA' 12 = RA 12) (h22 : RA' 22 = RA 22) (h26 : RS' 26 = RS 26) (h4 : RN' 4 = RN 4) : mC RA' RS' RN' := by
  intro i hi hs
  unfold m_chances
  rw [m_below_congr h10 h11 h12 h22]
  exact h i (by rw [← h4]; exact hi) (by rw [← h26]; exact hs)
