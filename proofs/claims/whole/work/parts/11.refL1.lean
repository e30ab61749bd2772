theorem m_in_01 (a b c : Int64) : m_in a b c = 0 ∨ m_in a b c = 1 := by
  unfold m_in
  split
  · exact Or.inl rfl
  · split
    · exact Or.inl rfl
    · exact Or.inr rfl
theorem m_in_n {a b c : Int64} (h : ¬ m_in a b c = 0) : b.toInt ≤ a.toInt ∧ a.toInt ≤ c.toInt := by
  unfold m_in at h
  by_cases h1 : lg_cmp a b < 0
  · rw [if_pos h1] at h; exact absurd rfl h
  · rw [if_neg h1] at h
    by_cases h2 : 0 < lg_cmp a c
    · rw [if_pos h2] at h; exact absurd rfl h
    · rw [kcmp_lt] at h1
      rw [kcmp_gt] at h2
      omega
theorem m_in_y {a b c : Int64} (h1 : b.toInt ≤ a.toInt) (h2 : a.toInt ≤ c.toInt) : m_in a b c = 1 := by
  unfold m_in
  rw [if_neg (by rw [kcmp_lt]; omega), if_neg (by rw [kcmp_gt]; omega)]
theorem m_in_z {a b c : Int64} (h : a.toInt < b.toInt ∨ c.toInt < a.toInt) : m_in a b c = 0 := by
  rcases m_in_01 a b c with h1 | h1
  · exact h1
  · have := m_in_n (a := a) (b := b) (c := c) (by rw [h1]; decide)
    omega
theorem m_in_t {x : Int32} {a b : Int64} (h : ¬ m_in x.toInt64 a b = 0) : a.toInt ≤ x.toInt ∧ x.toInt ≤ b.toInt := by
  have h1 := m_in_n h
  rw [ki2l] at h1
  exact h1
/-- roofs that stand have chances -/
def mC (RA : Nat → Nat → Int32) (RS : Nat → Int32) (RN : Nat → Nat) : Prop := ∀ i, i < RN 4 → ¬ m_has (RS 26) (nI i) = 0 → ¬ m_chances RA i = 0
