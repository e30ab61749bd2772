theorem m_reads_L_le (RA : Nat → Nat → Int32) (RN : Nat → Nat) (hl : RN 1 ≤ 500) : ∀ (n i : Nat) (v : Int32) (t : Nat), t ≤ RN 1 → (m_reads_L7 RA RN n i v t).2 ≤ RN 1 ∧ t ≤ (m_reads_L7 RA RN n i v t).2 := by
  intro n
  induction n with
  | zero => intro i v t h; exact ⟨h, Nat.le_refl _⟩
  | succ n ih =>
    intro i v t h
    rw [m_reads_L7.eq_2]
    by_cases h1 : nI (RN 1) ≤ nI t
    · rw [if_pos h1]; exact ⟨h, Nat.le_refl _⟩
    · rw [if_neg h1]
      have h2 := knI_nle h1 (by omega) (by omega)
      by_cases h3 : RA 0 t < 48
      · rw [if_pos h3]; exact ⟨h, Nat.le_refl _⟩
      · rw [if_neg h3]
        by_cases h4 : 57 < RA 0 t
        · rw [if_pos h4]; exact ⟨h, Nat.le_refl _⟩
        · rw [if_neg h4]
          have := ih (i + 1) (((10 * v) + (RA 0 t)) - 48) (t + 1) (by omega)
          omega
theorem m_reads_at (RA : Nat → Nat → Int32) (RN : Nat → Nat) (i : Nat) : (m_reads RA RN i).2.2 = (m_reads_L7 RA RN 3 0 0 (RN 35)).2 := by
  unfold m_reads m_reads_k7
  split <;> rfl
theorem m_reads_le {RA : Nat → Nat → Int32} {RN : Nat → Nat} {i : Nat} (hl : RN 1 ≤ 500) (h : RN 35 ≤ RN 1) : (m_reads RA RN i).2.2 ≤ RN 1 := by
  rw [m_reads_at]; exact (m_reads_L_le RA RN hl 3 0 0 (RN 35) h).1
theorem m_reads_ge {RA : Nat → Nat → Int32} {RN : Nat → Nat} {i : Nat} (hl : RN 1 ≤ 500) (h : RN 35 ≤ RN 1) : RN 35 ≤ (m_reads RA RN i).2.2 := by
  rw [m_reads_at]; exact (m_reads_L_le RA RN hl 3 0 0 (RN 35) h).2
theorem m_reads_gt {RA : Nat → Nat → Int32} {RN : Nat → Nat} {i : Nat} (hl : RN 1 ≤ 500) (h : RN 35 ≤ RN 1) (hn : ¬ (m_reads RA RN i).1 = 0) : RN 35 + 1 ≤ (m_reads RA RN i).2.2 := by
  have h1 := m_reads_L_le RA RN hl 3 0 0 (RN 35) h
  rw [m_reads_at]
  unfold m_reads m_reads_k7 at hn
  split at hn
  · exact absurd rfl hn
  · next q => have := knI_nle q (by omega) (by omega); omega
theorem m_isSign_le {RA : Nat → Nat → Int32} {RN : Nat → Nat} {v : Int32} (hl : RN 1 ≤ 500) (h : RN 35 ≤ RN 1) : (m_isSign RA RN v).2 ≤ RN 1 := by
  unfold m_isSign
  split
  · exact h
  · next q =>
    have := knI_nle q (by omega) (by omega)
    split
    · exact this
    · exact h
theorem m_isSign_ge (RA : Nat → Nat → Int32) (RN : Nat → Nat) (v : Int32) : RN 35 ≤ (m_isSign RA RN v).2 := by
  unfold m_isSign
  repeat' split
  all_goals (dsimp only; omega)
theorem m_isSign_gt {RA : Nat → Nat → Int32} {RN : Nat → Nat} {v : Int32} (hn : ¬ (m_isSign RA RN v).1 = 0) : RN 35 + 1 ≤ (m_isSign RA RN v).2 := by
  unfold m_isSign at hn ⊢
  split
  · next q => rw [if_pos q] at hn; exact absurd rfl hn
  · next q =>
    rw [if_neg q] at hn
    split
    · exact Nat.le_refl _
    · next q2 => rw [if_neg q2] at hn; exact absurd rfl hn
theorem m_numbersOf_le (x : Int32) : (m_numbersOf x).toNatClampNeg ≤ 6 := by
  unfold m_numbersOf
  repeat' split
  all_goals decide
