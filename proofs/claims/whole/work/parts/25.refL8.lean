theorem m_rI_L_ge (RA : Nat → Nat → Int32) (RN : Nat → Nat) (hl : RN 1 ≤ 500) (letter : Int32) : ∀ (n i : Nat) (v : Int32) (a : Nat → Int32) (t : Nat), t ≤ RN 1 → (m_readsItem_L51 RA RN letter n i v a t).2.2 ≤ RN 1 ∧ t ≤ (m_readsItem_L51 RA RN letter n i v a t).2.2 := by
  intro n
  induction n with
  | zero => intro i v a t h; exact ⟨h, Nat.le_refl _⟩
  | succ n ih =>
    intro i v a t h
    rw [m_readsItem_L51.eq_2]
    have s1 : ∀ (A : Nat → Nat → Int32) (t : Nat), t ≤ RN 1 → (m_isSign A (va_up RN 35 t) 44).2 ≤ RN 1 ∧ t ≤ (m_isSign A (va_up RN 35 t) 44).2 := fun A t ht => ⟨m_isSign_le (RN := va_up RN 35 t) hl ht, m_isSign_ge A (va_up RN 35 t) 44⟩
    have s2 : ∀ (A : Nat → Nat → Int32) (t : Nat), t ≤ RN 1 → (m_reads A (va_up RN 35 t) i).2.2 ≤ RN 1 ∧ t ≤ (m_reads A (va_up RN 35 t) i).2.2 := fun A t ht => ⟨m_reads_le (RN := va_up RN 35 t) hl ht, m_reads_ge (RN := va_up RN 35 t) hl ht⟩
    have g1 := s1 (va_up RA 2 a) t h
    have g2 := s2 (va_up RA 2 a) t h
    have g3 := s2 (va_up RA 2 a) (m_isSign (va_up RA 2 a) (va_up RN 35 t) 44).2 g1.1
    repeat' split
    all_goals first | exact ⟨h, Nat.le_refl _⟩ | skip
    all_goals refine ⟨(ih _ _ _ _ (by omega)).1, Nat.le_trans ?_ (ih _ _ _ _ (by omega)).2⟩
    all_goals omega
theorem m_rI_L_zero (RA : Nat → Nat → Int32) (RN : Nat → Nat) (letter : Int32) (n i : Nat) (a : Nat → Int32) (t : Nat) : m_readsItem_L51 RA RN letter n i 0 a t = (0, a, t) := by
  cases n with
  | zero => rfl
  | succ n => rw [m_readsItem_L51.eq_2, if_pos rfl]
theorem m_rI_L_gt (RA : Nat → Nat → Int32) (RN : Nat → Nat) (hl : RN 1 ≤ 500) (letter : Int32) (n i : Nat) (v : Int32) (a : Nat → Int32) (t : Nat) (ht : t ≤ RN 1) (hn : ¬ (m_readsItem_L51 RA RN letter (n + 1) i v a t).1 = 0) : t + 1 ≤ (m_readsItem_L51 RA RN letter (n + 1) i v a t).2.2 := by
  rw [m_readsItem_L51.eq_2] at hn ⊢
  have s1 : ∀ (A : Nat → Nat → Int32) (t : Nat), t ≤ RN 1 → (m_isSign A (va_up RN 35 t) 44).2 ≤ RN 1 ∧ t ≤ (m_isSign A (va_up RN 35 t) 44).2 := fun A t ht => ⟨m_isSign_le (RN := va_up RN 35 t) hl ht, m_isSign_ge A (va_up RN 35 t) 44⟩
  have s2 : ∀ (A : Nat → Nat → Int32) (t : Nat), t ≤ RN 1 → (m_reads A (va_up RN 35 t) i).2.2 ≤ RN 1 ∧ (¬ (m_reads A (va_up RN 35 t) i).1 = 0 → t + 1 ≤ (m_reads A (va_up RN 35 t) i).2.2) := fun A t ht => ⟨m_reads_le (RN := va_up RN 35 t) hl ht, fun q => m_reads_gt (RN := va_up RN 35 t) hl ht q⟩
  have g1 := s1 (va_up RA 2 a) t ht
  have g2 := s2 (va_up RA 2 a) t ht
  have g3 := s2 (va_up RA 2 a) (m_isSign (va_up RA 2 a) (va_up RN 35 t) 44).2 g1.1
  by_cases h0 : v = 0
  · rw [if_pos h0] at hn; exact absurd h0 hn
  · rw [if_neg h0] at hn ⊢
    by_cases h1 : nI i = 0
    · rw [if_pos h1] at hn ⊢
      by_cases h2 : (m_reads (va_up RA 2 a) (va_up RN 35 t) i).1 = 0
      · rw [if_pos h2, m_rI_L_zero] at hn; exact absurd rfl hn
      · rw [if_neg h2] at hn ⊢
        have := g2.2 h2
        split
        · next q => rw [if_pos q, m_rI_L_zero] at hn; exact absurd rfl hn
        · exact Nat.le_trans this (m_rI_L_ge RA RN hl letter _ _ _ _ _ g2.1).2
    · rw [if_neg h1] at hn ⊢
      by_cases h2 : (m_isSign (va_up RA 2 a) (va_up RN 35 t) 44).1 = 0
      · rw [if_pos h2, m_rI_L_zero] at hn; exact absurd rfl hn
      · rw [if_neg h2] at hn ⊢
        by_cases h3 : (m_reads (va_up RA 2 a) (va_up RN 35 (m_isSign (va_up RA 2 a) (va_up RN 35 t) 44).2) i).1 = 0
        · rw [if_pos h3, m_rI_L_zero] at hn; exact absurd rfl hn
        · rw [if_neg h3] at hn ⊢
          have := g3.2 h3
          split
          · next q => rw [if_pos q, m_rI_L_zero] at hn; exact absurd rfl hn
          · exact Nat.le_trans (by omega) (m_rI_L_ge RA RN hl letter _ _ _ _ _ g3.1).2
theorem m_rI_k (RA : Nat → Nat → Int32) (RN : Nat → Nat) (hl : RN 1 ≤ 500) (a : Nat → Int32) (t : Nat) (v : Int32) (ht : t ≤ RN 1) : (m_readsItem_k51 RA RN a t v).2.2 ≤ RN 1 ∧ t ≤ (m_readsItem_k51 RA RN a t v).2.2 ∧ (¬ (m_readsItem_k51 RA RN a t v).1 = 0 → ¬ v = 0 ∧ t + 1 ≤ (m_readsItem_k51 RA RN a t v).2.2) := by
  have g1 := m_isSign_le (RA := va_up RA 2 a) (RN := va_up RN 35 t) (v := 59) hl ht
  have g2 := m_isSign_ge (va_up RA 2 a) (va_up RN 35 t) 59
  unfold m_readsItem_k51
  by_cases h0 : v = 0
  · rw [if_pos h0]; exact ⟨ht, Nat.le_refl _, fun q => absurd rfl q⟩
  · rw [if_neg h0]
    by_cases h1 : (m_isSign (va_up RA 2 a) (va_up RN 35 t) 59).1 = 0
    · rw [if_pos h1]; exact ⟨g1, g2, fun q => absurd rfl q⟩
    · rw [if_neg h1]; exact ⟨g1, g2, fun _ => ⟨h0, m_isSign_gt (RA := va_up RA 2 a) (RN := va_up RN 35 t) h1⟩⟩
theorem m_readsItem_at {RA : Nat → Nat → Int32} {RN : Nat → Nat} (hl : RN 1 ≤ 500) (h : RN 35 < RN 1) : (m_readsItem RA RN).2.2 ≤ RN 1 ∧ RN 35 + 1 ≤ (m_readsItem RA RN).2.2 := by
  unfold m_readsItem
  split
  all_goals
    have g1 := m_rI_L_ge RA RN hl (RA 0 (RN 35)) ((m_numbersOf (RA 0 (RN 35))).toNatClampNeg) 0
  · have g := g1 0 (upd (RA 2) (7 * RN 3) (RA 0 (RN 35))) (RN 35 + 1) (by omega)
    have k := m_rI_k RA RN hl (m_readsItem_L51 RA RN (RA 0 (RN 35)) ((m_numbersOf (RA 0 (RN 35))).toNatClampNeg) 0 0 (upd (RA 2) (7 * (RN 3)) (RA 0 (RN 35))) ((RN 35) + 1)).2.1 (m_readsItem_L51 RA RN (RA 0 (RN 35)) ((m_numbersOf (RA 0 (RN 35))).toNatClampNeg) 0 0 (upd (RA 2) (7 * (RN 3)) (RA 0 (RN 35))) ((RN 35) + 1)).2.2 (m_readsItem_L51 RA RN (RA 0 (RN 35)) ((m_numbersOf (RA 0 (RN 35))).toNatClampNeg) 0 0 (upd (RA 2) (7 * (RN 3)) (RA 0 (RN 35))) ((RN 35) + 1)).1 g.1
    exact ⟨k.1, Nat.le_trans g.2 k.2.1⟩
  · have g := g1 1 (upd (RA 2) (7 * RN 3) (RA 0 (RN 35))) (RN 35 + 1) (by omega)
    have k := m_rI_k RA RN hl (m_readsItem_L51 RA RN (RA 0 (RN 35)) ((m_numbersOf (RA 0 (RN 35))).toNatClampNeg) 0 1 (upd (RA 2) (7 * (RN 3)) (RA 0 (RN 35))) ((RN 35) + 1)).2.1 (m_readsItem_L51 RA RN (RA 0 (RN 35)) ((m_numbersOf (RA 0 (RN 35))).toNatClampNeg) 0 1 (upd (RA 2) (7 * (RN 3)) (RA 0 (RN 35))) ((RN 35) + 1)).2.2 (m_readsItem_L51 RA RN (RA 0 (RN 35)) ((m_numbersOf (RA 0 (RN 35))).toNatClampNeg) 0 1 (upd (RA 2) (7 * (RN 3)) (RA 0 (RN 35))) ((RN 35) + 1)).1 g.1
    exact ⟨k.1, Nat.le_trans g.2 k.2.1⟩
theorem m_readsItem_3 {RA : Nat → Nat → Int32} {RN : Nat → Nat} (hl : RN 1 ≤ 500) (h : RN 35 < RN 1) : ¬ (m_readsItem RA RN).1 = 0 → RN 35 + 3 ≤ (m_readsItem RA RN).2.2 := by
  unfold m_readsItem
  by_cases h0 : m_numbersOf (RA 0 (RN 35)) ≤ 0
  · rw [if_pos h0]
    intro hn
    have g := m_rI_L_ge RA RN hl (RA 0 (RN 35)) ((m_numbersOf (RA 0 (RN 35))).toNatClampNeg) 0 0 (upd (RA 2) (7 * RN 3) (RA 0 (RN 35))) (RN 35 + 1) (by omega)
    have k := (m_rI_k RA RN hl (m_readsItem_L51 RA RN (RA 0 (RN 35)) ((m_numbersOf (RA 0 (RN 35))).toNatClampNeg) 0 0 (upd (RA 2) (7 * (RN 3)) (RA 0 (RN 35))) ((RN 35) + 1)).2.1 (m_readsItem_L51 RA RN (RA 0 (RN 35)) ((m_numbersOf (RA 0 (RN 35))).toNatClampNeg) 0 0 (upd (RA 2) (7 * (RN 3)) (RA 0 (RN 35))) ((RN 35) + 1)).2.2 (m_readsItem_L51 RA RN (RA 0 (RN 35)) ((m_numbersOf (RA 0 (RN 35))).toNatClampNeg) 0 0 (upd (RA 2) (7 * (RN 3)) (RA 0 (RN 35))) ((RN 35) + 1)).1 g.1).2.2 hn
    exfalso
    apply k.1
    rw [m_rI_L_zero]
  · rw [if_neg h0]
    intro hn
    have g := m_rI_L_ge RA RN hl (RA 0 (RN 35)) ((m_numbersOf (RA 0 (RN 35))).toNatClampNeg) 0 1 (upd (RA 2) (7 * RN 3) (RA 0 (RN 35))) (RN 35 + 1) (by omega)
    have k := (m_rI_k RA RN hl (m_readsItem_L51 RA RN (RA 0 (RN 35)) ((m_numbersOf (RA 0 (RN 35))).toNatClampNeg) 0 1 (upd (RA 2) (7 * (RN 3)) (RA 0 (RN 35))) ((RN 35) + 1)).2.1 (m_readsItem_L51 RA RN (RA 0 (RN 35)) ((m_numbersOf (RA 0 (RN 35))).toNatClampNeg) 0 1 (upd (RA 2) (7 * (RN 3)) (RA 0 (RN 35))) ((RN 35) + 1)).2.2 (m_readsItem_L51 RA RN (RA 0 (RN 35)) ((m_numbersOf (RA 0 (RN 35))).toNatClampNeg) 0 1 (upd (RA 2) (7 * (RN 3)) (RA 0 (RN 35))) ((RN 35) + 1)).1 g.1).2.2 hn
    have h1 : 1 ≤ (m_numbersOf (RA 0 (RN 35))).toNatClampNeg := by
      apply kNat_ge
      rw [Int32.le_iff_toInt_le] at h0
      rw [k0I] at h0
      omega
    obtain ⟨n, hn2⟩ : ∃ n, (m_numbersOf (RA 0 (RN 35))).toNatClampNeg = n + 1 := ⟨_, (Nat.sub_add_cancel h1).symm⟩
    rw [hn2] at k ⊢
    have := m_rI_L_gt RA RN hl (RA 0 (RN 35)) n 0 1 (upd (RA 2) (7 * RN 3) (RA 0 (RN 35))) (RN 35 + 1) (by omega) k.1
    omega
