theorem rd_L (RA : Nat → Nat → Int32) (RN : Nat → Nat) (c : Int32) : ∀ (n i : Nat) (v : Int32) (a : Nat → Int32) (t : Nat), (¬ v = 0 → itTo a (7 * RN 3) c i) → (∀ j, j ≤ 7 * RN 3 → (m_readsItem_L51 RA RN c n i v a t).2.1 j = a j) ∧ (¬ (m_readsItem_L51 RA RN c n i v a t).1 = 0 → itTo (m_readsItem_L51 RA RN c n i v a t).2.1 (7 * RN 3) c (i + n)) := by
  intro n
  induction n with
  | zero => intro i v a t h; exact ⟨fun _ _ => rfl, h⟩
  | succ n ih =>
    intro i v a t h
    have e : i + (n + 1) = i + 1 + n := by omega
    have no : ∀ (f : Nat → Int32), (¬ (0 : Int32) = 0 → itTo f (7 * RN 3) c (i + 1)) := fun f q => absurd rfl q
    rw [m_readsItem_L51.eq_2, e]
    by_cases h0 : v = 0
    · rw [if_pos h0]; exact ⟨fun _ _ => rfl, fun q => absurd h0 q⟩
    · rw [if_neg h0]
      by_cases h1 : nI i = 0
      · rw [if_pos h1]
        obtain ⟨r, hr⟩ : ∃ z, z = m_reads (va_up RA 2 a) (va_up RN 35 t) i := ⟨_, rfl⟩
        rw [← hr]
        have fr := fun j (hj : j ≤ 7 * RN 3) => rd_frame hr hj
        by_cases h2 : r.1 = 0
        · rw [if_pos h2]
          have := ih (i + 1) 0 r.2.1 r.2.2 (no _)
          exact ⟨fun j hj => (this.1 j hj).trans (fr j hj), this.2⟩
        · rw [if_neg h2]
          split
          · have := ih (i + 1) 0 r.2.1 r.2.2 (no _)
            exact ⟨fun j hj => (this.1 j hj).trans (fr j hj), this.2⟩
          · next q =>
            have := ih (i + 1) 1 r.2.1 r.2.2 (fun _ => itTo_next (h h0) hr q)
            exact ⟨fun j hj => (this.1 j hj).trans (fr j hj), this.2⟩
      · rw [if_neg h1]
        obtain ⟨q, hq⟩ : ∃ z, z = m_isSign (va_up RA 2 a) (va_up RN 35 t) 44 := ⟨_, rfl⟩
        rw [← hq]
        by_cases h2 : q.1 = 0
        · rw [if_pos h2]; exact ih (i + 1) 0 a q.2 (no _)
        · rw [if_neg h2]
          obtain ⟨r, hr⟩ : ∃ z, z = m_reads (va_up RA 2 a) (va_up RN 35 q.2) i := ⟨_, rfl⟩
          rw [← hr]
          have fr := fun j (hj : j ≤ 7 * RN 3) => rd_frame hr hj
          by_cases h3 : r.1 = 0
          · rw [if_pos h3]
            have := ih (i + 1) 0 r.2.1 r.2.2 (no _)
            exact ⟨fun j hj => (this.1 j hj).trans (fr j hj), this.2⟩
          · rw [if_neg h3]
            split
            · have := ih (i + 1) 0 r.2.1 r.2.2 (no _)
              exact ⟨fun j hj => (this.1 j hj).trans (fr j hj), this.2⟩
            · next q =>
              have := ih (i + 1) 1 r.2.1 r.2.2 (fun _ => itTo_next (h h0) hr q)
              exact ⟨fun j hj => (this.1 j hj).trans (fr j hj), this.2⟩
theorem rd_k (RA : Nat → Nat → Int32) (RN : Nat → Nat) (a : Nat → Int32) (t : Nat) (v : Int32) : (m_readsItem_k51 RA RN a t v).2.1 = a ∧ (¬ (m_readsItem_k51 RA RN a t v).1 = 0 → ¬ v = 0) := by
  unfold m_readsItem_k51
  by_cases h0 : v = 0
  · rw [if_pos h0]; exact ⟨rfl, fun q => absurd rfl q⟩
  · rw [if_neg h0]
    split
    · exact ⟨rfl, fun _ => h0⟩
    · exact ⟨rfl, fun _ => h0⟩
theorem rd_item (RA : Nat → Nat → Int32) (RN : Nat → Nat) {r : Int32 × (Nat → Int32) × Nat} (hr : r = m_readsItem RA RN) : (∀ j, j < 7 * RN 3 → r.2.1 j = RA 2 j) ∧ (¬ r.1 = 0 → itOk r.2.1 (7 * RN 3)) := by
  have fr : ∀ j, j < 7 * RN 3 → upd (RA 2) (7 * RN 3) (RA 0 (RN 35)) j = RA 2 j := fun j hj => pk_un (by omega)
  subst hr
  unfold m_readsItem
  by_cases h0 : m_numbersOf (RA 0 (RN 35)) ≤ 0
  · rw [if_pos h0]
    obtain ⟨x, hx⟩ : ∃ z, z = m_readsItem_L51 RA RN (RA 0 (RN 35)) ((m_numbersOf (RA 0 (RN 35))).toNatClampNeg) 0 0 (upd (RA 2) (7 * (RN 3)) (RA 0 (RN 35))) ((RN 35) + 1) := ⟨_, rfl⟩
    have h1 := rd_L RA RN (RA 0 (RN 35)) ((m_numbersOf (RA 0 (RN 35))).toNatClampNeg) 0 0 (upd (RA 2) (7 * (RN 3)) (RA 0 (RN 35))) ((RN 35) + 1) (fun q => absurd rfl q)
    have h3 := m_rI_L_zero RA RN (RA 0 (RN 35)) ((m_numbersOf (RA 0 (RN 35))).toNatClampNeg) 0 (upd (RA 2) (7 * (RN 3)) (RA 0 (RN 35))) ((RN 35) + 1)
    rw [← hx] at h1 h3 ⊢
    have h2 := rd_k RA RN x.2.1 x.2.2 x.1
    rw [h2.1]
    exact ⟨fun j hj => (h1.1 j (by omega)).trans (fr j hj), fun q => absurd (congrArg Prod.fst h3) (h2.2 q)⟩
  · rw [if_neg h0]
    obtain ⟨x, hx⟩ : ∃ z, z = m_readsItem_L51 RA RN (RA 0 (RN 35)) ((m_numbersOf (RA 0 (RN 35))).toNatClampNeg) 0 1 (upd (RA 2) (7 * (RN 3)) (RA 0 (RN 35))) ((RN 35) + 1) := ⟨_, rfl⟩
    have h1 := rd_L RA RN (RA 0 (RN 35)) ((m_numbersOf (RA 0 (RN 35))).toNatClampNeg) 0 1 (upd (RA 2) (7 * (RN 3)) (RA 0 (RN 35))) ((RN 35) + 1) (fun _ j h1 h2 => by omega)
    rw [← hx] at h1 ⊢
    have h2 := rd_k RA RN x.2.1 x.2.2 x.1
    rw [h2.1]
    refine ⟨fun j hj => (h1.1 j (by omega)).trans (fr j hj), fun q => ?_⟩
    have h3 := h1.2 (h2.2 q)
    have h4 : x.2.1 (7 * RN 3) = RA 0 (RN 35) := (h1.1 _ (Nat.le_refl _)).trans pk_us
    have h5 := kI_not_le0 h0
    refine ⟨by rw [h4]; exact h5, fun j j1 j2 => ?_⟩
    rw [h4] at j2 ⊢
    exact h3 j j1 (by rw [kcl_toNat]; omega)
theorem fits_ok {RA : Nat → Nat → Int32} {RN : Nat → Nat} (hn : RN 3 ≤ 170) (hi : itOk (RA 2) (7 * RN 3)) (h8 : tR (RA 2) (RN 3) ≤ 8) (hB : ∀ a, tB (RA 2) a (RN 3) ≤ 4) (h : ¬ m_fits RA RN = 0) : vOk1 (RA 2) (RN 3) := by
  have h1 := tR_le (RA 2) (RN 3)
  unfold m_fits at h
  rw [m_told_R] at h
  refine ⟨hi, fun c => ?_, fun c => ?_, fun c => ?_, fun c => ?_⟩
  · rw [if_neg (by rw [c]; decide), if_neg (by rw [c]; decide), if_neg (by rw [c]; decide), if_pos c] at h
    have : ¬ nI (tR (RA 2) (RN 3)) = 8 := fun q => by rw [if_pos q] at h; exact h rfl
    have h9 : tR (RA 2) (RN 3) ≠ 8 := fun q => this (by rw [q]; rfl)
    omega
  · have h2 := itOk_at hi c 1 0 7
    rw [if_pos c] at h
    by_cases q : nI (tR (RA 2) (RN 3)) ≤ RA 2 (7 * RN 3 + 1)
    · rw [if_pos q] at h; exact absurd rfl h
    · rw [if_neg q, m_told_B _ _ h2.1] at h
      have h3 := hB (RA 2 (7 * RN 3 + 1))
      have h4 : ¬ nI (tB (RA 2) (RA 2 (7 * RN 3 + 1)) (RN 3)) = 4 := fun q => by rw [if_pos q] at h; exact h rfl
      have h5 : tB (RA 2) (RA 2 (7 * RN 3 + 1)) (RN 3) ≠ 4 := fun q => h4 (by rw [q]; rfl)
      exact ⟨by omega, kI_ltN q (by omega)⟩
  · rw [if_neg (by rw [c]; decide), if_pos c] at h
    by_cases q : nI (tR (RA 2) (RN 3)) ≤ RA 2 (7 * RN 3 + 1)
    · rw [if_pos q] at h; exact absurd rfl h
    · exact kI_ltN q (by omega)
  · rw [if_neg (by rw [c]; decide), if_neg (by rw [c]; decide), if_pos c] at h
    exact Classical.byContradiction fun q => by rw [if_neg q] at h; exact h rfl
theorem fault_L {RA : Nat → Nat → Int32} {RN : Nat → Nat} (hl : RN 1 ≤ 500) : ∀ (n i : Nat) (a2 : Nat → Int32) (n3 n35 : Nat), vOk a2 n3 → n35 ≤ RN 1 → 3 * n3 ≤ n35 → (m_fault_L10 RA RN n i a2 n3 n35).1 = -4 → vOk (m_fault_L10 RA RN n i a2 n3 n35).2.1 (m_fault_L10 RA RN n i a2 n3 n35).2.2.1 ∧ (m_fault_L10 RA RN n i a2 n3 n35).2.2.1 ≤ 170 := by
  intro n
  induction n with
  | zero => intro i a2 n3 n35 h h1 h2 _; exact ⟨h, show n3 ≤ 170 by omega⟩
  | succ n ih =>
    intro i a2 n3 n35 h h1 h2
    have ne : ¬ nI n35 = -4 := fun q => by
      have := congrArg Int32.toInt q
      rw [nI_toInt (by omega)] at this
      have e : (-4 : Int32).toInt = -4 := rfl
      omega
    rw [m_fault_L10.eq_2]
    by_cases h0 : nI (RN 1) ≤ nI n35
    · rw [if_pos h0]; intro _; exact ⟨h, show n3 ≤ 170 by omega⟩
    · rw [if_neg h0]
      have h3 := knI_nle h0 (by omega) (by omega)
      have g1 := m_readsItem_at (RA := va_up RA 2 a2) (RN := va_up (va_up RN 3 n3) 35 n35) hl h3
      have g2 := m_readsItem_3 (RA := va_up RA 2 a2) (RN := va_up (va_up RN 3 n3) 35 n35) hl h3
      obtain ⟨r, hr⟩ : ∃ z, z = m_readsItem (va_up RA 2 a2) (va_up (va_up RN 3 n3) 35 n35) := ⟨_, rfl⟩
      have g3 := rd_item (va_up RA 2 a2) (va_up (va_up RN 3 n3) 35 n35) hr
      rw [← hr] at g1 g2 ⊢
      by_cases h4 : r.1 = 0
      · rw [if_pos h4]; intro q; exact absurd q ne
      · rw [if_neg h4]
        have h5 : vOk r.2.1 n3 := vOk_congr (fun j hj => (g3.1 j hj).symm) h
        have h6 : itOk r.2.1 (7 * n3) := g3.2 h4
        by_cases h7 : m_fits (va_up RA 2 r.2.1) (va_up (va_up RN 3 n3) 35 r.2.2) = 0
        · rw [if_pos h7]; intro q; exact absurd q ne
        · rw [if_neg h7]
          have h8 := fits_ok (RA := va_up RA 2 r.2.1) (RN := va_up (va_up RN 3 n3) 35 r.2.2) (show n3 ≤ 170 by omega) h6 (tR_8 h5 n3 (Nat.le_refl _)) (fun a => tB_4 h5 a n3 (Nat.le_refl _)) h7
          refine ih (i + 1) r.2.1 (n3 + 1) r.2.2 (fun k hk => ?_) g1.1 ?_
          · by_cases e : k = n3
            · subst e; exact h8
            · exact h5 k (by omega)
          · have := g2 h4
            have : n35 + 3 ≤ r.2.2 := this
            omega
theorem fault_ok {RA : Nat → Nat → Int32} {RS : Nat → Int32} {RN : Nat → Nat} (hM : mI RA RS RN) {r : Int32 × (Nat → Int32) × Nat × Nat} (hr : r = m_fault RA RN) (h : r.1 = -4) : vOk r.2.1 r.2.2.1 ∧ r.2.2.1 ≤ 170 := by
  subst hr
  exact fault_L (mI_len hM) _ _ _ _ _ (fun k hk => absurd hk (Nat.not_lt_zero _)) (Nat.zero_le _) (by omega) h
