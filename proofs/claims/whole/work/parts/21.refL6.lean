theorem m_divisor_L_rng : ∀ (n i : Nat) (x y : Int64), 0 ≤ x.toInt → 0 ≤ y.toInt → y.toInt ≤ n → (0 < x.toInt ∨ 0 < y.toInt) → x.toInt ≤ 1000 → y.toInt ≤ 1000 → 0 < (m_divisor_L6 n i x y).1.toInt ∧ (m_divisor_L6 n i x y).1.toInt ≤ 1000 := by
  intro n
  induction n with
  | zero => intro i x y hx hy hn hp h1 h2; rw [m_divisor_L6.eq_1]; show 0 < x.toInt ∧ x.toInt ≤ 1000; omega
  | succ n ih =>
    intro i x y hx hy hn hp h1 h2
    rw [m_divisor_L6.eq_2]
    by_cases h : lg_cmp y 0 = 0
    · rw [if_pos h]
      have h0 : y.toInt = 0 := by
        by_cases q : y.toInt = 0
        · exact q
        · exfalso
          have : 0 < lg_cmp y 0 := (kcmp_gt y 0).mpr (by show 0 < y.toInt; omega)
          rw [h] at this
          exact absurd this (by decide)
      show 0 < x.toInt ∧ x.toInt ≤ 1000
      omega
    · rw [if_neg h]
      have hp2 := kpos hy h
      have e := kl_mod hx hp2
      have e1 := Int.emod_nonneg x.toInt (show y.toInt ≠ 0 by omega)
      have e2 := Int.emod_lt_of_pos x.toInt hp2
      exact ih (i + 1) y _ hy (by rw [e]; exact e1) (by rw [e]; omega) (Or.inl hp2) h2 (by rw [e]; omega)
theorem m_divisor_ne {x y : Int32} (hx : 0 ≤ x.toInt) (hx2 : x.toInt ≤ 40) (hy : 0 ≤ y.toInt) (hy2 : y.toInt ≤ 40) (hn : ¬ y = 0) : ¬ (m_divisor x.toInt64 y.toInt64).toInt32 = 0 := by
  have hy0 : y.toInt ≠ 0 := fun q => hn (Int32.toInt_inj.mp (q.trans k0I.symm))
  have h := m_divisor_L_rng y.toInt64.toInt.toNat 0 x.toInt64 y.toInt64 (by rw [ki2l]; omega) (by rw [ki2l]; omega) (by rw [ki2l]; omega) (Or.inr (by rw [ki2l]; omega)) (by rw [ki2l]; omega) (by rw [ki2l]; omega)
  intro q
  have h2 := congrArg Int32.toInt q
  unfold m_divisor m_divisor_k6 at h2
  rw [Int64.toInt_toInt32, k0I, Int.bmod_eq_of_le (by omega) (by omega)] at h2
  omega
theorem m_goes_ne {RA RA0 : Nat → Nat → Int32} {RS0 : Nat → Int32} {RN0 : Nat → Nat} (h : mI RA0 RS0 RN0) (hC : mC RA0 RS0 RN0) (e10 : RA 10 = RA0 10) (e11 : RA 11 = RA0 11) (e12 : RA 12 = RA0 12) (e22 : RA 22 = RA0 22) (h4 : RN0 4 ≤ 8) {i : Nat} (hi : i < RN0 4) (hs : ¬ m_has (RS0 26) (nI i) = 0) (p : Int32) : ¬ (m_divisor (m_below RA i p).toInt64 (m_chances RA i).toInt64).toInt32 = 0 := by
  have h1 := m_below_all h e11 e12 (i := i) (by omega) p
  have h2 := m_below_all h e11 e12 (i := i) (by omega) 1000000
  refine m_divisor_ne h1.1 h1.2 h2.1 h2.2 ?_
  exact (mC_of (RS' := RS0) (RN' := RN0) hC e10 e11 e12 e22 rfl rfl) i hi hs
