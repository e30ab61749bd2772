/-! calls that ask alone -/
theorem gcd_st (a b : Nat) : Nat.gcd a b = Nat.gcd b (a % b) := by rw [Nat.gcd_comm a b, Nat.gcd_rec b a, Nat.gcd_comm]
theorem gc_L : ∀ (n i a b : Nat), b < n → a < 2 ^ 31 → b < 2 ^ 31 → (o_greatestCommon_L15 n i (nI a) (nI b)).1 = nI (Nat.gcd a b) := by
  intro n
  induction n with
  | zero => intro i a b h; omega
  | succ n ih =>
    intro i a b h ha hb
    rw [o_greatestCommon_L15.eq_2]
    by_cases c : b = 0
    · subst c; rw [if_pos (show nI 0 ≤ 0 by decide), Nat.gcd_zero_right]
    · rw [if_neg (nI_nle (by omega) hb), pk_rem ha (by omega) hb]
      have := Nat.mod_lt a (show 0 < b by omega)
      rw [ih (i + 1) b (a % b) (by omega) hb (by omega), ← gcd_st]
theorem jmax_nI {a b : Nat} (ha : a < 2 ^ 31) (hb : b < 2 ^ 31) : jmax (nI a) (nI b) = nI (max a b) := by
  unfold jmax
  by_cases c : a < b
  · rw [if_pos (nI_lt c hb), Nat.max_eq_right (by omega)]
  · rw [if_neg (nI_nlt (by omega) ha), Nat.max_eq_left (by omega)]
theorem jmin_nI {a b : Nat} (ha : a < 2 ^ 31) (hb : b < 2 ^ 31) : jmin (nI a) (nI b) = nI (min a b) := by
  unfold jmin
  by_cases c : b < a
  · rw [if_pos (nI_lt c ha), Nat.min_eq_right (by omega)]
  · rw [if_neg (nI_nlt (by omega) hb), Nat.min_eq_left (by omega)]
theorem gc_eq {a b : Nat} (ha : a < 100) (hb : b < 100) : o_greatestCommon (nI a) (nI b) = nI (Nat.gcd a b) := by
  unfold o_greatestCommon o_greatestCommon_k15
  rw [jmax_nI (by omega) (by omega), jmin_nI (by omega) (by omega), gc_L _ _ _ _ (by omega) (by omega) (by omega)]
  rcases Nat.le_total a b with h | h
  · rw [Nat.max_eq_right h, Nat.min_eq_left h, Nat.gcd_comm]
  · rw [Nat.max_eq_left h, Nat.min_eq_right h]
theorem dv_L : ∀ (n i : Nat) (x y : Int64), 0 ≤ x.toInt → 0 ≤ y.toInt → y.toInt ≤ n → (m_divisor_L6 n i x y).1.toInt = (Nat.gcd x.toInt.toNat y.toInt.toNat : Int) := by
  intro n
  induction n with
  | zero =>
    intro i x y h1 h2 h3
    rw [m_divisor_L6.eq_1, show y.toInt.toNat = 0 by omega, Nat.gcd_zero_right]
    show x.toInt = _
    omega
  | succ n ih =>
    intro i x y h1 h2 h3
    rw [m_divisor_L6.eq_2]
    by_cases c : lg_cmp y 0 = 0
    · have hy : y.toInt = 0 := by
        rcases Nat.eq_zero_or_pos y.toInt.toNat with h9 | h9
        · omega
        · have hp : (0 : Int64).toInt < y.toInt := by rw [show (0 : Int64).toInt = 0 by decide]; omega
          have := (kcmp_gt y 0).mpr hp
          rw [c] at this
          exact absurd this (by decide)
      rw [if_pos c, show y.toInt.toNat = 0 by omega, Nat.gcd_zero_right]
      show x.toInt = _
      omega
    · rw [if_neg c]
      have hp := kpos h2 c
      have hm := kl_mod h1 hp
      have hlt := Int.emod_lt_of_pos x.toInt hp
      have hnn := Int.emod_nonneg x.toInt (show y.toInt ≠ 0 by omega)
      rw [ih (i + 1) y _ h2 (by rw [hm]; exact hnn) (by rw [hm]; omega), hm, gcd_st x.toInt.toNat, Int.toNat_emod h1 h2]
theorem dv_eq {a b : Int32} (ha : 0 ≤ a.toInt) (hb : 0 ≤ b.toInt) : (m_divisor a.toInt64 b.toInt64).toInt32 = nI (Nat.gcd a.toNatClampNeg b.toNatClampNeg) := by
  have h := dv_L b.toInt64.toInt.toNat 0 a.toInt64 b.toInt64 (by rw [Int32.toInt_toInt64]; exact ha) (by rw [Int32.toInt_toInt64]; exact hb) (by omega)
  have e : m_divisor a.toInt64 b.toInt64 = (m_divisor_L6 b.toInt64.toInt.toNat 0 a.toInt64 b.toInt64).1 := rfl
  rw [Int32.toInt_toInt64, Int32.toInt_toInt64] at h
  have e2 : a.toNatClampNeg = a.toInt.toNat := rfl
  have e3 : b.toNatClampNeg = b.toInt.toNat := rfl
  have hg : Nat.gcd a.toNatClampNeg b.toNatClampNeg < 2 ^ 31 := by
    have h1 := Int32.toInt_lt a
    have h2 := Int32.toInt_lt b
    rcases Nat.eq_zero_or_pos a.toInt.toNat with h9 | h9
    · rw [e2, e3, h9, Nat.gcd_zero_left]; omega
    · rw [e2, e3]; have := Nat.gcd_le_left b.toInt.toNat h9; omega
  apply Int32.toInt_inj.mp
  rw [nI_toInt hg, Int64.toInt_toInt32, e, Int32.toInt_toInt64, h, e2, e3]
  rw [e2, e3] at hg
  exact Int.bmod_eq_of_le (by omega) (by omega)
section SIM1
variable {ML : Nat → Nat → Int32} {MS : Nat → Int32} {PL : Nat → Nat → Nat → Int32} {PS : Nat → Nat → Int32} {VL : Nat → Nat → Nat → Int32} {VS : Nat → Nat → Int32} {RA : Nat → Nat → Int32} {RS : Nat → Int32} {RN : Nat → Nat}
theorem sim_now (h : sX ML MS PL PS VL VS RA RS RN) (v : Int32) : o_now VS PS v = m_now RS RN v := by
  unfold o_now m_now
  rw [h.D.v10, h.D.v11, h.D.v8, h.D.P.2.2.2.2.2.1.1]
theorem sim_count (h : sX ML MS PL PS VL VS RA RS RN) (v : Int32) : o_count MS VS PS v = m_count RS RN v := by
  unfold o_count m_count t_length
  rw [h.D.P.1, h.2.1.1, h.skies.1, h.D.v9, h.2.2.2.1]
theorem st9 (h : sX ML MS PL PS VL VS RA RS RN) {i : Nat} (hi : i < RN 4) : v_stands (VS 0) (PS 0) (nI i) = m_has (RS 26) (nI i) := h.D.stands (by have := h.D.many; omega)
theorem sim_thought (h : sX ML MS PL PS VL VS RA RS RN) (v1 v2 : Int32) : o_thought VL VS PL PS v1 v2 = m_thought RA RS RN v1 v2 := by
  have hr := roof_eq (PS := PS) h.D.P.1 h.D.many v1
  have h8 := h.D.many
  unfold o_thought m_thought
  by_cases c : m_isRoof RN v1 = 0
  · rw [if_pos (hr.1.mpr c), if_pos c]
  · obtain ⟨i, hi, rfl⟩ := hr.2 c
    rw [if_neg (show ¬ o_isRoof PS (nI i) = 0 from fun q => c (hr.1.mp q)), if_neg c, nI_clamp (by omega), st9 h hi]
    have h1 : (-1 : Int32).toInt = -1 := by decide
    have h4 : (4 : Int32).toInt = 4 := by decide
    have hin := in_0 v2 (-1) 3
    rw [show (-1 : Int64).toInt = -1 by decide, show (3 : Int64).toInt = 3 by decide] at hin
    by_cases c2 : v2 < -1
    · rw [if_pos c2, if_pos (hin.mpr (Or.inl (by rw [ti_lt, h1] at c2; exact c2)))]
    · rw [if_neg c2]
      rw [ti_lt, h1] at c2
      by_cases c3 : v2 < 4
      · rw [if_pos c3]
        rw [ti_lt, h4] at c3
        rw [if_neg (show ¬ m_in v2.toInt64 (-1) 3 = 0 from fun q => by rcases hin.mp q with q | q <;> omega)]
        by_cases c5 : m_has (RS 26) (nI i) = 0
        · rw [if_pos c5, if_pos c5]
        · rw [if_neg c5, if_neg c5, ch_eq h.D.P h.D.M h.D.z hi (h.D.e2 i hi)]
          by_cases c6 : v2 = -1
          · rw [if_pos c6, if_pos c6]
          · rw [if_neg c6, if_neg c6]
            have h0 : 0 ≤ v2.toInt := by
              have : v2.toInt ≠ -1 := fun q => c6 (Int32.toInt_inj.mp (by rw [q, h1]))
              omega
            obtain ⟨k, hk, rfl⟩ : ∃ k, k < 4 ∧ v2 = nI k := ⟨v2.toNatClampNeg, kNat_lt (by omega) (by omega), kNat h0⟩
            rw [nI_clamp (by omega), co_eq h.D.P h.D.M h.D.z hi (h.D.e2 i hi) hk]
            by_cases c7 : RA 12 i ≤ nI k
            · rw [if_pos c7]
              have hb := kNat (mI_bm0 h.D.M i (by omega))
              have hb4 := mI_bm h.D.M i (by omega)
              rw [hb, nI_leI (by omega) (by omega)] at c7
              rw [h.D.z i hi k (by omega) c7]
              rfl
            · rw [if_neg c7]
              by_cases c8 : bt (RA 22 i) k = true
              · rw [if_pos c8, if_neg (show ¬ m_has (RA 22 i) (nI k) = 0 from fun q => by rw [bt_has0 _ (by omega), c8] at q; cases q)]
              · rw [if_neg c8, if_pos ((bt_has0 _ (by omega)).mpr (by cases h9 : bt (RA 22 i) k <;> first | rfl | exact absurd h9 c8))]
      · rw [if_neg c3]
        rw [ti_lt, h4] at c3
        rw [if_pos (hin.mpr (Or.inr (by omega)))]
theorem sD.sm21 {vl pl : Nat → Nat → Int32} {vs ps : Nat → Int32} (h : sD vl vs pl ps RA RS RN) {j : Nat} (hj : j < 2 * RN 4) : smal (RA 21 j) := smal_of (by have := h.w1 j hj; omega) (by have := h.w1 j hj; omega)
theorem sim_roof (h : sX ML MS PL PS VL VS RA RS RN) (v1 v2 : Int32) : o_roof VL VS PL PS v1 v2 = (m_roof RA RS RN v1 v2).1 := by
  have hr := roof_eq (PS := PS) h.D.P.1 h.D.many v1
  have h8 := h.D.many
  have hl := load_eq RA RS
  unfold o_roof m_roof
  by_cases c : m_isRoof RN v1 = 0
  · rw [if_pos (hr.1.mpr c), if_pos c]
  · obtain ⟨i, hi, rfl⟩ := hr.2 c
    rw [if_neg (show ¬ o_isRoof PS (nI i) = 0 from fun q => c (hr.1.mp q)), if_neg c]
    by_cases c0 : v2 = 0
    · subst c0
      rw [if_pos rfl, if_pos rfl, nx2, rg_in (by omega) (by omega), h.D.e1 _ (by omega), nI_clamp (by omega)]
      rfl
    · rw [if_neg c0, if_neg c0]
      by_cases c1 : v2 = 1
      · subst c1
        rw [if_pos rfl, if_pos rfl, nx21, rg_in (by omega) (by omega), h.D.e1 _ (by omega), nI_clamp (by omega)]
        rfl
      · rw [if_neg c1, if_neg c1]
        by_cases c2 : v2 = 2
        · rw [if_pos c2, if_pos c2, nI_clamp (by omega)]
          have z := pw_eq (vl := VL 0) (pl := PL 0) (RA := nR RA (m_load RA RS).1 (m_load RA RS).2.1 (m_load RA RS).2.2.1) (i := i) (by omega) (h.D.P.2.1 i hi).1.1 (h.D.e1 _ (by omega)) (h.D.e1 _ (by omega)) (x := 0) (y := 0) (by rw [Int32.add_zero]; exact h.D.sm21 (by omega)) (by rw [Int32.add_zero]; exact h.D.sm21 (by omega))
          rw [Int32.add_zero, Int32.add_zero] at z
          exact z
        · rw [if_neg c2, if_neg c2]
          by_cases c3 : v2 = 3
          · rw [if_pos c3, if_pos c3, nI_clamp (by omega)]
            have hpm := mI_pm h.D.M i (by omega)
            exact dn_eq (RA := nR RA (m_load RA RS).1 (m_load RA RS).2.1 (m_load RA RS).2.2.1) (RS := va_up RS 38 (m_load RA RS).2.2.2) (RN := RN) h.D.M h.D.P.2.2.2.2.2.2.1 (by omega) (h.D.e4 i hi) (fun k hk => by
              have hk : k < (RA 25 i).toNatClampNeg := hk
              rw [h.D.e5 i k hi hk]
              exact (hl.2.1 _ (by omega)).symm)
          · rw [if_neg c3, if_neg c3]
            by_cases c4 : v2 = 4
            · rw [if_pos c4, if_pos c4, rg_in (by omega) (by omega), h.D.e4 i hi, nI_clamp (by omega)]
            · rw [if_neg c4, if_neg c4]
              by_cases c5 : v2 = 5
              · rw [if_pos c5, if_pos c5, st9 h hi, nI_clamp (by omega)]
                show _ = ((RS 26 >>> (nI i &&& 31)) &&& 1)
                by_cases b : bt (RS 26) i = true
                · rw [if_neg (show ¬ m_has (RS 26) (nI i) = 0 from fun q => by rw [bt_has0 _ (by omega), b] at q; cases q), (bt_c _ (by omega)).mpr b]
                · have b' : bt (RS 26) i = false := by cases h9 : bt (RS 26) i <;> first | rfl | exact absurd h9 b
                  rw [if_pos ((bt_has0 _ (by omega)).mpr b')]
                  apply b_ext
                  intro k hk
                  rw [b_and, bt_1 k hk, b_0]
                  by_cases e : k = 0
                  · subst e; rw [b_sshr i (by omega) _ (by omega), if_pos (by omega), Nat.add_zero, b']; rfl
                  · rw [decide_eq_false e, Bool.and_false]
              · rw [if_neg c5, if_neg c5]
                by_cases c6 : v2 = 6
                · rw [if_pos c6, if_pos c6, rg_in (by omega) (by omega), h.D.e3 i hi, nI_clamp (by omega)]
                · rw [if_neg c6, if_neg c6]
                  by_cases c7 : v2 = 7
                  · rw [if_pos c7, if_pos c7, rg_in (by omega) (by omega), (h.D.P.2.1 i hi).2.2.1, nI_clamp (by omega)]
                  · rw [if_neg c7, if_neg c7]
end SIM1
