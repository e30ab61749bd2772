/-! best: the call -/
theorem ti_div {a b : Int32} (h : 0 ≤ a.toInt) (hb : 0 < b.toInt) : (a / b).toInt = a.toInt / b.toInt := by
  have h2 := Int32.toInt_lt a
  have h3 := Int.ediv_nonneg h (Int.le_of_lt hb)
  have h4 := Int.ediv_le_self b.toInt h
  rw [Int32.toInt_div, Int.tdiv_eq_ediv_of_nonneg h]
  exact Int.bmod_eq_of_le (by omega) (by omega)
theorem nI_dv {a b : Nat} (ha : a < 2 ^ 31) (hb : 0 < b) (hb2 : b < 2 ^ 31) : nI a / nI b = nI (a / b) := by
  have e := ti_div (a := nI a) (b := nI b) (by rw [nI_toInt ha]; omega) (by rw [nI_toInt hb2]; omega)
  rw [nI_toInt ha, nI_toInt hb2] at e
  apply Int32.toInt_inj.mp
  have := Nat.div_le_self a b
  rw [e, nI_toInt (by omega)]
  rfl
theorem nI_md {a b : Nat} (ha : a < 2 ^ 31) (hb : 0 < b) (hb2 : b < 2 ^ 31) : nI a - nI a / nI b * nI b = nI (a % b) := by
  rw [nI_dv ha hb hb2, nI_mul]
  have e : nI a = nI (a % b) + nI (a / b * b) := by
    rw [nI_add]
    have := Nat.mod_add_div a b
    rw [Nat.mul_comm (a / b), this]
  rw [e, Int32.add_sub_cancel]
section SBEST6
variable {ML : Nat → Nat → Int32} {MS : Nat → Int32} {PL : Nat → Nat → Nat → Int32} {PS : Nat → Nat → Int32} {VL : Nat → Nat → Nat → Int32} {VS : Nat → Nat → Int32} {RA : Nat → Nat → Int32} {RS : Nat → Int32} {RN : Nat → Nat} {RL LL : Int64}
theorem sX.ld (h : sX ML MS PL PS VL VS RA RS RN) : ldOk (nS (VL 3) (VL 0) (VS 0)) (nT (VL 3) (VL 0) (VS 0) (VS 3)) (PL 0) (PS 0) RA RS RN := fun a b d s => h.begun a b d s _ _
theorem sim_best (h : sX ML MS PL PS VL VS RA RS RN) (v1 v2 : Int32) : (o_best ML MS VL VS PL PS LL v1 v2).1 = (m_best RA RS RN RL v1 v2).1 := by
  have i1 : (1 : Int32).toInt = 1 := by decide
  have i3 : (3 : Int32).toInt = 3 := by decide
  have im : (-1 : Int32).toInt = -1 := by decide
  have h1 := in_0 v1 1 3
  rw [show (1 : Int64).toInt = 1 by decide, show (3 : Int64).toInt = 3 by decide] at h1
  have hm := mI_rowMany h.D.M
  unfold o_best m_best
  by_cases c1 : v1 < 1
  · rw [if_pos c1, if_pos (h1.mpr (Or.inl (by rw [ti_lt, i1] at c1; exact c1)))]
  · rw [if_neg c1]
    rw [ti_lt, i1] at c1
    by_cases c2 : 3 < v1
    · rw [if_pos c2, if_pos (h1.mpr (Or.inr (by rw [ti_lt, i3] at c2; exact c2)))]
    · rw [if_neg c2]
      rw [ti_lt, i3] at c2
      rw [if_neg (show ¬ m_in v1.toInt64 1 3 = 0 from fun q => by rcases h1.mp q with q | q <;> omega)]
      obtain ⟨N, hN, rfl⟩ : ∃ n, n < 4 ∧ v1 = nI n := ⟨v1.toNatClampNeg, kNat_lt (by omega) (by omega), kNat (by omega)⟩
      rw [nI_toInt (by omega)] at c1 c2
      rw [nI_clamp (by omega)]
      have h2 := in_0 v2 (-1) (nI (N - 1)).toInt64
      rw [show (-1 : Int64).toInt = -1 by decide, ki2l, nI_toInt (by omega)] at h2
      by_cases c3 : v2 < -1
      · rw [if_pos c3, if_pos (h2.mpr (Or.inl (by rw [ti_lt, im] at c3; exact c3)))]
      · rw [if_neg c3]
        rw [ti_lt, im] at c3
        by_cases c4 : v2 < nI N
        · rw [if_pos c4]
          rw [ti_lt, nI_toInt (by omega)] at c4
          rw [if_neg (show ¬ m_in v2.toInt64 (-1) (nI (N - 1)).toInt64 = 0 from fun q => by rcases h2.mp q with q | q <;> omega), h.skies.1]
          by_cases c5 : nI N ≤ nI (RN 32)
          · rw [if_pos c5, if_pos c5]
            rw [ti_le, nI_toInt (by omega), nI_toInt (by omega)] at c5
            obtain ⟨q1, q, q2, q3⟩ := find_eq (ML := ML) (VL := va_up VL 3 (nS (VL 3) (VL 0) (VS 0))) (VS := va_up VS 3 (nT (VL 3) (VL 0) (VS 0) (VS 3))) (PL := PL) (PS := PS) h.ld h.D.M h.D.b h.D.C h.skies.2 N (by omega) (by omega) (by omega)
            by_cases c6 : v2 = -1
            · rw [if_pos c6, if_pos c6]
              exact q1
            · rw [if_neg c6, if_neg c6]
              obtain ⟨i, hi, rfl⟩ : ∃ n, n < N ∧ v2 = nI n := by
                have : ¬ v2.toInt = -1 := fun q => c6 (Int32.toInt_inj.mp (by rw [im]; exact q))
                exact ⟨v2.toNatClampNeg, kNat_lt (by omega) (by omega), kNat (by omega)⟩
              have b1 : 17 ^ N ≤ 17 ^ 3 := Nat.pow_le_pow_right (by omega) (by omega)
              have b2 : 17 ^ (N - 1 - i) ≤ 17 ^ 3 := Nat.pow_le_pow_right (by omega) (by omega)
              have b3 : 0 < 17 ^ (N - 1 - i) := Nat.pow_pos (by omega)
              have b4 := q3.1
              have b5 := Nat.div_le_self q (17 ^ (N - 1 - i))
              have e3 : (17 : Nat) ^ 3 = 4913 := rfl
              show (rg 3 ((s_find ML (va_up VL 3 (nS (VL 3) (VL 0) (VS 0))) (va_up VS 3 (nT (VL 3) (VL 0) (VS 0) (VS 3))) PL PS (nI N)).2.1 4) (nI i)).toInt64 = _
              rw [rg_in (by omega) (by omega), q3.2 i hi, nI_clamp (by omega), q2, pow_eq]
              show _ = (nI q / nI (17 ^ (N - 1 - i)) - nI q / nI (17 ^ (N - 1 - i)) / nI 17 * nI 17).toInt64
              rw [nI_dv (by omega) b3 (by omega), nI_md (by omega) (by omega) (by omega)]
          · rw [if_neg c5, if_neg c5]
        · rw [if_neg c4]
          rw [ti_lt, nI_toInt (by omega)] at c4
          rw [if_pos (h2.mpr (Or.inr (by omega)))]
theorem best_keep (v1 v2 : Int32) : ((o_best ML MS VL VS PL PS LL v1 v2).2.2.1 0 = ML 0 ∧ (o_best ML MS VL VS PL PS LL v1 v2).2.2.1 2 = ML 2) ∧ ∀ k, k < 3 → (o_best ML MS VL VS PL PS LL v1 v2).2.2.2.1 k = VL k ∧ (o_best ML MS VL VS PL PS LL v1 v2).2.2.2.2 k = VS k := by
  have fk := find_keep (PL := PL) (PS := PS) ML (va_up VL 3 (nS (VL 3) (VL 0) (VS 0))) (va_up VS 3 (nT (VL 3) (VL 0) (VS 0) (VS 3))) v1
  unfold o_best
  repeat' split
  all_goals first
    | exact ⟨⟨rfl, rfl⟩, fun k _ => ⟨rfl, rfl⟩⟩
    | exact ⟨fk.1, fun k hk => ⟨(fk.2 k (by omega)).1.trans (va_up_ne _ _ (by omega)), (fk.2 k (by omega)).2.trans (va_up_ne _ _ (by omega))⟩⟩
end SBEST6
