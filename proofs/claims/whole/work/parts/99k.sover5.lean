/-! over -/
theorem td_td (a : Int) (m n : Nat) : (a.tdiv m).tdiv n = a.tdiv (m * n : Nat) := by
  rcases Int.le_total 0 a with h | h
  · have h2 : 0 ≤ a.tdiv m := by rw [Int.tdiv_eq_ediv_of_nonneg h]; exact Int.ediv_nonneg h (Int.natCast_nonneg m)
    rw [Int.tdiv_eq_ediv_of_nonneg h2, Int.tdiv_eq_ediv_of_nonneg h, Int.tdiv_eq_ediv_of_nonneg h, Int.ediv_ediv_of_nonneg (Int.natCast_nonneg m), Int.natCast_mul]
  · obtain ⟨b, rfl⟩ : ∃ b, a = -b := ⟨-a, by omega⟩
    have h : 0 ≤ b := by omega
    have h2 : 0 ≤ b.tdiv m := by rw [Int.tdiv_eq_ediv_of_nonneg h]; exact Int.ediv_nonneg h (Int.natCast_nonneg m)
    rw [Int.neg_tdiv, Int.neg_tdiv, Int.neg_tdiv, Int.tdiv_eq_ediv_of_nonneg h2, Int.tdiv_eq_ediv_of_nonneg h, Int.tdiv_eq_ediv_of_nonneg h, Int.ediv_ediv_of_nonneg (Int.natCast_nonneg m), Int.natCast_mul]
theorem L45_q : ∀ (n i : Nat) (v : Int64), (o_over_L45 n i v).toInt = v.toInt.tdiv (10 ^ n : Nat) := by
  intro n
  induction n with
  | zero => intro i v; rw [o_over_L45.eq_1]; simp
  | succ n ih =>
    intro i v
    have h10 : (10 : Int64).toInt = 10 := by decide
    have e : (v / 10).toInt = v.toInt.tdiv (10 : Nat) := by
      rw [Int64.toInt_div, h10]
      have h2 := Int64.toInt_lt v
      have h3 := Int64.le_toInt v
      have h5 : (v.toInt.tdiv 10).natAbs = v.toInt.natAbs / 10 := Int.natAbs_tdiv _ _
      exact Int.bmod_eq_of_le (by omega) (by omega)
    rw [o_over_L45.eq_2, ih (i + 1) _, e, td_td, Nat.pow_succ, Nat.mul_comm]
section SOVER5
variable {ML : Nat → Nat → Int32} {MS : Nat → Int32} {PL : Nat → Nat → Nat → Int32} {PS : Nat → Nat → Int32} {VL : Nat → Nat → Nat → Int32} {VS : Nat → Nat → Int32} {RA : Nat → Nat → Int32} {RS : Nat → Int32} {RN : Nat → Nat}
theorem sX.begun (h : sX ML MS PL PS VL VS RA RS RN) (a b c : Nat → Int32) (s : Int32) (vl : Nat → Nat → Int32) (vs : Nat → Int32) : sF (nS vl (VL 0) (VS 0)) (nT vl (VL 0) (VS 0) vs) (PL 0) (PS 0) (nR RA (m_load (nR RA a b c) (va_up RS 38 s)).1 (m_load (nR RA a b c) (va_up RS 38 s)).2.1 (m_load (nR RA a b c) (va_up RS 38 s)).2.2.1) (va_up RS 38 (m_load (nR RA a b c) (va_up RS 38 s)).2.2.2) RN := by
  have h2 := (h.look3 (VL 3) (VS 3) a b c s).D
  have q := (h2.begun (vl' := vl) (vs' := vs)).1
  rw [nR_nR, va_uu] at q
  exact q
theorem L28_eq (h : sX ML MS PL PS VL VS RA RS RN) (r : Int32) (v2 : Nat) : ∀ (n i : Nat) (v3 : Int64) (a b d : Nat → Int32) (s : Int32), (m_over_L28 RA RS RN r v2 n i v3 a b d s).1 = v3 + oS (rowV RA RS RN (RS 26) r v2 v2 0 (RN 28) 1 (m_load RA RS).1 (m_load RA RS).2.1 (m_load RA RS).2.2.1) n i := by
  have hb := rB_hands h.D.b
  have e0 : nR RA (RA 36) (RA 37) (RA 39) = RA := by unfold nR; rw [va_eta, va_eta, va_eta]
  have l0 : (m_load RA RS).2.2.2 = RS 26 := (load_eq RA RS).2.2.2
  intro n
  induction n with
  | zero => intro i v3 a b d s; rw [m_over_L28.eq_1]; exact (Int64.add_zero v3).symm
  | succ n ih =>
    intro i v3 a b d s
    have l1 : (m_load (nR RA a b d) (va_up RS 38 s)).2.2.2 = RS 26 := (load_eq _ _).2.2.2
    rw [m_over_L28.eq_2, ih, ov_b, l1, Int64.add_assoc]
    show _ = v3 + (_ + _)
    have q1 := h.begun a b d s (VL 3) (VS 3)
    have q2 := h.begun (RA 36) (RA 37) (RA 39) (RS 38) (VL 3) (VS 3)
    rw [e0, va_eta, l0] at q2
    rw [l1] at q1
    rw [row_det (pl := PL 0) (ps := PS 0) h.D.C rfl (hands_le (by omega)) (fun _ => h.D.told) v2 i v2 0 (RN 28) 1 _ _ _ _ _ _ _ _ ((h.D.begun (vl' := VL 3) (vs' := VS 3)).2.1) q1 q2]
theorem sim_over (h : sX ML MS PL PS VL VS RA RS RN) (v1 v2 : Int32) : (o_over VL VS PL PS v1 v2).1 = (m_over RA RS RN v1 v2).1 := by
  have hb := rB_hands h.D.b
  have hin := in_0 v2 1 5
  rw [show (1 : Int64).toInt = 1 by decide, show (5 : Int64).toInt = 5 by decide] at hin
  have i1 : (1 : Int32).toInt = 1 := by decide
  have i5 : (5 : Int32).toInt = 5 := by decide
  have l0 : (m_load RA RS).2.2.2 = RS 26 := (load_eq RA RS).2.2.2
  unfold o_over m_over
  by_cases c : m_isRule v1 = 0
  · rw [if_pos ((rule_eq v1).mpr c), if_pos c]
  · rw [if_neg (show ¬ o_isRule v1 = 0 from fun q => c ((rule_eq v1).mp q)), if_neg c]
    by_cases c2 : v2 < 1
    · rw [if_pos c2, if_pos (hin.mpr (Or.inl (by rw [ti_lt, i1] at c2; exact c2)))]
    · rw [if_neg c2]
      rw [ti_lt, i1] at c2
      by_cases c3 : v2 ≤ 5
      · rw [if_pos c3]
        rw [ti_le, i5] at c3
        rw [if_neg (show ¬ m_in v2.toInt64 1 5 = 0 from fun q => by rcases hin.mp q with q | q <;> omega)]
        obtain ⟨n, hn, rfl⟩ : ∃ n, n < 6 ∧ v2 = nI n := ⟨v2.toNatClampNeg, kNat_lt (by omega) (by omega), kNat (by omega)⟩
        rw [nI_clamp (by omega)]
        obtain ⟨q1, q2, q3, q4⟩ := h.D.begun (vl' := VL 3) (vs' := VS 3)
        have z := lo_T (PL := PL) (PS := PS) (RA := RA) (RS := va_up RS 38 (m_load RA RS).2.2.2) (RN := RN) (r := v1) (mC_of h.D.C rfl rfl rfl rfl rfl rfl) l0.symm (hands_le (by show (RS 15).toInt ≤ 100; omega)) (fun _ => h.D.told) 5 3 n (RN 28) (va_up VL 3 (nS (VL 3) (VL 0) (VS 0))) (va_up VS 3 (nT (VL 3) (VL 0) (VS 0) (VS 3))) (m_load RA RS).1 (m_load RA RS).2.1 (m_load RA RS).2.2.1 (by omega) (mI_sky h.D.M) (by omega) q1 q4 q2
        have y := L28_eq h v1 n (3 ^ n) 0 0 (RA 36) (RA 37) (RA 39) (RS 38)
        have y2 := en_T (RA := RA) (RS := RS) (RN := RN) (r := v1) (RS 26) n 0 n 0 (RN 28) 1 (m_load RA RS).1 (m_load RA RS).2.1 (m_load RA RS).2.2.1 (by omega)
        rw [Nat.zero_mul] at y2
        rw [y2, Int64.one_mul, Int64.zero_add] at y
        rw [l0] at z
        unfold o_over_k45 m_over_k28
        show o_over_L45 n 0 (o_loR PL PS 5 3 (va_up VL 3 (nS (VL 3) (VL 0) (VS 0))) (va_up VS 3 (nT (VL 3) (VL 0) (VS 0) (VS 3))) v1 (nI n)).1 = (m_over_L28 RA RS RN v1 n (m_power 3 n) 0 0 (RA 36) (RA 37) (RA 39) (RS 38)).1 / (nI (m_power 10 n)).toInt64
        rw [pow_eq, pow_eq, y, z]
        apply Int64.toInt_inj.mp
        have p10 : 10 ^ n ≤ 100000 := by
          have := Nat.pow_le_pow_right (n := 10) (by omega) (show n ≤ 5 by omega)
          exact this
        have p1 : 0 < 10 ^ n := Nat.pow_pos (by omega)
        have ep : (nI (10 ^ n)).toInt64.toInt = (10 ^ n : Nat) := by rw [ki2l, nI_toInt (by omega)]
        rw [L45_q, Int64.toInt_div, ep]
        obtain ⟨x, hx⟩ : ∃ x, x = oT RA (va_up RS 38 (RS 26)) RN v1 n (RN 28) (m_load RA RS).1 (m_load RA RS).2.1 (m_load RA RS).2.2.1 := ⟨_, rfl⟩
        rw [← hx]
        obtain ⟨m, hm⟩ : ∃ m, m = 10 ^ n := ⟨_, rfl⟩
        rw [← hm] at p1 p10 ⊢
        have h2 := Int64.toInt_lt x
        have h3 := Int64.le_toInt x
        have h5 : (x.toInt.tdiv (m : Int)).natAbs = x.toInt.natAbs / m := by rw [Int.natAbs_tdiv]; rfl
        by_cases m1 : m = 1
        · rw [m1]
          rw [show ((1 : Nat) : Int) = 1 from rfl, Int.tdiv_one]
          exact (Int.bmod_eq_of_le (by omega) (by omega)).symm
        · have h6 : x.toInt.natAbs / m ≤ x.toInt.natAbs / 2 := Nat.div_le_div_left (by omega) (by omega)
          exact (Int.bmod_eq_of_le (by omega) (by omega)).symm
      · rw [if_neg c3]
        rw [ti_le, i5] at c3
        rw [if_pos (hin.mpr (Or.inr (by omega)))]
end SOVER5
