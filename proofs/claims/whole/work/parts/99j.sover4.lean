/-! over: the reference's rows -/
section SOVER4
variable {RA : Nat → Nat → Int32} {RS : Nat → Int32} {RN : Nat → Nat} {r : Int32}
/-- a row's loss times its tenths -/
def rowV (RA : Nat → Nat → Int32) (RS : Nat → Int32) (RN : Nat → Nat) (s38 r : Int32) (v2 n c s : Nat) (p : Int64) (a b d : Nat → Int32) (i : Nat) : Int64 :=
  (m_over_L54 RA RS RN s38 r v2 i n c s p a b d).2.1 * m_lost (nR RA (m_over_L54 RA RS RN s38 r v2 i n c s p a b d).2.2.1 (m_over_L54 RA RS RN s38 r v2 i n c s p a b d).2.2.2.1 (m_over_L54 RA RS RN s38 r v2 i n c s p a b d).2.2.2.2) (va_up RS 38 s38) RN
theorem rowV_0 {s38 : Int32} {v2 c s : Nat} {p : Int64} {a b d : Nat → Int32} {i : Nat} : rowV RA RS RN s38 r v2 0 c s p a b d i = p * m_lost (nR RA a b d) (va_up RS 38 s38) RN := by
  unfold rowV
  rw [m_over_L54.eq_1]
theorem rowV_1 {s38 : Int32} {v2 n c s k : Nat} {p : Int64} {a b d : Nat → Int32} {i : Nat} (hk : (i / m_power 3 (v2 - 1 - c)) % 3 = k) : rowV RA RS RN s38 r v2 (n + 1) c s p a b d i = rowV RA RS RN s38 r v2 n (c + 1) k (p * (RA 14 (3 * s + k)).toInt64) (m_goHour (nR RA a b d) (va_up RS 38 s38) RN r k (RS 15) (-4)).1 (m_goHour (nR RA a b d) (va_up RS 38 s38) RN r k (RS 15) (-4)).2.1 (m_goHour (nR RA a b d) (va_up RS 38 s38) RN r k (RS 15) (-4)).2.2 i := by
  subst hk
  unfold rowV
  rw [m_over_L54.eq_2]
  rfl
/-- all rows together, each piece by its first digit -/
theorem en_T (s38 : Int32) : ∀ (n c v2 q s : Nat) (p : Int64) (a b d : Nat → Int32), c + n = v2 → oS (rowV RA RS RN s38 r v2 n c s p a b d) (3 ^ n) (q * 3 ^ n) = p * oT RA (va_up RS 38 s38) RN r n s a b d := by
  intro n
  induction n with
  | zero =>
    intro c v2 q s p a b d _
    show rowV RA RS RN s38 r v2 0 c s p a b d (q * 3 ^ 0) + 0 = _
    rw [Int64.add_zero, rowV_0]
    rfl
  | succ n ih =>
    intro c v2 q s p a b d hc
    have pos : 0 < 3 ^ n := Nat.pow_pos (by omega)
    have piece : ∀ k, k < 3 → oS (rowV RA RS RN s38 r v2 (n + 1) c s p a b d) (3 ^ n) ((3 * q + k) * 3 ^ n) = p * ((RA 14 (3 * s + k)).toInt64 * oT RA (va_up RS 38 s38) RN r n k (m_goHour (nR RA a b d) (va_up RS 38 s38) RN r k (RS 15) (-4)).1 (m_goHour (nR RA a b d) (va_up RS 38 s38) RN r k (RS 15) (-4)).2.1 (m_goHour (nR RA a b d) (va_up RS 38 s38) RN r k (RS 15) (-4)).2.2) := by
      intro k hk
      rw [← Int64.mul_assoc, ← ih (c + 1) v2 (3 * q + k) k _ _ _ _ (by omega)]
      refine oS_congr _ _ (fun j h1 h2 => rowV_1 ?_)
      rw [pow_eq, show v2 - 1 - c = n by omega]
      have h3 : j / 3 ^ n = 3 * q + k := by
        have e : (3 * q + k) * 3 ^ n + 3 ^ n = (3 * q + k + 1) * 3 ^ n := by rw [Nat.add_mul (3 * q + k) 1, Nat.one_mul]
        rw [e] at h2
        exact Nat.div_eq_of_lt_le h1 h2
      rw [h3]; omega
    have e3 : 3 ^ (n + 1) = 3 ^ n + (3 ^ n + 3 ^ n) := by rw [Nat.pow_succ]; omega
    have s0 : q * 3 ^ (n + 1) = (3 * q + 0) * 3 ^ n := by rw [Nat.pow_succ, Nat.mul_comm (3 ^ n), ← Nat.mul_assoc, Nat.mul_comm q]; rfl
    have s1 : (3 * q + 0) * 3 ^ n + 3 ^ n = (3 * q + 1) * 3 ^ n := by rw [Nat.add_mul (3 * q) 1, Nat.one_mul]; rfl
    have s2 : (3 * q + 1) * 3 ^ n + 3 ^ n = (3 * q + 2) * 3 ^ n := by rw [Nat.add_mul (3 * q) 2, Nat.add_mul (3 * q) 1]; omega
    rw [s0, e3, oS_add, oS_add, s1, s2, piece 0 (by omega), piece 1 (by omega), piece 2 (by omega), ← Int64.mul_add, ← Int64.mul_add]
    show p * (_ + (_ + _)) = p * (_ + (_ + (_ + 0)))
    rw [Int64.add_zero]
    rfl
/-- a row's worth is the class's: views that are alike to one village end alike -/
theorem row_det {pl : Nat → Nat → Int32} {ps : Nat → Int32} {s38 : Int32} (hC : mC RA RS RN) (e26 : RS 26 = s38) (hd : (RS 15).toNatClampNeg ≤ 100) (ht : r = 3 → RN 29 < 2 * RN 4) (v2 i : Nat) : ∀ (n c s : Nat) (p : Int64) (vl : Nat → Nat → Int32) (vs : Nat → Int32) (a b d a' b' d' : Nat → Int32), vs 12 = nI (RN 29) → sF vl vs pl ps (nR RA a b d) (va_up RS 38 s38) RN → sF vl vs pl ps (nR RA a' b' d') (va_up RS 38 s38) RN →
    rowV RA RS RN s38 r v2 n c s p a b d i = rowV RA RS RN s38 r v2 n c s p a' b' d' i := by
  intro n
  induction n with
  | zero =>
    intro c s p vl vs a b d a' b' d' _ h1 h2
    have q1 := lo_eq h1 (mC_of hC rfl rfl rfl rfl rfl rfl) e26
    have q2 := lo_eq h2 (mC_of hC rfl rfl rfl rfl rfl rfl) e26
    rw [rowV_0, rowV_0, ← q1, ← q2]
  | succ n ih =>
    intro c s p vl vs a b d a' b' d' h12 h1 h2
    obtain ⟨k, hk⟩ : ∃ k, (i / m_power 3 (v2 - 1 - c)) % 3 = k := ⟨_, rfl⟩
    have hk3 : k < 3 := by rw [← hk]; exact Nat.mod_lt _ (by omega)
    rw [rowV_1 hk, rowV_1 hk]
    have g1 := h1.gone (w := vl) (ws := vs) hk3 r (fun q => ⟨h12, ht q⟩) (hands := RS 15) hd
    have g2 := h2.gone (w := vl) (ws := vs) hk3 r (fun q => ⟨h12, ht q⟩) (hands := RS 15) hd
    exact ih (c + 1) k _ _ _ _ _ _ _ _ _ (g1.2.2.2.trans h12) (by rw [← nR_nR]; exact g1.1) (by rw [← nR_nR]; exact g2.1)
theorem lg_0 {x : Int64} : lg_cmp x 0 = 0 → x = 0 := by
  intro q
  have h1 : ¬ lg_cmp x 0 < 0 := by rw [q]; decide
  have h2 : ¬ 0 < lg_cmp x 0 := by rw [q]; decide
  rw [kcmp_lt] at h1
  rw [kcmp_gt] at h2
  exact Int64.toInt_inj.mp (by omega)
theorem ov_b {v1 : Int32} {v2 i : Nat} {v3 : Int64} {a b d : Nat → Int32} {s : Int32} : (m_over_b28 RA RS RN v1 v2 i v3 a b d s).1 = v3 + rowV RA RS RN (m_load (nR RA a b d) (va_up RS 38 s)).2.2.2 v1 v2 v2 0 (RN 28) 1 (m_load (nR RA a b d) (va_up RS 38 s)).1 (m_load (nR RA a b d) (va_up RS 38 s)).2.1 (m_load (nR RA a b d) (va_up RS 38 s)).2.2.1 i := by
  unfold m_over_b28 m_over_b28_k54 rowV nR
  obtain ⟨L, hL⟩ : ∃ L, L = m_over_L54 RA RS RN (m_load (va_up (va_up (va_up RA 36 a) 37 b) 39 d) (va_up RS 38 s)).2.2.2 v1 v2 i v2 0 (RN 28) 1 (m_load (va_up (va_up (va_up RA 36 a) 37 b) 39 d) (va_up RS 38 s)).1 (m_load (va_up (va_up (va_up RA 36 a) 37 b) 39 d) (va_up RS 38 s)).2.1 (m_load (va_up (va_up (va_up RA 36 a) 37 b) 39 d) (va_up RS 38 s)).2.2.1 := ⟨_, rfl⟩
  rw [← hL]
  by_cases c : lg_cmp L.2.1 0 = 0
  · rw [if_pos c, lg_0 c, Int64.zero_mul]
  · rw [if_neg c, Int64.mul_comm]
end SOVER4
