theorem m_power_L_eq (b : Nat) : ∀ (n i v : Nat), m_power_L4 b n i v = v * b ^ n := by
  intro n
  induction n with
  | zero => intro i v; rw [m_power_L4.eq_1, Nat.pow_zero, Nat.mul_one]
  | succ n ih => intro i v; rw [m_power_L4.eq_2, ih, Nat.pow_succ, Nat.mul_assoc, Nat.mul_comm b]
theorem m_power_eq (b n : Nat) : m_power b n = b ^ n := by
  unfold m_power m_power_k4
  rw [m_power_L_eq, Nat.one_mul]
theorem m_power_pos (b : Nat) (hb : 0 < b) (n : Nat) : 0 < m_power b n := by rw [m_power_eq]; exact Nat.pow_pos hb
theorem m_power_lt3 {n : Nat} (h : n ≤ 5) : m_power 3 n < 2147483648 := by
  rw [m_power_eq]
  exact Nat.lt_of_le_of_lt (Nat.pow_le_pow_right (by omega) h) (by decide)
theorem m_power_lt10 {n : Nat} (h : n ≤ 5) : m_power 10 n < 2147483648 := by
  rw [m_power_eq]
  exact Nat.lt_of_le_of_lt (Nat.pow_le_pow_right (by omega) h) (by decide)
theorem m_power_lt17 {n : Nat} (h : n ≤ 3) : m_power 17 n < 2147483648 := by
  rw [m_power_eq]
  exact Nat.lt_of_le_of_lt (Nat.pow_le_pow_right (by omega) h) (by decide)
theorem m_power_ne (b : Nat) (hb : 0 < b) {n : Nat} (h : m_power b n < 2147483648) : ¬ nI (m_power b n) = 0 := nI_ne0 (m_power_pos b hb n) h
theorem m_power_neL (b : Nat) (hb : 0 < b) {n : Nat} (h : m_power b n < 2147483648) : ¬ (nI (m_power b n)).toInt64 = 0 := ki2l_ne (m_power_ne b hb h)
theorem kge0 {x : Int32} (h : ¬ x < 0) : 0 ≤ x := Int32.not_lt.mp h
theorem mI_sky_up {RA : Nat → Nat → Int32} {RS : Nat → Int32} {RN : Nat → Nat} {k : Nat} (h : mI RA RS RN) (hk : k < 3) : mI RA RS (va_up RN 28 k) := ⟨h.1, h.2.1, h.2.2.1, h.2.2.2.1, h.2.2.2.2.1, hk, h.2.2.2.2.2.2⟩
theorem kupd_pm {f : Nat → Int32} {i : Nat} (h : ∀ j, j < 8 → 0 ≤ (f j).toInt ∧ (f j).toInt ≤ 3) (hi : i < 8) (h3 : (f i).toNatClampNeg < 3) : ∀ j, j < 8 → 0 ≤ (upd f i (f i + 1) j).toInt ∧ (upd f i (f i + 1) j).toInt ≤ 3 := by
  intro j hj
  by_cases e : j = i
  · subst e
    have h0 := h j hj
    have h4 : (f j).toNatClampNeg = (f j).toInt.toNat := rfl
    have e1 : upd f j (f j + 1) j = f j + 1 := pk_us
    rw [e1, kNat h0.1, show (1 : Int32) = nI 1 from rfl, nI_add, nI_toInt (by omega)]
    omega
  · rw [pk_un e]; exact h j hj
theorem mI_pm_up {RA : Nat → Nat → Int32} {RS : Nat → Int32} {RN : Nat → Nat} {i : Nat} (h : mI RA RS RN) (hi : i < 8) (h3 : (RA 25 i).toNatClampNeg < 3) : mI (va_up RA 25 (upd (RA 25) i (RA 25 i + 1))) RS RN := ⟨h.1, h.2.1, kupd_pm h.2.2.1 hi h3, h.2.2.2⟩
theorem kbest_i {n : Nat} {x : Int32} (h : x.toInt ≤ ((nI (n - 1)).toInt64).toInt) (h1 : 1 ≤ n) (hn : n ≤ 3) : x.toNatClampNeg ≤ n - 1 := by
  rw [ki2l, nI_toInt (by omega)] at h
  have h3 : x.toNatClampNeg = x.toInt.toNat := rfl
  omega
/-- what is kept of the sky and of the roof told is a number -/
def mK (RA : Nat → Nat → Int32) (RN : Nat → Nat) : Prop := ∀ j, j < RN 34 → 0 ≤ (RA 33 (100 * j + 66)).toInt ∧ 0 ≤ (RA 33 (100 * j + 67)).toInt
