/-! powers -/
theorem pw_L (a : Nat) : ∀ (n i x : Nat), m_power_L4 a n i x = x * a ^ n := by
  intro n
  induction n with
  | zero => intro i x; rw [m_power_L4.eq_1, Nat.pow_zero, Nat.mul_one]
  | succ n ih => intro i x; rw [m_power_L4.eq_2, ih, Nat.pow_succ, Nat.mul_assoc, Nat.mul_comm a]
theorem pow_eq (a n : Nat) : m_power a n = a ^ n := by
  unfold m_power m_power_k4
  rw [pw_L, Nat.one_mul]
