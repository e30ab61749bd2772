/-! divided by ten, again and again -/
theorem tl_div {a b : Int64} (h : 0 ≤ a.toInt) (hb : 0 < b.toInt) : (a / b).toInt = a.toInt / b.toInt := by
  have h2 := Int64.toInt_lt a
  have h3 := Int.ediv_nonneg h (Int.le_of_lt hb)
  have h4 := Int.ediv_le_self b.toInt h
  rw [Int64.toInt_div, Int.tdiv_eq_ediv_of_nonneg h]
  exact Int.bmod_eq_of_le (by omega) (by omega)
theorem L45_eq : ∀ (n i : Nat) (v : Int64), 0 ≤ v.toInt → (o_over_L45 n i v).toInt = v.toInt / (10 ^ n : Nat) := by
  intro n
  induction n with
  | zero => intro i v _; rw [o_over_L45.eq_1]; simp
  | succ n ih =>
    intro i v h
    have h10 : (10 : Int64).toInt = 10 := by decide
    have e := tl_div (a := v) (b := 10) h (by rw [h10]; decide)
    rw [h10] at e
    rw [o_over_L45.eq_2, ih (i + 1) _ (by rw [e]; omega), e, Int.ediv_ediv_of_nonneg (by decide), Nat.pow_succ, Nat.mul_comm]
    rfl
