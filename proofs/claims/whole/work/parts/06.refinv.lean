/-- what holds of the reference's state always: numbers within their bounds -/
def mI (RA : Nat → Nat → Int32) (RS : Nat → Int32) (RN : Nat → Nat) : Prop := RN 4 ≤ 8 ∧ (∀ i, i < 8 → (RA 12 i).toNatClampNeg ≤ 4) ∧ (∀ i, i < 8 → (RA 25 i).toNatClampNeg ≤ 3) ∧ (∀ i, i < 8 → 0 ≤ (RA 8 i).toInt) ∧ RN 29 < 16 ∧ RN 28 < 3 ∧ RN 32 ≤ 12 ∧ (∀ k, k < 12 → 0 ≤ (RA 31 k).toInt ∧ (RA 31 k).toInt < 3) ∧ RN 34 ≤ 2 ∧ RN 1 ≤ 500
theorem k_bool {v : Int32} (h : v = 0 ∨ v = 1) : narrow .boolean (.int v) = .int v := by rcases h with rfl | rfl <;> rfl
