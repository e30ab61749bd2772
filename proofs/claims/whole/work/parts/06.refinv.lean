/-- what holds of the reference's state always: numbers within their bounds -/
def mI (RA : Nat → Nat → Int32) (RS : Nat → Int32) (RN : Nat → Nat) : Prop := RN 4 ≤ 8 ∧ (∀ i, i < 8 → (RA 12 i).toNatClampNeg ≤ 4) ∧ (∀ i, i < 8 → (RA 25 i).toNatClampNeg ≤ 3) ∧ (∀ i, i < 8 → 0 ≤ (RA 8 i).toInt) ∧ RN 29 < 16 ∧ RN 28 < 3 ∧ RN 32 ≤ 12 ∧ (∀ k, k < 12 → 0 ≤ (RA 31 k).toInt ∧ (RA 31 k).toInt < 3) ∧ RN 34 ≤ 2 ∧ RN 1 ≤ 500
theorem k_bool {v : Int32} (h : v = 0 ∨ v = 1) : narrow .boolean (.int v) = .int v := by rcases h with rfl | rfl <;> rfl
theorem kNat {x : Int32} (h : 0 ≤ x.toInt) : x = nI x.toNatClampNeg := by
  have h3 : x.toNatClampNeg = x.toInt.toNat := rfl
  apply Int32.toInt_inj.mp
  have h2 := Int32.toInt_lt x
  rw [nI_toInt (by omega)]
  omega
theorem kNat_lt {x : Int32} {n : Nat} (h : x.toInt < n) (hn : 0 < n) : x.toNatClampNeg < n := by
  have h3 : x.toNatClampNeg = x.toInt.toNat := rfl
  omega
theorem kcmp_lt (x y : Int64) : lg_cmp x y < 0 ↔ x.toInt < y.toInt := by rw [lg_cmp_lt, Int64.lt_iff_toInt_lt]
theorem kcmp_gt (x y : Int64) : 0 < lg_cmp x y ↔ y.toInt < x.toInt := by rw [lg_cmp_gt, Int64.lt_iff_toInt_lt]
theorem ki2l (x : Int32) : x.toInt64.toInt = x.toInt := by simp
theorem kNat_le {x : Int32} {n : Nat} (h : x.toInt ≤ n) : x.toNatClampNeg ≤ n := by
  have h3 : x.toNatClampNeg = x.toInt.toNat := rfl
  omega
