/-- what holds of the reference's state always: numbers within their bounds -/
def mI (RA : Nat → Nat → Int32) (RS : Nat → Int32) (RN : Nat → Nat) : Prop := RN 4 ≤ 8 ∧ (∀ i, i < 8 → 0 ≤ (RA 12 i).toInt ∧ (RA 12 i).toInt ≤ 4) ∧ (∀ i, i < 8 → 0 ≤ (RA 25 i).toInt ∧ (RA 25 i).toInt ≤ 3) ∧ (∀ i, i < 8 → 0 ≤ (RA 8 i).toInt) ∧ RN 29 < 16 ∧ RN 28 < 3 ∧ RN 32 ≤ 12 ∧ (∀ k, k < 12 → 0 ≤ (RA 31 k).toInt ∧ (RA 31 k).toInt < 3) ∧ RN 34 ≤ 2 ∧ RN 1 ≤ 500 ∧ (∀ j, j < 32 → 0 ≤ (RA 11 j).toInt ∧ (RA 11 j).toInt ≤ 10) ∧ (∀ j, j < 32 → (RA 10 j).toInt < 1000000)
section MI
variable {RA : Nat → Nat → Int32} {RS : Nat → Int32} {RN : Nat → Nat}
theorem kcl_toNat (x : Int32) : x.toNatClampNeg = x.toInt.toNat := rfl
theorem mI_many (h : mI RA RS RN) : RN 4 ≤ 8 := h.1
theorem mI_bm (h : mI RA RS RN) (i : Nat) (hi : i < 8) : (RA 12 i).toNatClampNeg ≤ 4 := by
  have := h.2.1 i hi
  rw [kcl_toNat]; omega
theorem mI_pm (h : mI RA RS RN) (i : Nat) (hi : i < 8) : (RA 25 i).toNatClampNeg ≤ 3 := by
  have := h.2.2.1 i hi
  rw [kcl_toNat]; omega
theorem mI_pm0 (h : mI RA RS RN) (i : Nat) (hi : i < 8) : 0 ≤ (RA 25 i).toInt := (h.2.2.1 i hi).1
theorem mI_thr (h : mI RA RS RN) (i : Nat) (hi : i < 8) : 0 ≤ (RA 8 i).toInt := h.2.2.2.1 i hi
theorem mI_told (h : mI RA RS RN) : RN 29 < 16 := h.2.2.2.2.1
theorem mI_sky (h : mI RA RS RN) : RN 28 < 3 := h.2.2.2.2.2.1
theorem mI_rowMany (h : mI RA RS RN) : RN 32 ≤ 12 := h.2.2.2.2.2.2.1
theorem mI_row0 (h : mI RA RS RN) (k : Nat) (hk : k < 12) : 0 ≤ (RA 31 k).toInt := (h.2.2.2.2.2.2.2.1 k hk).1
theorem mI_row (h : mI RA RS RN) (k : Nat) (hk : k < 12) : (RA 31 k).toNatClampNeg < 3 := by
  have := h.2.2.2.2.2.2.2.1 k hk
  rw [kcl_toNat]; omega
theorem mI_kept (h : mI RA RS RN) : RN 34 ≤ 2 := h.2.2.2.2.2.2.2.2.1
theorem mI_len (h : mI RA RS RN) : RN 1 ≤ 500 := h.2.2.2.2.2.2.2.2.2.1
theorem mI_ten (h : mI RA RS RN) (j : Nat) (hj : j < 32) : 0 ≤ (RA 11 j).toInt ∧ (RA 11 j).toInt ≤ 10 := h.2.2.2.2.2.2.2.2.2.2.1 j hj
theorem mI_bears (h : mI RA RS RN) (j : Nat) (hj : j < 32) : (RA 10 j).toInt < 1000000 := h.2.2.2.2.2.2.2.2.2.2.2 j hj
end MI
theorem k_bool {v : Int32} (h : v = 0 ∨ v = 1) : narrow .boolean (.int v) = .int v := by rcases h with rfl | rfl <;> rfl
theorem kNat {x : Int32} (h : 0 ≤ x.toInt) : x = nI x.toNatClampNeg := by
  have h3 : x.toNatClampNeg = x.toInt.toNat := rfl
  apply Int32.toInt_inj.mp
  have h2 := Int32.toInt_lt x
  rw [nI_toInt (by omega)]
  omega
theorem kNat_lt {x : Int32} {n : Nat} (h : x.toInt < n) (hn : 0 < n) : x.toNatClampNeg < n := by
  have h3 : x.toNatClampNeg = x.toInt.toNat := rfl
  omega
theorem kcmp_lt (x y : Int64) : lg_cmp x y < 0 ↔ x.toInt < y.toInt := by rw [lg_cmp_lt, Int64.lt_iff_toInt_lt]
theorem kcmp_gt (x y : Int64) : 0 < lg_cmp x y ↔ y.toInt < x.toInt := by rw [lg_cmp_gt, Int64.lt_iff_toInt_lt]
theorem ki2l (x : Int32) : x.toInt64.toInt = x.toInt := by simp
theorem kNat_le {x : Int32} {n : Nat} (h : x.toInt ≤ n) : x.toNatClampNeg ≤ n := by
  have h3 : x.toNatClampNeg = x.toInt.toNat := rfl
  omega
theorem knI_nle {a b : Nat} (h : ¬ nI b ≤ nI a) (ha : a < 2 ^ 31) (hb : b < 2 ^ 31) : a < b := by
  rw [nI_leI hb ha] at h
  omega
theorem knI_ne {a b : Nat} (h : ¬ nI a = nI b) : a ≠ b := fun q => h (by rw [q])
theorem kI_rng {i : Nat} (h : i < 2 ^ 31) : (nI i).toInt = (i : Int) := nI_toInt h
theorem kI_le {x : Int32} (h : 0 ≤ x) : 0 ≤ x.toInt := by
  have := Int32.le_iff_toInt_le.mp h
  simpa using this
theorem kI_ltN {x : Int32} {n : Nat} (h : ¬ nI n ≤ x) (hn : n < 2 ^ 31) : x.toInt < n := by
  rw [Int32.le_iff_toInt_le, nI_toInt hn] at h
  omega
theorem kz0 {x : Int32} (h : x = 0) : 0 ≤ x.toInt := by rw [h]; decide
theorem kz1 {x : Int32} (h : x = 1) : 0 ≤ x.toInt := by rw [h]; decide
theorem kc0 {x : Int32} (h : x = 0) : x.toNatClampNeg ≤ 1 := by rw [h]; decide
theorem kc1 {x : Int32} (h : x = 1) : x.toNatClampNeg ≤ 1 := by rw [h]; decide
theorem kgem1 {x : Int32} {a : Int64} (h : a.toInt ≤ x.toInt) (hn : ¬ x = -1) (ha : a = -1 := by rfl) : 0 ≤ x.toInt := by
  subst ha
  have h1 : (-1 : Int64).toInt = -1 := rfl
  have h2 : x.toInt ≠ -1 := fun q => hn (Int32.toInt_inj.mp (q.trans (show (-1 : Int) = (-1 : Int32).toInt by decide)))
  omega
theorem k48 {x : Int32} (hn : ¬ x = -4) (h : x = -4 ∨ (0 ≤ x.toInt ∧ x.toInt < 8)) : 0 ≤ x.toInt ∧ x.toInt < 8 := by
  rcases h with h | h
  · exact absurd h hn
  · exact h
theorem k48r {i : Nat} (h : i < 8) : 0 ≤ (nI i).toInt ∧ (nI i).toInt < 8 := by
  rw [nI_toInt (by omega)]
  omega
theorem kNat_ge {x : Int32} {n : Nat} (h : (n : Int) ≤ x.toInt) : n ≤ x.toNatClampNeg := by
  have h3 : x.toNatClampNeg = x.toInt.toNat := rfl
  omega
theorem knI_le {a b : Nat} (h : nI a ≤ nI b) (ha : a < 2 ^ 31) (hb : b < 2 ^ 31) : a ≤ b := (nI_leI ha hb).mp h
theorem knI_nlt {a b : Nat} (h : ¬ nI a < nI b) (ha : a < 2 ^ 31) (hb : b < 2 ^ 31) : b ≤ a := by
  rw [nI_ltI ha hb] at h
  omega
theorem kadd_m1 (x : Int32) : x + (-1) = x - 1 := by rw [Int32.sub_eq_add_neg]
theorem kpm3 {x : Int32} (h : x.toNatClampNeg ≤ 3) (h0 : 0 ≤ x.toInt) (hn : ¬ x = 3) : x.toNatClampNeg < 3 := by
  have h3 : x.toNatClampNeg = x.toInt.toNat := rfl
  have h2 : x.toInt ≠ 3 := fun q => hn (Int32.toInt_inj.mp (q.trans (show (3 : Int) = (3 : Int32).toInt by decide)))
  omega
theorem ki2l_ne {x : Int32} (h : ¬ x = 0) : ¬ x.toInt64 = 0 := by
  intro q
  apply h
  apply Int32.toInt_inj.mp
  have h1 := congrArg Int64.toInt q
  rw [ki2l] at h1
  rw [h1]; rfl
theorem kcmp0 {x : Int64} (h0 : 0 ≤ x.toInt) (h1 : x.toInt ≤ 0) : lg_cmp x 0 = 0 := by
  have : x = 0 := Int64.toInt_inj.mp (by rw [show (0 : Int64).toInt = 0 from rfl]; omega)
  rw [this]; rfl
theorem kcmp_ne {x : Int64} (h : ¬ lg_cmp x 0 = 0) : ¬ x = 0 := fun q => h (by rw [q]; rfl)
theorem kl_mod {x y : Int64} (hx : 0 ≤ x.toInt) (hy : 0 < y.toInt) : (x - x / y * y).toInt = x.toInt % y.toInt := by
  have h1 := lg_ldiv_nonneg hx hy
  have hlt := Int64.toInt_lt x
  have h5 : x.toInt / y.toInt * y.toInt ≤ x.toInt := Int.ediv_mul_le _ (by omega)
  have h6 : 0 ≤ x.toInt / y.toInt := Int.ediv_nonneg hx (by omega)
  have h7 : 0 ≤ x.toInt / y.toInt * y.toInt := Int.mul_nonneg h6 (by omega)
  have h2 : (x / y * y).toInt = x.toInt / y.toInt * y.toInt := by
    rw [Int64.toInt_mul, h1]
    exact Int.bmod_eq_of_le (by omega) (by omega)
  rw [Int64.toInt_sub, h2]
  have h4 := Int.emod_add_ediv_mul x.toInt y.toInt
  have h8 := Int.emod_nonneg x.toInt (show y.toInt ≠ 0 by omega)
  rw [Int.bmod_eq_of_le (by omega) (by omega)]
  omega
theorem kpos {x : Int64} (h : 0 ≤ x.toInt) (hn : ¬ lg_cmp x 0 = 0) : 0 < x.toInt := by
  have h1 : x.toInt ≠ 0 := fun q => hn (kcmp0 h (by omega))
  omega
