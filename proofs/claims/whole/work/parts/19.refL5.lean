theorem kadd_small {a b : Int32} (h1 : -1000000000 ≤ a.toInt + b.toInt) (h2 : a.toInt + b.toInt ≤ 1000000000) : (a + b).toInt = a.toInt + b.toInt := by
  rw [Int32.toInt_add]
  exact Int.bmod_eq_of_le (by omega) (by omega)
theorem ksub_small {a b : Int32} (h1 : -1000000000 ≤ a.toInt - b.toInt) (h2 : a.toInt - b.toInt ≤ 1000000000) : (a - b).toInt = a.toInt - b.toInt := by
  rw [Int32.toInt_sub]
  exact Int.bmod_eq_of_le (by omega) (by omega)
theorem ki_mod {x y : Int32} (hx : 0 ≤ x.toInt) (hy : 0 < y.toInt) : (x - x / y * y).toInt = x.toInt % y.toInt := by
  have h1 := lg_idiv_nonneg hx hy
  have hlt := Int32.toInt_lt x
  have h5 : x.toInt / y.toInt * y.toInt ≤ x.toInt := Int.ediv_mul_le _ (by omega)
  have h6 : 0 ≤ x.toInt / y.toInt := Int.ediv_nonneg hx (by omega)
  have h7 : 0 ≤ x.toInt / y.toInt * y.toInt := Int.mul_nonneg h6 (by omega)
  have h2 : (x / y * y).toInt = x.toInt / y.toInt * y.toInt := by
    rw [Int32.toInt_mul, h1]
    exact Int.bmod_eq_of_le (by omega) (by omega)
  rw [Int32.toInt_sub, h2]
  have h4 := Int.emod_add_ediv_mul x.toInt y.toInt
  have h8 := Int.emod_nonneg x.toInt (show y.toInt ≠ 0 by omega)
  rw [Int.bmod_eq_of_le (by omega) (by omega)]
  omega
theorem k0I : (0 : Int32).toInt = 0 := rfl
theorem m_below_L_rng {RA : Nat → Nat → Int32} (ht : ∀ j, j < 32 → 0 ≤ (RA 11 j).toInt ∧ (RA 11 j).toInt ≤ 10) {i : Nat} (hi : i < 8) (p : Int32) : ∀ (n k : Nat) (a : Int32), k + n ≤ 4 → 0 ≤ a.toInt → a.toInt + 10 * n ≤ 1000 → a.toInt ≤ (m_below_L5 RA i p n k a).toInt ∧ (m_below_L5 RA i p n k a).toInt ≤ a.toInt + 10 * n := by
  intro n
  induction n with
  | zero => intro k a _ h1 h2; rw [m_below_L5.eq_1]; omega
  | succ n ih =>
    intro k a hk h1 h2
    have hz : (a + 0).toInt = a.toInt := by rw [kadd_small (by rw [k0I]; omega) (by rw [k0I]; omega), k0I]; omega
    have h3 := ht (4 * i + k) (by omega)
    have h4 : (a + RA 11 (4 * i + k)).toInt = a.toInt + (RA 11 (4 * i + k)).toInt := kadd_small (by omega) (by omega)
    rw [m_below_L5.eq_2]
    split
    · have := ih (k + 1) (a + 0) (by omega) (by omega) (by omega)
      omega
    · split
      · have := ih (k + 1) (a + 0) (by omega) (by omega) (by omega)
        omega
      · have := ih (k + 1) (a + RA 11 (4 * i + k)) (by omega) (by omega) (by omega)
        omega
theorem m_below_rng {RA : Nat → Nat → Int32} {RS : Nat → Int32} {RN : Nat → Nat} (h : mI RA RS RN) {i : Nat} (hi : i < 8) (p : Int32) : 0 ≤ (m_below RA i p).toInt ∧ (m_below RA i p).toInt ≤ 40 := by
  have hb := mI_bm h i hi
  have := m_below_L_rng (fun j hj => mI_ten h j hj) hi p (RA 12 i).toNatClampNeg 0 0 (by omega) (by decide) (by rw [k0I]; omega)
  rw [k0I] at this
  unfold m_below m_below_k5
  omega
theorem mI_ten_of {RA RA' : Nat → Nat → Int32} {RS RS' : Nat → Int32} {RN RN' : Nat → Nat} (h : mI RA RS RN) (e : mI RA RS RN → mI RA' RS' RN') : mI RA' RS' RN' := e h
theorem m_below_all {RA RA0 : Nat → Nat → Int32} {RS : Nat → Int32} {RN : Nat → Nat} (h : mI RA0 RS RN) (e11 : RA 11 = RA0 11) (e12 : RA 12 = RA0 12) {i : Nat} (hi : i < 8) (p : Int32) : 0 ≤ (m_below RA i p).toInt ∧ (m_below RA i p).toInt ≤ 40 := by
  have hb := mI_bm h i hi
  have := m_below_L_rng (RA := RA) (fun j hj => by rw [e11]; exact mI_ten h j hj) hi p (RA 12 i).toNatClampNeg 0 0 (by rw [e12]; omega) (by decide) (by rw [k0I, e12]; omega)
  rw [k0I] at this
  unfold m_below m_below_k5
  rw [e12] at this ⊢
  omega
theorem m_below_nn {RA RA0 : Nat → Nat → Int32} {RS : Nat → Int32} {RN : Nat → Nat} (h : mI RA0 RS RN) (e11 : RA 11 = RA0 11) (e12 : RA 12 = RA0 12) {i : Nat} (hi : i < 8) (p : Int32) : 0 ≤ (m_below RA i p).toInt := (m_below_all h e11 e12 hi p).1
theorem m_chances_nn {RA RA0 : Nat → Nat → Int32} {RS : Nat → Int32} {RN : Nat → Nat} (h : mI RA0 RS RN) (e11 : RA 11 = RA0 11) (e12 : RA 12 = RA0 12) {i : Nat} (hi : i < 8) : 0 ≤ (m_chances RA i).toInt := (m_below_all h e11 e12 hi _).1
