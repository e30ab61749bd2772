theorem m_ch_ne {RA RA0 : Nat → Nat → Int32} {RS0 : Nat → Int32} {RN0 : Nat → Nat} (hC : mC RA0 RS0 RN0) (e10 : RA 10 = RA0 10) (e11 : RA 11 = RA0 11) (e12 : RA 12 = RA0 12) (e22 : RA 22 = RA0 22) {i : Nat} (hi : i < RN0 4) (hs : ¬ m_has (RS0 26) (nI i) = 0) : ¬ m_chances RA i = 0 := (mC_of (RS' := RS0) (RN' := RN0) hC e10 e11 e12 e22 rfl rfl) i hi hs
theorem m_has_1 : ∀ k, k < 4 → m_has (1 <<< ((nI k) &&& 31)) (nI k) = 1 := by decide
theorem m_below_L_ge {RA : Nat → Nat → Int32} (ht : ∀ j, j < 32 → 0 ≤ (RA 11 j).toInt ∧ (RA 11 j).toInt ≤ 10) {i : Nat} (hi : i < 8) (p : Int32) (k : Nat) (hs : ¬ m_has (RA 22 i) (nI k) = 0) (hb : ¬ p ≤ RA 10 (4 * i + k)) : ∀ (n j : Nat) (a : Int32), j + n ≤ 4 → j ≤ k → k < j + n → 0 ≤ a.toInt → a.toInt + 10 * n ≤ 1000 → a.toInt + (RA 11 (4 * i + k)).toInt ≤ (m_below_L5 RA i p n j a).toInt := by
  intro n
  induction n with
  | zero => intro j a _ h1 h2; omega
  | succ n ih =>
    intro j a hj hjk hk h1 h2
    have hz : (a + 0).toInt = a.toInt := by rw [kadd_small (by rw [k0I]; omega) (by rw [k0I]; omega), k0I]; omega
    have h3 := ht (4 * i + j) (by omega)
    have h4 : (a + RA 11 (4 * i + j)).toInt = a.toInt + (RA 11 (4 * i + j)).toInt := kadd_small (by omega) (by omega)
    by_cases e : j = k
    · subst e
      rw [m_below_L5.eq_2, if_neg hs, if_neg hb]
      have := m_below_L_rng ht hi p n (j + 1) (a + RA 11 (4 * i + j)) (by omega) (by omega) (by omega)
      omega
    · rw [m_below_L5.eq_2]
      split
      · have := ih (j + 1) (a + 0) (by omega) (by omega) (by omega) (by omega) (by omega); omega
      · split
        · have := ih (j + 1) (a + 0) (by omega) (by omega) (by omega) (by omega) (by omega); omega
        · have := ih (j + 1) (a + RA 11 (4 * i + j)) (by omega) (by omega) (by omega) (by omega) (by omega); omega
theorem kI_not_le0 {x : Int32} (h : ¬ x ≤ 0) : 0 < x.toInt := by
  rw [Int32.le_iff_toInt_le, k0I] at h
  omega
theorem kmil {x : Int32} (h : x.toInt < 1000000) : ¬ (1000000 : Int32) ≤ x := by
  rw [Int32.le_iff_toInt_le]
  have : (1000000 : Int32).toInt = 1000000 := rfl
  omega
theorem mC_look {RA RA' : Nat → Nat → Int32} {RS RS' : Nat → Int32} {RN RN' : Nat → Nat} {f : Nat → Int32} {i k : Nat} (hM : mI RA RS RN) (hC : mC RA RS RN) (hi : i < RN 4) (hf : ∀ j, j ≠ i → f j = RA 22 j) (hk : k < (RA 12 i).toNatClampNeg) (ht : ¬ RA 11 (4 * i + k) ≤ 0) (e10 : RA' 10 = RA 10) (e11 : RA' 11 = RA 11) (e12 : RA' 12 = RA 12) (e22 : RA' 22 = upd f i (1 <<< ((nI k) &&& 31))) (e26 : RS' 26 = RS 26) (e4 : RN' 4 = RN 4) : mC RA' RS' RN' := by
  have h4 := mI_many hM
  have hbm := mI_bm hM i (by omega)
  intro j hj hs
  rw [e4] at hj
  rw [e26] at hs
  by_cases e : j = i
  · subst e
    have h1 : RA' 22 j = 1 <<< ((nI k) &&& 31) := by rw [e22]; exact pk_us
    have ht' : ∀ q, q < 32 → 0 ≤ (RA' 11 q).toInt ∧ (RA' 11 q).toInt ≤ 10 := fun q hq => by rw [e11]; exact mI_ten hM q hq
    have h2 := m_below_L_ge (RA := RA') ht' (i := j) (by omega) 1000000 k (by rw [h1, m_has_1 k (by omega)]; decide) (by rw [e10]; exact kmil (mI_bears hM _ (by omega))) (RA' 12 j).toNatClampNeg 0 0 (by rw [e12]; omega) (by omega) (by rw [e12]; omega) (by decide) (by rw [k0I, e12]; omega)
    rw [k0I, e11] at h2
    have h3 := kI_not_le0 ht
    intro q
    have h5 := congrArg Int32.toInt q
    unfold m_chances m_below m_below_k5 at h5
    rw [k0I] at h5
    omega
  · have h0 := hC j hj hs
    intro q
    apply h0
    rw [← q]
    unfold m_chances m_below
    rw [e12]
    congr 1
    have : ∀ (n k : Nat) (a : Int32), m_below_L5 RA j 1000000 n k a = m_below_L5 RA' j 1000000 n k a := by
      intro n
      induction n with
      | zero => intro k a; rfl
      | succ n ih =>
        intro k a
        have e9 : RA' 22 j = RA 22 j := by rw [e22, pk_un e, hf j e]
        rw [m_below_L5.eq_2, m_below_L5.eq_2, e10, e11, e9]
        simp only [ih]
    exact this _ _ _
/-- what is left of a roof's chances from its k-th B on -/
def m_rest (RA : Nat → Nat → Int32) (i : Nat) : Nat → Nat → Int
  | 0, _ => 0
  | n + 1, k => (if m_has (RA 22 i) (nI k) = 0 then 0 else (RA 11 (4 * i + k)).toInt) + m_rest RA i n (k + 1)
theorem m_rest_rng {RA : Nat → Nat → Int32} (ht : ∀ j, j < 32 → 0 ≤ (RA 11 j).toInt ∧ (RA 11 j).toInt ≤ 10) {i : Nat} (hi : i < 8) : ∀ (n k : Nat), k + n ≤ 4 → 0 ≤ m_rest RA i n k ∧ m_rest RA i n k ≤ 10 * n := by
  intro n
  induction n with
  | zero => intro k _; exact ⟨Int.le_refl _, Int.le_refl _⟩
  | succ n ih =>
    intro k hk
    have h1 := ih (k + 1) (by omega)
    have h2 := ht (4 * i + k) (by omega)
    rw [m_rest.eq_2]
    split <;> omega
theorem m_rest_below {RA : Nat → Nat → Int32} (ht : ∀ j, j < 32 → 0 ≤ (RA 11 j).toInt ∧ (RA 11 j).toInt ≤ 10) {i : Nat} (hi : i < 8) (p : Int32) (hb : ∀ j, j < 32 → ¬ p ≤ RA 10 j) : ∀ (n k : Nat) (a : Int32), k + n ≤ 4 → 0 ≤ a.toInt → a.toInt + 10 * n ≤ 1000 → (m_below_L5 RA i p n k a).toInt = a.toInt + m_rest RA i n k := by
  intro n
  induction n with
  | zero => intro k a _ h1 h2; rw [m_below_L5.eq_1, m_rest.eq_1]; omega
  | succ n ih =>
    intro k a hk h1 h2
    have hz : (a + 0).toInt = a.toInt := by rw [kadd_small (by rw [k0I]; omega) (by rw [k0I]; omega), k0I]; omega
    have h3 := ht (4 * i + k) (by omega)
    have h4 : (a + RA 11 (4 * i + k)).toInt = a.toInt + (RA 11 (4 * i + k)).toInt := kadd_small (by omega) (by omega)
    rw [m_below_L5.eq_2, m_rest.eq_2]
    split
    · rw [ih (k + 1) (a + 0) (by omega) (by omega) (by omega), hz]; omega
    · rw [if_neg (hb _ (by omega)), ih (k + 1) (a + RA 11 (4 * i + k)) (by omega) (by omega) (by omega), h4]; omega
theorem m_rest_chances {RA : Nat → Nat → Int32} {RS : Nat → Int32} {RN : Nat → Nat} (hM : mI RA RS RN) {i : Nat} (hi : i < 8) : (m_chances RA i).toInt = m_rest RA i (RA 12 i).toNatClampNeg 0 := by
  have hbm := mI_bm hM i hi
  have := m_rest_below (fun j hj => mI_ten hM j hj) hi 1000000 (fun j hj => kmil (mI_bears hM j hj)) (RA 12 i).toNatClampNeg 0 0 (by omega) (by decide) (by rw [k0I]; omega)
  rw [k0I] at this
  unfold m_chances m_below m_below_k5
  omega
theorem k44 {x : Int32} (hn : ¬ x = -4) (h : x = -4 ∨ (0 ≤ x.toInt ∧ x.toInt < 4)) : 0 ≤ x.toInt ∧ x.toInt < 4 := by
  rcases h with h | h
  · exact absurd h hn
  · exact h
theorem kdr0 {RA : Nat → Nat → Int32} {i j : Nat} {x y : Int32} (h : x = -4 → 0 ≤ y.toInt ∧ y.toInt < m_rest RA i 0 j) : ¬ x = -4 := fun q => by
  have := h q
  rw [m_rest.eq_1] at this
  omega
theorem kn4 {k : Nat} (h : k < 4) : ¬ nI k = -4 := by
  rcases (show k = 0 ∨ k = 1 ∨ k = 2 ∨ k = 3 by omega) with rfl | rfl | rfl | rfl <;> decide
theorem m_rest_step {RA : Nat → Nat → Int32} {RS : Nat → Int32} {RN : Nat → Nat} (hM : mI RA RS RN) {i n k : Nat} {x y : Int32} (hi : i < 8) (hk : k + (n + 1) ≤ 4) (h : x = -4 → 0 ≤ y.toInt ∧ y.toInt < m_rest RA i (n + 1) k) (hx : x = -4) (o : Int32) (ho : (m_has (RA 22 i) (nI k) = 0 ∧ o = 0) ∨ (¬ m_has (RA 22 i) (nI k) = 0 ∧ o = RA 11 (4 * i + k))) (hle : o ≤ y) : 0 ≤ (y - o).toInt ∧ (y - o).toInt < m_rest RA i n (k + 1) := by
  have h1 := h hx
  have h2 := m_rest_rng (fun j hj => mI_ten hM j hj) hi (n + 1) k (by omega)
  have h4 := mI_ten hM (4 * i + k) (by omega)
  rw [Int32.le_iff_toInt_le] at hle
  rw [m_rest.eq_2] at h1 h2
  rcases ho with ⟨a, rfl⟩ | ⟨a, rfl⟩
  · rw [if_pos a] at h1
    rw [ksub_small (by rw [k0I]; omega) (by rw [k0I]; omega), k0I]
    omega
  · rw [if_neg a] at h1
    rw [ksub_small (by omega) (by omega)]
    omega
theorem m_draw_nn {z i k : Int32} (hz : 0 ≤ z.toInt ∧ z.toInt ≤ 9999) (hi : 0 ≤ i.toInt ∧ i.toInt ≤ 100000) (hk : 0 ≤ k.toInt ∧ k.toInt ≤ 100) : 0 ≤ (m_draw z i k).toInt := by
  unfold m_draw
  obtain ⟨x, hx⟩ : ∃ x, x = ((((7919 * z.toInt64) + (6151 * i.toInt64)) + (3571 * k.toInt64)) + 1) := ⟨_, rfl⟩
  rw [← hx]
  have a1 : (7919 * z.toInt64).toInt = 7919 * z.toInt := by
    rw [Int64.toInt_mul, ki2l]; exact Int.bmod_eq_of_le (by show _ ≤ 7919 * z.toInt; omega) (by show 7919 * z.toInt < _; omega)
  have a2 : (6151 * i.toInt64).toInt = 6151 * i.toInt := by
    rw [Int64.toInt_mul, ki2l]; exact Int.bmod_eq_of_le (by show _ ≤ 6151 * i.toInt; omega) (by show 6151 * i.toInt < _; omega)
  have a3 : (3571 * k.toInt64).toInt = 3571 * k.toInt := by
    rw [Int64.toInt_mul, ki2l]; exact Int.bmod_eq_of_le (by show _ ≤ 3571 * k.toInt; omega) (by show 3571 * k.toInt < _; omega)
  have a4 : (7919 * z.toInt64 + 6151 * i.toInt64).toInt = 7919 * z.toInt + 6151 * i.toInt := by
    rw [Int64.toInt_add, a1, a2]; exact Int.bmod_eq_of_le (by omega) (by omega)
  have a5 : (7919 * z.toInt64 + 6151 * i.toInt64 + 3571 * k.toInt64).toInt = 7919 * z.toInt + 6151 * i.toInt + 3571 * k.toInt := by
    rw [Int64.toInt_add, a4, a3]; exact Int.bmod_eq_of_le (by omega) (by omega)
  have a6 : x.toInt = 7919 * z.toInt + 6151 * i.toInt + 3571 * k.toInt + 1 := by
    rw [hx, Int64.toInt_add, a5]; exact Int.bmod_eq_of_le (by show _ ≤ _ + (1 : Int); omega) (by show _ + (1 : Int) < _; omega)
  have b1 : 0 ≤ x.toInt ∧ x.toInt ≤ 800000000 := by omega
  have b2 : x.toInt * x.toInt ≤ 800000000 * 800000000 := Int.mul_le_mul b1.2 b1.2 b1.1 (by omega)
  have b3 : 0 ≤ x.toInt * x.toInt := Int.mul_nonneg b1.1 b1.1
  have b4 : (x * x).toInt = x.toInt * x.toInt := by rw [Int64.toInt_mul]; exact Int.bmod_eq_of_le (by omega) (by omega)
  have c1 : (65521 : Int64).toInt = 65521 := rfl
  have c2 : (10000 : Int64).toInt = 10000 := rfl
  have d1 := kl_mod (x := x * x) (y := 65521) (by rw [b4]; exact b3) (by rw [c1]; omega)
  have d2 := Int.emod_nonneg (x * x).toInt (show (65521 : Int64).toInt ≠ 0 by rw [c1]; omega)
  have d3 := kl_mod (x := x * x - x * x / 65521 * 65521) (y := 10000) (by rw [d1]; exact d2) (by rw [c2]; omega)
  have d4 := Int.emod_nonneg (x * x - x * x / 65521 * 65521).toInt (show (10000 : Int64).toInt ≠ 0 by rw [c2]; omega)
  have d5 := Int.emod_lt_of_pos (x * x - x * x / 65521 * 65521).toInt (show 0 < (10000 : Int64).toInt by rw [c2]; omega)
  rw [c2] at d3 d4 d5
  rw [Int64.toInt_toInt32, d3, Int.bmod_eq_of_le (by omega) (by omega)]
  exact d4
theorem m_draw_rest {RA : Nat → Nat → Int32} {RS : Nat → Int32} {RN : Nat → Nat} (hM : mI RA RS RN) {i : Nat} (hi : i < 8) (hn : ¬ m_chances RA i = 0) {d : Int32} (hd : 0 ≤ d.toInt) : 0 ≤ (d - d / (m_chances RA i) * (m_chances RA i)).toInt ∧ (d - d / (m_chances RA i) * (m_chances RA i)).toInt < m_rest RA i (RA 12 i).toNatClampNeg 0 := by
  have h1 := m_below_rng hM hi 1000000
  have h2 : (m_chances RA i).toInt ≠ 0 := fun q => hn (Int32.toInt_inj.mp (q.trans k0I.symm))
  have h3 : 0 < (m_chances RA i).toInt := by
    have h5 : 0 ≤ (m_chances RA i).toInt := h1.1
    omega
  rw [← m_rest_chances hM hi, ki_mod hd h3]
  exact ⟨Int.emod_nonneg _ (by omega), Int.emod_lt_of_pos _ h3⟩
theorem k44r {i : Nat} (h : i < 4) : 0 ≤ (nI i).toInt ∧ (nI i).toInt < 4 := by
  rw [nI_toInt (by omega)]
  omega
theorem m_draw_rest2 {RA RA' : Nat → Nat → Int32} {RS : Nat → Int32} {RN : Nat → Nat} (hM : mI RA RS RN) (e10 : RA' 10 = RA 10) (e11 : RA' 11 = RA 11) (e12 : RA' 12 = RA 12) (e22 : RA' 22 = RA 22) {i : Nat} (hi : i < 8) (hn : ¬ m_chances RA i = 0) {d : Int32} (hd : 0 ≤ d.toInt) : 0 ≤ (d - d / (m_chances RA' i) * (m_chances RA' i)).toInt ∧ (d - d / (m_chances RA' i) * (m_chances RA' i)).toInt < m_rest RA i (RA 12 i).toNatClampNeg 0 := by
  have h : m_chances RA' i = m_chances RA i := m_below_congr e10 e11 e12 e22 i 1000000
  rw [h]
  exact m_draw_rest hM hi hn hd
