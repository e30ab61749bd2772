/-! one item taken, on both sides -/
section STAKE
variable {ML : Nat → Nat → Int32} {pl : Nat → Nat → Int32} {ps : Nat → Int32} {A : Nat → Nat → Int32} {S : Nat → Int32} {N : Nat → Nat}
def sQr (P : Int32 × (Nat → Int32) × (Nat → Int32) × (Nat → Int32) × (Nat → Int32) × (Nat → Int32) × (Nat → Int32) × (Nat → Int32) × (Nat → Int32) × (Nat → Int32) × (Nat → Int32) × (Nat → Int32) × (Nat → Int32) × Int32 × Int32 × Int32 × Int32 × Int32 × Int32 × Int32 × Int32) (r : (Nat → Int32) × (Nat → Int32) × (Nat → Int32) × (Nat → Int32) × (Nat → Int32) × (Nat → Int32) × (Nat → Int32) × (Nat → Int32) × (Nat → Int32) × (Nat → Int32) × (Nat → Int32) × Nat × Nat × Int32 × Int32 × Int32 × Int32 × Int32 × Int32) : Prop :=
  ((q1 (r.2.2.2.2.2.2.2.2.2.2.2.1) P.2.2.2.2.2.2.2.2.2.2.2.2.2.1 P.2.1 P.2.2.1 P.2.2.2.1 P.2.2.2.2.1 P.2.2.2.2.2.1 r.1 r.2.1 r.2.2.1 r.2.2.2.1 r.2.2.2.2.2.2.2.2.2.2.1 ∧ q2 P.2.2.2.2.2.2.1 r.2.2.2.2.1 ∧ q3 P.2.2.2.2.2.2.2.1 P.2.2.2.2.2.2.2.2.1 P.2.2.2.2.2.2.2.2.2.1 r.2.2.2.2.2.2.2.1 r.2.2.2.2.2.1 r.2.2.2.2.2.2.1) ∧ (q4 P.2.2.2.2.2.2.2.2.2.2.1 P.2.2.2.2.2.2.2.2.2.2.2.1 r.2.2.2.2.2.2.2.2.1 ∧ q5 P.2.2.2.2.2.2.2.2.2.2.2.2.1 r.2.2.2.2.2.2.2.2.2.1) ∧ q6 P.2.2.2.2.2.2.2.2.2.2.2.2.2.2.2.1 P.2.2.2.2.2.2.2.2.2.2.2.2.2.2.2.2.1 P.2.2.2.2.2.2.2.2.2.2.2.2.2.2.2.2.2.1 P.2.2.2.2.2.2.2.2.2.2.2.2.2.2.2.2.2.2.1 P.2.2.2.2.2.2.2.2.2.2.2.2.2.2.2.2.2.2.2.1 P.2.2.2.2.2.2.2.2.2.2.2.2.2.2.2.2.2.2.2.2 r.2.2.2.2.2.2.2.2.2.2.2.2.2.1 r.2.2.2.2.2.2.2.2.2.2.2.2.2.2.1 r.2.2.2.2.2.2.2.2.2.2.2.2.2.2.2.1 r.2.2.2.2.2.2.2.2.2.2.2.2.2.2.2.2.1 r.2.2.2.2.2.2.2.2.2.2.2.2.2.2.2.2.2.1 r.2.2.2.2.2.2.2.2.2.2.2.2.2.2.2.2.2.2 ∧ q7 P.2.2.2.2.2.2.2.2.2.2.2.2.2.2.1 (r.2.2.2.2.2.2.2.2.2.2.2.2.1))
theorem bdd.to {x : Int32} {a b c d : Int} (h : bdd x a b) (h1 : c ≤ a) (h2 : b ≤ d) : bdd x c d := ⟨Int.le_trans h1 h.1, Int.le_trans h.2 h2⟩
theorem take_0 (hQ : sQ pl ps A S N) (hk : N 3 ≤ 170) (hit : itOk (A 2) (7 * N 3)) (hR : N 4 = tR (A 2) (N 3)) (hB : ∀ a, a < 8 → (A 12 a).toNatClampNeg = tB (A 2) (nI a) (N 3)) (gq : ∀ q, q < (gNum 0).toNatClampNeg → rg 6 (ML 1) (nI q) = A 2 (7 * N 3 + 1 + q)) (c : A 2 (7 * N 3) = 114) {P : Int32 × (Nat → Int32) × (Nat → Int32) × (Nat → Int32) × (Nat → Int32) × (Nat → Int32) × (Nat → Int32) × (Nat → Int32) × (Nat → Int32) × (Nat → Int32) × (Nat → Int32) × (Nat → Int32) × (Nat → Int32) × Int32 × Int32 × Int32 × Int32 × Int32 × Int32 × Int32 × Int32} (hP : P = p_take pl ps ML (nI 0)) {r : (Nat → Int32) × (Nat → Int32) × (Nat → Int32) × (Nat → Int32) × (Nat → Int32) × (Nat → Int32) × (Nat → Int32) × (Nat → Int32) × (Nat → Int32) × (Nat → Int32) × (Nat → Int32) × Nat × Nat × Int32 × Int32 × Int32 × Int32 × Int32 × Int32} (hr : r = m_layItem A S N (7 * N 3)) :
    (P.1 = 0 ∧ m_fits A N = 0) ∨ (P.1 = 1 ∧ m_fits A N = 1 ∧ sQr P r) := by
  obtain ⟨⟨Q1, Q2, Q3⟩, ⟨Q4, Q5⟩, Q6, Q7⟩ := hQ
  have b1 := itOk_at hit c 1 0 200
  have b2 := itOk_at hit c 2 0 200
  have b3 := itOk_at hit c 3 0 20
  have b4 := itOk_at hit c 4 1 999
  have b5 := itOk_at hit c 5 0 999
  have b6 := itOk_at hit c 6 0 8
  have g0 : rg 6 (ML 1) 0 = A 2 (7 * N 3 + 1) := gq 0 (by decide)
  have g1 : rg 6 (ML 1) 1 = A 2 (7 * N 3 + 2) := gq 1 (by decide)
  have g2 : rg 6 (ML 1) 2 = A 2 (7 * N 3 + 3) := gq 2 (by decide)
  have g3 : rg 6 (ML 1) 3 = A 2 (7 * N 3 + 4) := gq 3 (by decide)
  have g4 : rg 6 (ML 1) 4 = A 2 (7 * N 3 + 5) := gq 4 (by decide)
  have g5 : rg 6 (ML 1) 5 = A 2 (7 * N 3 + 6) := gq 5 (by decide)
  unfold m_layItem at hr
  rw [if_neg (show ¬ A 2 (7 * N 3) = 98 by rw [c]; decide), if_neg (show ¬ A 2 (7 * N 3) = 99 by rw [c]; decide), if_neg (show ¬ A 2 (7 * N 3) = 103 by rw [c]; decide), if_neg (show ¬ A 2 (7 * N 3) = 104 by rw [c]; decide), if_neg (show ¬ A 2 (7 * N 3) = 107 by rw [c]; decide), if_neg (show ¬ A 2 (7 * N 3) = 111 by rw [c]; decide), if_neg (show ¬ A 2 (7 * N 3) = 112 by rw [c]; decide), if_pos c] at hr
  unfold m_fits
  rw [if_neg (show ¬ A 2 (7 * N 3) = 98 by rw [c]; decide), if_neg (show ¬ A 2 (7 * N 3) = 112 by rw [c]; decide), if_neg (show ¬ A 2 (7 * N 3) = 99 by rw [c]; decide), if_pos c]
  unfold p_take at hP
  rw [if_pos (show nI 0 = 0 from rfl)] at hP
  rw [g0, g1, g2, g3, g4, g5] at hP
  unfold p_addRoof at hP
  rw [m_told_R, ← hR]
  have p0 := Q1.1.1
  have p8 := Q1.1.2
  by_cases z : N 4 = 8
  · rw [if_neg (show ¬ ps 0 < 8 by rw [p0, z]; decide)] at hP
    rw [if_pos (show nI (N 4) = 8 by rw [z]; rfl)]
    exact Or.inl ⟨by rw [hP], rfl⟩
  · rw [if_pos (show ps 0 < 8 by rw [p0]; exact nI_lt (b := 8) (by omega) (by omega))] at hP
    rw [if_neg (show ¬ nI (N 4) = 8 from fun q => z ((nI_eq (a := N 4) (b := 8) (by omega) (by omega)).mp q))]
    rw [hP, hr]
    exact Or.inr ⟨rfl, rfl, ⟨Q1.add (by omega) b1 b2 b3 (bdd.to b4 (by omega) (by omega)) b5 b6, Q2, Q3⟩, ⟨Q4, Q5⟩, Q6, Q7⟩
theorem take_1 (hQ : sQ pl ps A S N) (hk : N 3 ≤ 170) (hit : itOk (A 2) (7 * N 3)) (hR : N 4 = tR (A 2) (N 3)) (hB : ∀ a, a < 8 → (A 12 a).toNatClampNeg = tB (A 2) (nI a) (N 3)) (gq : ∀ q, q < (gNum 1).toNatClampNeg → rg 6 (ML 1) (nI q) = A 2 (7 * N 3 + 1 + q)) (c : A 2 (7 * N 3) = 98) {P : Int32 × (Nat → Int32) × (Nat → Int32) × (Nat → Int32) × (Nat → Int32) × (Nat → Int32) × (Nat → Int32) × (Nat → Int32) × (Nat → Int32) × (Nat → Int32) × (Nat → Int32) × (Nat → Int32) × (Nat → Int32) × Int32 × Int32 × Int32 × Int32 × Int32 × Int32 × Int32 × Int32} (hP : P = p_take pl ps ML (nI 1)) {r : (Nat → Int32) × (Nat → Int32) × (Nat → Int32) × (Nat → Int32) × (Nat → Int32) × (Nat → Int32) × (Nat → Int32) × (Nat → Int32) × (Nat → Int32) × (Nat → Int32) × (Nat → Int32) × Nat × Nat × Int32 × Int32 × Int32 × Int32 × Int32 × Int32} (hr : r = m_layItem A S N (7 * N 3)) :
    (P.1 = 0 ∧ m_fits A N = 0) ∨ (P.1 = 1 ∧ m_fits A N = 1 ∧ sQr P r) := by
  obtain ⟨⟨Q1, Q2, Q3⟩, ⟨Q4, Q5⟩, Q6, Q7⟩ := hQ
  have b1 := itOk_at hit c 1 0 7
  have b2 := itOk_at hit c 2 1 999
  have b3 := itOk_at hit c 3 0 10
  have g0 : rg 6 (ML 1) 0 = A 2 (7 * N 3 + 1) := gq 0 (by decide)
  have g1 : rg 6 (ML 1) 1 = A 2 (7 * N 3 + 2) := gq 1 (by decide)
  have g2 : rg 6 (ML 1) 2 = A 2 (7 * N 3 + 3) := gq 2 (by decide)
  unfold m_layItem at hr
  rw [if_pos c] at hr
  unfold m_fits
  rw [if_pos c]
  unfold p_take at hP
  rw [if_neg (show ¬ nI 1 = 0 by decide), if_pos (show nI 1 = 1 from rfl)] at hP
  rw [g0, g1, g2] at hP
  obtain ⟨i, hi, ei⟩ : ∃ i, i < 8 ∧ A 2 (7 * N 3 + 1) = nI i := ⟨(A 2 (7 * N 3 + 1)).toNatClampNeg, kNat_lt (by omega) (by omega), kNat b1.1⟩
  unfold p_addBearing at hP
  have hb0 : 0 ≤ (A 2 (7 * N 3 + 1)).toInt := b1.1
  rw [m_told_R, ← hR, m_told_B _ _ hb0, ei, ← hB i hi]
  rw [ei] at hP hr
  rw [nI_clamp (by omega)] at hr
  have p0 := Q1.1.1
  have p8 := Q1.1.2
  have q7 := Q3 i hi
  obtain ⟨m, hm4, em⟩ : ∃ m, m < 5 ∧ A 12 i = nI m := ⟨(A 12 i).toNatClampNeg, kNat_lt (by have := q7.1.2.2; omega) (by omega), kNat q7.1.2.1⟩
  have e7 : rg 8 (pl 7) (nI i) = nI m := by rw [rg_in hi (by omega), q7.1.1, em]
  rw [em, nI_clamp (by omega)]
  by_cases z : N 4 ≤ i
  · rw [if_pos (show ps 0 ≤ nI i by rw [p0]; exact nI_le z (by omega))] at hP
    rw [if_pos (nI_le z (by omega))]
    exact Or.inl ⟨by rw [hP], rfl⟩
  · rw [if_neg (show ¬ ps 0 ≤ nI i by rw [p0]; exact nI_ge (by omega) (by omega))] at hP
    rw [if_neg (show ¬ nI (N 4) ≤ nI i from nI_ge (by omega) (by omega))]
    by_cases z2 : m = 4
    · rw [if_neg (show ¬ rg 8 (pl 7) (nI i) < 4 by rw [e7, z2]; decide)] at hP
      rw [if_pos (show nI m = 4 by rw [z2]; rfl)]
      exact Or.inl ⟨by rw [hP], rfl⟩
    · rw [if_pos (show rg 8 (pl 7) (nI i) < 4 by rw [e7]; exact nI_lt (b := 4) (by omega) (by omega))] at hP
      rw [if_neg (show ¬ nI m = 4 from fun q => z2 ((nI_eq (a := m) (b := 4) (by omega) (by omega)).mp q))]
      rw [hP, hr]
      exact Or.inr ⟨rfl, rfl, ⟨Q1, Q2, Q3.add hi (by omega) em b2⟩, ⟨Q4, Q5⟩, Q6, Q7⟩
theorem take_2 (hQ : sQ pl ps A S N) (hk : N 3 ≤ 170) (hit : itOk (A 2) (7 * N 3)) (hR : N 4 = tR (A 2) (N 3)) (hB : ∀ a, a < 8 → (A 12 a).toNatClampNeg = tB (A 2) (nI a) (N 3)) (gq : ∀ q, q < (gNum 2).toNatClampNeg → rg 6 (ML 1) (nI q) = A 2 (7 * N 3 + 1 + q)) (c : A 2 (7 * N 3) = 112) {P : Int32 × (Nat → Int32) × (Nat → Int32) × (Nat → Int32) × (Nat → Int32) × (Nat → Int32) × (Nat → Int32) × (Nat → Int32) × (Nat → Int32) × (Nat → Int32) × (Nat → Int32) × (Nat → Int32) × (Nat → Int32) × Int32 × Int32 × Int32 × Int32 × Int32 × Int32 × Int32 × Int32} (hP : P = p_take pl ps ML (nI 2)) {r : (Nat → Int32) × (Nat → Int32) × (Nat → Int32) × (Nat → Int32) × (Nat → Int32) × (Nat → Int32) × (Nat → Int32) × (Nat → Int32) × (Nat → Int32) × (Nat → Int32) × (Nat → Int32) × Nat × Nat × Int32 × Int32 × Int32 × Int32 × Int32 × Int32} (hr : r = m_layItem A S N (7 * N 3)) :
    (P.1 = 0 ∧ m_fits A N = 0) ∨ (P.1 = 1 ∧ m_fits A N = 1 ∧ sQr P r) := by
  obtain ⟨⟨Q1, Q2, Q3⟩, ⟨Q4, Q5⟩, Q6, Q7⟩ := hQ
  have b1 := itOk_at hit c 1 0 7
  have b2 := itOk_at hit c 2 0 99
  have g0 : rg 6 (ML 1) 0 = A 2 (7 * N 3 + 1) := gq 0 (by decide)
  have g1 : rg 6 (ML 1) 1 = A 2 (7 * N 3 + 2) := gq 1 (by decide)
  unfold m_layItem at hr
  rw [if_neg (show ¬ A 2 (7 * N 3) = 98 by rw [c]; decide), if_neg (show ¬ A 2 (7 * N 3) = 99 by rw [c]; decide), if_neg (show ¬ A 2 (7 * N 3) = 103 by rw [c]; decide), if_neg (show ¬ A 2 (7 * N 3) = 104 by rw [c]; decide), if_neg (show ¬ A 2 (7 * N 3) = 107 by rw [c]; decide), if_neg (show ¬ A 2 (7 * N 3) = 111 by rw [c]; decide), if_pos c] at hr
  unfold m_fits
  rw [if_neg (show ¬ A 2 (7 * N 3) = 98 by rw [c]; decide), if_pos c]
  unfold p_take at hP
  rw [if_neg (show ¬ nI 2 = 0 by decide), if_neg (show ¬ nI 2 = 1 by decide), if_pos (show nI 2 = 2 from rfl)] at hP
  rw [g0, g1] at hP
  obtain ⟨i, hi, ei⟩ : ∃ i, i < 8 ∧ A 2 (7 * N 3 + 1) = nI i := ⟨(A 2 (7 * N 3 + 1)).toNatClampNeg, kNat_lt (by omega) (by omega), kNat b1.1⟩
  rw [m_told_R, ← hR, ei]
  rw [ei] at hP hr
  rw [nI_clamp (by omega)] at hr
  have p0 := Q1.1.1
  have p8 := Q1.1.2
  by_cases z : N 4 ≤ i
  · rw [if_pos (show ps 0 ≤ nI i by rw [p0]; exact nI_le z (by omega))] at hP
    rw [if_pos (nI_le z (by omega))]
    exact Or.inl ⟨by rw [hP], rfl⟩
  · rw [if_neg (show ¬ ps 0 ≤ nI i by rw [p0]; exact nI_ge (by omega) (by omega))] at hP
    rw [if_neg (show ¬ nI (N 4) ≤ nI i from nI_ge (by omega) (by omega))]
    rw [hP, hr]
    exact Or.inr ⟨rfl, rfl, ⟨Q1, Q2.put hi b2, Q3⟩, ⟨Q4, Q5⟩, Q6, Q7⟩
theorem take_3 (hQ : sQ pl ps A S N) (hk : N 3 ≤ 170) (hit : itOk (A 2) (7 * N 3)) (hR : N 4 = tR (A 2) (N 3)) (hB : ∀ a, a < 8 → (A 12 a).toNatClampNeg = tB (A 2) (nI a) (N 3)) (gq : ∀ q, q < (gNum 3).toNatClampNeg → rg 6 (ML 1) (nI q) = A 2 (7 * N 3 + 1 + q)) (c : A 2 (7 * N 3) = 107) {P : Int32 × (Nat → Int32) × (Nat → Int32) × (Nat → Int32) × (Nat → Int32) × (Nat → Int32) × (Nat → Int32) × (Nat → Int32) × (Nat → Int32) × (Nat → Int32) × (Nat → Int32) × (Nat → Int32) × (Nat → Int32) × Int32 × Int32 × Int32 × Int32 × Int32 × Int32 × Int32 × Int32} (hP : P = p_take pl ps ML (nI 3)) {r : (Nat → Int32) × (Nat → Int32) × (Nat → Int32) × (Nat → Int32) × (Nat → Int32) × (Nat → Int32) × (Nat → Int32) × (Nat → Int32) × (Nat → Int32) × (Nat → Int32) × (Nat → Int32) × Nat × Nat × Int32 × Int32 × Int32 × Int32 × Int32 × Int32} (hr : r = m_layItem A S N (7 * N 3)) :
    (P.1 = 0 ∧ m_fits A N = 0) ∨ (P.1 = 1 ∧ m_fits A N = 1 ∧ sQr P r) := by
  obtain ⟨⟨Q1, Q2, Q3⟩, ⟨Q4, Q5⟩, Q6, Q7⟩ := hQ
  have b1 := itOk_at hit c 1 0 2
  have b2 := itOk_at hit c 2 0 60
  have b3 := itOk_at hit c 3 0 60
  have b4 := itOk_at hit c 4 0 9
  have g0 : rg 6 (ML 1) 0 = A 2 (7 * N 3 + 1) := gq 0 (by decide)
  have g1 : rg 6 (ML 1) 1 = A 2 (7 * N 3 + 2) := gq 1 (by decide)
  have g2 : rg 6 (ML 1) 2 = A 2 (7 * N 3 + 3) := gq 2 (by decide)
  have g3 : rg 6 (ML 1) 3 = A 2 (7 * N 3 + 4) := gq 3 (by decide)
  unfold m_layItem at hr
  rw [if_neg (show ¬ A 2 (7 * N 3) = 98 by rw [c]; decide), if_neg (show ¬ A 2 (7 * N 3) = 99 by rw [c]; decide), if_neg (show ¬ A 2 (7 * N 3) = 103 by rw [c]; decide), if_neg (show ¬ A 2 (7 * N 3) = 104 by rw [c]; decide), if_pos c] at hr
  unfold m_fits
  rw [if_neg (show ¬ A 2 (7 * N 3) = 98 by rw [c]; decide), if_neg (show ¬ A 2 (7 * N 3) = 112 by rw [c]; decide), if_neg (show ¬ A 2 (7 * N 3) = 99 by rw [c]; decide), if_neg (show ¬ A 2 (7 * N 3) = 114 by rw [c]; decide)]
  unfold p_take at hP
  rw [if_neg (show ¬ nI 3 = 0 by decide), if_neg (show ¬ nI 3 = 1 by decide), if_neg (show ¬ nI 3 = 2 by decide), if_neg (show ¬ nI 3 = 4 by decide)] at hP
  unfold p_takeSetting at hP
  rw [if_pos (show nI 3 = 3 from rfl), g0, g1, g2, g3] at hP
  obtain ⟨i, hi, ei⟩ : ∃ i, i < 3 ∧ A 2 (7 * N 3 + 1) = nI i := ⟨(A 2 (7 * N 3 + 1)).toNatClampNeg, kNat_lt (by omega) (by omega), kNat b1.1⟩
  rw [ei] at hP hr
  rw [nI_clamp (by omega)] at hr
  rw [hP, hr]
  exact Or.inr ⟨rfl, rfl, ⟨Q1, Q2, Q3⟩, ⟨Q4.put hi b2 b3 (bdd.to b4 (by omega) (by omega)), Q5⟩, Q6, Q7⟩
theorem take_4 (hQ : sQ pl ps A S N) (hk : N 3 ≤ 170) (hit : itOk (A 2) (7 * N 3)) (hR : N 4 = tR (A 2) (N 3)) (hB : ∀ a, a < 8 → (A 12 a).toNatClampNeg = tB (A 2) (nI a) (N 3)) (gq : ∀ q, q < (gNum 4).toNatClampNeg → rg 6 (ML 1) (nI q) = A 2 (7 * N 3 + 1 + q)) (c : A 2 (7 * N 3) = 99) {P : Int32 × (Nat → Int32) × (Nat → Int32) × (Nat → Int32) × (Nat → Int32) × (Nat → Int32) × (Nat → Int32) × (Nat → Int32) × (Nat → Int32) × (Nat → Int32) × (Nat → Int32) × (Nat → Int32) × (Nat → Int32) × Int32 × Int32 × Int32 × Int32 × Int32 × Int32 × Int32 × Int32} (hP : P = p_take pl ps ML (nI 4)) {r : (Nat → Int32) × (Nat → Int32) × (Nat → Int32) × (Nat → Int32) × (Nat → Int32) × (Nat → Int32) × (Nat → Int32) × (Nat → Int32) × (Nat → Int32) × (Nat → Int32) × (Nat → Int32) × Nat × Nat × Int32 × Int32 × Int32 × Int32 × Int32 × Int32} (hr : r = m_layItem A S N (7 * N 3)) :
    (P.1 = 0 ∧ m_fits A N = 0) ∨ (P.1 = 1 ∧ m_fits A N = 1 ∧ sQr P r) := by
  obtain ⟨⟨Q1, Q2, Q3⟩, ⟨Q4, Q5⟩, Q6, Q7⟩ := hQ
  have b1 := itOk_at hit c 1 0 2
  have b2 := itOk_at hit c 2 0 10
  have b3 := itOk_at hit c 3 0 10
  have b4 := itOk_at hit c 4 0 10
  have g0 : rg 6 (ML 1) 0 = A 2 (7 * N 3 + 1) := gq 0 (by decide)
  have g1 : rg 6 (ML 1) 1 = A 2 (7 * N 3 + 2) := gq 1 (by decide)
  have g2 : rg 6 (ML 1) 2 = A 2 (7 * N 3 + 3) := gq 2 (by decide)
  have g3 : rg 6 (ML 1) 3 = A 2 (7 * N 3 + 4) := gq 3 (by decide)
  unfold m_layItem at hr
  rw [if_neg (show ¬ A 2 (7 * N 3) = 98 by rw [c]; decide), if_pos c] at hr
  unfold m_fits
  rw [if_neg (show ¬ A 2 (7 * N 3) = 98 by rw [c]; decide), if_neg (show ¬ A 2 (7 * N 3) = 112 by rw [c]; decide), if_pos c]
  unfold p_take at hP
  rw [if_neg (show ¬ nI 4 = 0 by decide), if_neg (show ¬ nI 4 = 1 by decide), if_neg (show ¬ nI 4 = 2 by decide), if_pos (show nI 4 = 4 from rfl)] at hP
  rw [g0, g1, g2, g3] at hP
  obtain ⟨i, hi, ei⟩ : ∃ i, i < 3 ∧ A 2 (7 * N 3 + 1) = nI i := ⟨(A 2 (7 * N 3 + 1)).toNatClampNeg, kNat_lt (by omega) (by omega), kNat b1.1⟩
  rw [ei] at hP hr
  rw [nI_clamp (by omega)] at hr
  unfold p_setChain at hP
  by_cases z : A 2 (7 * N 3 + 2) + A 2 (7 * N 3 + 3) + A 2 (7 * N 3 + 4) = 10
  · rw [if_pos z] at hP
    rw [if_pos (show A 2 (7 * N 3 + 2) + A 2 (7 * N 3 + 2 + 1) + A 2 (7 * N 3 + 2 + 2) = 10 from z), hP, hr]
    exact Or.inr ⟨rfl, rfl, ⟨Q1, Q2, Q3⟩, ⟨Q4, Q5.put hi b2 b3 b4⟩, Q6, Q7⟩
  · rw [if_neg z] at hP
    rw [if_neg (show ¬ A 2 (7 * N 3 + 2) + A 2 (7 * N 3 + 2 + 1) + A 2 (7 * N 3 + 2 + 2) = 10 from z)]
    exact Or.inl ⟨by rw [hP], rfl⟩
theorem take_5 (hQ : sQ pl ps A S N) (hk : N 3 ≤ 170) (hit : itOk (A 2) (7 * N 3)) (hR : N 4 = tR (A 2) (N 3)) (hB : ∀ a, a < 8 → (A 12 a).toNatClampNeg = tB (A 2) (nI a) (N 3)) (gq : ∀ q, q < (gNum 5).toNatClampNeg → rg 6 (ML 1) (nI q) = A 2 (7 * N 3 + 1 + q)) (c : A 2 (7 * N 3) = 115) {P : Int32 × (Nat → Int32) × (Nat → Int32) × (Nat → Int32) × (Nat → Int32) × (Nat → Int32) × (Nat → Int32) × (Nat → Int32) × (Nat → Int32) × (Nat → Int32) × (Nat → Int32) × (Nat → Int32) × (Nat → Int32) × Int32 × Int32 × Int32 × Int32 × Int32 × Int32 × Int32 × Int32} (hP : P = p_take pl ps ML (nI 5)) {r : (Nat → Int32) × (Nat → Int32) × (Nat → Int32) × (Nat → Int32) × (Nat → Int32) × (Nat → Int32) × (Nat → Int32) × (Nat → Int32) × (Nat → Int32) × (Nat → Int32) × (Nat → Int32) × Nat × Nat × Int32 × Int32 × Int32 × Int32 × Int32 × Int32} (hr : r = m_layItem A S N (7 * N 3)) :
    (P.1 = 0 ∧ m_fits A N = 0) ∨ (P.1 = 1 ∧ m_fits A N = 1 ∧ sQr P r) := by
  obtain ⟨⟨Q1, Q2, Q3⟩, ⟨Q4, Q5⟩, Q6, Q7⟩ := hQ
  have b1 := itOk_at hit c 1 0 2
  have g0 : rg 6 (ML 1) 0 = A 2 (7 * N 3 + 1) := gq 0 (by decide)
  unfold m_layItem at hr
  rw [if_neg (show ¬ A 2 (7 * N 3) = 98 by rw [c]; decide), if_neg (show ¬ A 2 (7 * N 3) = 99 by rw [c]; decide), if_neg (show ¬ A 2 (7 * N 3) = 103 by rw [c]; decide), if_neg (show ¬ A 2 (7 * N 3) = 104 by rw [c]; decide), if_neg (show ¬ A 2 (7 * N 3) = 107 by rw [c]; decide), if_neg (show ¬ A 2 (7 * N 3) = 111 by rw [c]; decide), if_neg (show ¬ A 2 (7 * N 3) = 112 by rw [c]; decide), if_neg (show ¬ A 2 (7 * N 3) = 114 by rw [c]; decide), if_pos c] at hr
  unfold m_fits
  rw [if_neg (show ¬ A 2 (7 * N 3) = 98 by rw [c]; decide), if_neg (show ¬ A 2 (7 * N 3) = 112 by rw [c]; decide), if_neg (show ¬ A 2 (7 * N 3) = 99 by rw [c]; decide), if_neg (show ¬ A 2 (7 * N 3) = 114 by rw [c]; decide)]
  unfold p_take at hP
  rw [if_neg (show ¬ nI 5 = 0 by decide), if_neg (show ¬ nI 5 = 1 by decide), if_neg (show ¬ nI 5 = 2 by decide), if_neg (show ¬ nI 5 = 4 by decide)] at hP
  unfold p_takeSetting at hP
  rw [if_neg (show ¬ nI 5 = 3 by decide), if_pos (show nI 5 = 5 from rfl), g0] at hP
  rw [hP, hr]
  exact Or.inr ⟨rfl, rfl, ⟨Q1, Q2, Q3⟩, ⟨Q4, Q5⟩, Q6, ⟨kNat b1.1, kNat_lt (by have := b1.2; omega) (by omega)⟩⟩
theorem take_6 (hQ : sQ pl ps A S N) (hk : N 3 ≤ 170) (hit : itOk (A 2) (7 * N 3)) (hR : N 4 = tR (A 2) (N 3)) (hB : ∀ a, a < 8 → (A 12 a).toNatClampNeg = tB (A 2) (nI a) (N 3)) (gq : ∀ q, q < (gNum 6).toNatClampNeg → rg 6 (ML 1) (nI q) = A 2 (7 * N 3 + 1 + q)) (c : A 2 (7 * N 3) = 104) {P : Int32 × (Nat → Int32) × (Nat → Int32) × (Nat → Int32) × (Nat → Int32) × (Nat → Int32) × (Nat → Int32) × (Nat → Int32) × (Nat → Int32) × (Nat → Int32) × (Nat → Int32) × (Nat → Int32) × (Nat → Int32) × Int32 × Int32 × Int32 × Int32 × Int32 × Int32 × Int32 × Int32} (hP : P = p_take pl ps ML (nI 6)) {r : (Nat → Int32) × (Nat → Int32) × (Nat → Int32) × (Nat → Int32) × (Nat → Int32) × (Nat → Int32) × (Nat → Int32) × (Nat → Int32) × (Nat → Int32) × (Nat → Int32) × (Nat → Int32) × Nat × Nat × Int32 × Int32 × Int32 × Int32 × Int32 × Int32} (hr : r = m_layItem A S N (7 * N 3)) :
    (P.1 = 0 ∧ m_fits A N = 0) ∨ (P.1 = 1 ∧ m_fits A N = 1 ∧ sQr P r) := by
  obtain ⟨⟨Q1, Q2, Q3⟩, ⟨Q4, Q5⟩, Q6, Q7⟩ := hQ
  have b1 := itOk_at hit c 1 0 9
  have b2 := itOk_at hit c 2 1 50
  have g0 : rg 6 (ML 1) 0 = A 2 (7 * N 3 + 1) := gq 0 (by decide)
  have g1 : rg 6 (ML 1) 1 = A 2 (7 * N 3 + 2) := gq 1 (by decide)
  unfold m_layItem at hr
  rw [if_neg (show ¬ A 2 (7 * N 3) = 98 by rw [c]; decide), if_neg (show ¬ A 2 (7 * N 3) = 99 by rw [c]; decide), if_neg (show ¬ A 2 (7 * N 3) = 103 by rw [c]; decide), if_pos c] at hr
  unfold m_fits
  rw [if_neg (show ¬ A 2 (7 * N 3) = 98 by rw [c]; decide), if_neg (show ¬ A 2 (7 * N 3) = 112 by rw [c]; decide), if_neg (show ¬ A 2 (7 * N 3) = 99 by rw [c]; decide), if_neg (show ¬ A 2 (7 * N 3) = 114 by rw [c]; decide)]
  unfold p_take at hP
  rw [if_neg (show ¬ nI 6 = 0 by decide), if_neg (show ¬ nI 6 = 1 by decide), if_neg (show ¬ nI 6 = 2 by decide), if_neg (show ¬ nI 6 = 4 by decide)] at hP
  unfold p_takeSetting at hP
  rw [if_neg (show ¬ nI 6 = 3 by decide), if_neg (show ¬ nI 6 = 5 by decide), if_pos (show nI 6 = 6 from rfl), g0, g1] at hP
  rw [hP, hr]
  exact Or.inr ⟨rfl, rfl, ⟨Q1, Q2, Q3⟩, ⟨Q4, Q5⟩, ⟨⟨⟨rfl, b1⟩, ⟨rfl, b2⟩, Q6.1.2.2⟩, Q6.2⟩, Q7⟩
theorem take_7 (hQ : sQ pl ps A S N) (hk : N 3 ≤ 170) (hit : itOk (A 2) (7 * N 3)) (hR : N 4 = tR (A 2) (N 3)) (hB : ∀ a, a < 8 → (A 12 a).toNatClampNeg = tB (A 2) (nI a) (N 3)) (gq : ∀ q, q < (gNum 7).toNatClampNeg → rg 6 (ML 1) (nI q) = A 2 (7 * N 3 + 1 + q)) (c : A 2 (7 * N 3) = 103) {P : Int32 × (Nat → Int32) × (Nat → Int32) × (Nat → Int32) × (Nat → Int32) × (Nat → Int32) × (Nat → Int32) × (Nat → Int32) × (Nat → Int32) × (Nat → Int32) × (Nat → Int32) × (Nat → Int32) × (Nat → Int32) × Int32 × Int32 × Int32 × Int32 × Int32 × Int32 × Int32 × Int32} (hP : P = p_take pl ps ML (nI 7)) {r : (Nat → Int32) × (Nat → Int32) × (Nat → Int32) × (Nat → Int32) × (Nat → Int32) × (Nat → Int32) × (Nat → Int32) × (Nat → Int32) × (Nat → Int32) × (Nat → Int32) × (Nat → Int32) × Nat × Nat × Int32 × Int32 × Int32 × Int32 × Int32 × Int32} (hr : r = m_layItem A S N (7 * N 3)) :
    (P.1 = 0 ∧ m_fits A N = 0) ∨ (P.1 = 1 ∧ m_fits A N = 1 ∧ sQr P r) := by
  obtain ⟨⟨Q1, Q2, Q3⟩, ⟨Q4, Q5⟩, Q6, Q7⟩ := hQ
  have b1 := itOk_at hit c 1 0 99
  have g0 : rg 6 (ML 1) 0 = A 2 (7 * N 3 + 1) := gq 0 (by decide)
  unfold m_layItem at hr
  rw [if_neg (show ¬ A 2 (7 * N 3) = 98 by rw [c]; decide), if_neg (show ¬ A 2 (7 * N 3) = 99 by rw [c]; decide), if_pos c] at hr
  unfold m_fits
  rw [if_neg (show ¬ A 2 (7 * N 3) = 98 by rw [c]; decide), if_neg (show ¬ A 2 (7 * N 3) = 112 by rw [c]; decide), if_neg (show ¬ A 2 (7 * N 3) = 99 by rw [c]; decide), if_neg (show ¬ A 2 (7 * N 3) = 114 by rw [c]; decide)]
  unfold p_take at hP
  rw [if_neg (show ¬ nI 7 = 0 by decide), if_neg (show ¬ nI 7 = 1 by decide), if_neg (show ¬ nI 7 = 2 by decide), if_neg (show ¬ nI 7 = 4 by decide)] at hP
  unfold p_takeSetting at hP
  rw [if_neg (show ¬ nI 7 = 3 by decide), if_neg (show ¬ nI 7 = 5 by decide), if_neg (show ¬ nI 7 = 6 by decide), if_pos (show nI 7 = 7 from rfl), g0] at hP
  rw [hP, hr]
  exact Or.inr ⟨rfl, rfl, ⟨Q1, Q2, Q3⟩, ⟨Q4, Q5⟩, ⟨⟨Q6.1.1, Q6.1.2.1, rfl, b1⟩, Q6.2⟩, Q7⟩
theorem take_8 (hQ : sQ pl ps A S N) (hk : N 3 ≤ 170) (hit : itOk (A 2) (7 * N 3)) (hR : N 4 = tR (A 2) (N 3)) (hB : ∀ a, a < 8 → (A 12 a).toNatClampNeg = tB (A 2) (nI a) (N 3)) (gq : ∀ q, q < (gNum 8).toNatClampNeg → rg 6 (ML 1) (nI q) = A 2 (7 * N 3 + 1 + q)) (c : A 2 (7 * N 3) = 111) {P : Int32 × (Nat → Int32) × (Nat → Int32) × (Nat → Int32) × (Nat → Int32) × (Nat → Int32) × (Nat → Int32) × (Nat → Int32) × (Nat → Int32) × (Nat → Int32) × (Nat → Int32) × (Nat → Int32) × (Nat → Int32) × Int32 × Int32 × Int32 × Int32 × Int32 × Int32 × Int32 × Int32} (hP : P = p_take pl ps ML (nI 8)) {r : (Nat → Int32) × (Nat → Int32) × (Nat → Int32) × (Nat → Int32) × (Nat → Int32) × (Nat → Int32) × (Nat → Int32) × (Nat → Int32) × (Nat → Int32) × (Nat → Int32) × (Nat → Int32) × Nat × Nat × Int32 × Int32 × Int32 × Int32 × Int32 × Int32} (hr : r = m_layItem A S N (7 * N 3)) :
    (P.1 = 0 ∧ m_fits A N = 0) ∨ (P.1 = 1 ∧ m_fits A N = 1 ∧ sQr P r) := by
  obtain ⟨⟨Q1, Q2, Q3⟩, ⟨Q4, Q5⟩, Q6, Q7⟩ := hQ
  have b1 := itOk_at hit c 1 0 200
  have b2 := itOk_at hit c 2 1 20
  have g0 : rg 6 (ML 1) 0 = A 2 (7 * N 3 + 1) := gq 0 (by decide)
  have g1 : rg 6 (ML 1) 1 = A 2 (7 * N 3 + 2) := gq 1 (by decide)
  unfold m_layItem at hr
  rw [if_neg (show ¬ A 2 (7 * N 3) = 98 by rw [c]; decide), if_neg (show ¬ A 2 (7 * N 3) = 99 by rw [c]; decide), if_neg (show ¬ A 2 (7 * N 3) = 103 by rw [c]; decide), if_neg (show ¬ A 2 (7 * N 3) = 104 by rw [c]; decide), if_neg (show ¬ A 2 (7 * N 3) = 107 by rw [c]; decide), if_pos c] at hr
  unfold m_fits
  rw [if_neg (show ¬ A 2 (7 * N 3) = 98 by rw [c]; decide), if_neg (show ¬ A 2 (7 * N 3) = 112 by rw [c]; decide), if_neg (show ¬ A 2 (7 * N 3) = 99 by rw [c]; decide), if_neg (show ¬ A 2 (7 * N 3) = 114 by rw [c]; decide)]
  unfold p_take at hP
  rw [if_neg (show ¬ nI 8 = 0 by decide), if_neg (show ¬ nI 8 = 1 by decide), if_neg (show ¬ nI 8 = 2 by decide), if_neg (show ¬ nI 8 = 4 by decide)] at hP
  unfold p_takeSetting at hP
  rw [if_neg (show ¬ nI 8 = 3 by decide), if_neg (show ¬ nI 8 = 5 by decide), if_neg (show ¬ nI 8 = 6 by decide), if_neg (show ¬ nI 8 = 7 by decide), if_pos (show nI 8 = 8 from rfl), g0, g1] at hP
  rw [hP, hr]
  exact Or.inr ⟨rfl, rfl, ⟨Q1, Q2, Q3⟩, ⟨Q4, Q5⟩, ⟨Q6.1, ⟨rfl, b1⟩, ⟨rfl, b2⟩, Q6.2.2.2⟩, Q7⟩
theorem take_9 (hQ : sQ pl ps A S N) (hk : N 3 ≤ 170) (hit : itOk (A 2) (7 * N 3)) (hR : N 4 = tR (A 2) (N 3)) (hB : ∀ a, a < 8 → (A 12 a).toNatClampNeg = tB (A 2) (nI a) (N 3)) (gq : ∀ q, q < (gNum 9).toNatClampNeg → rg 6 (ML 1) (nI q) = A 2 (7 * N 3 + 1 + q)) (c : A 2 (7 * N 3) = 108) {P : Int32 × (Nat → Int32) × (Nat → Int32) × (Nat → Int32) × (Nat → Int32) × (Nat → Int32) × (Nat → Int32) × (Nat → Int32) × (Nat → Int32) × (Nat → Int32) × (Nat → Int32) × (Nat → Int32) × (Nat → Int32) × Int32 × Int32 × Int32 × Int32 × Int32 × Int32 × Int32 × Int32} (hP : P = p_take pl ps ML (nI 9)) {r : (Nat → Int32) × (Nat → Int32) × (Nat → Int32) × (Nat → Int32) × (Nat → Int32) × (Nat → Int32) × (Nat → Int32) × (Nat → Int32) × (Nat → Int32) × (Nat → Int32) × (Nat → Int32) × Nat × Nat × Int32 × Int32 × Int32 × Int32 × Int32 × Int32} (hr : r = m_layItem A S N (7 * N 3)) :
    (P.1 = 0 ∧ m_fits A N = 0) ∨ (P.1 = 1 ∧ m_fits A N = 1 ∧ sQr P r) := by
  obtain ⟨⟨Q1, Q2, Q3⟩, ⟨Q4, Q5⟩, Q6, Q7⟩ := hQ
  have b1 := itOk_at hit c 1 0 999
  have g0 : rg 6 (ML 1) 0 = A 2 (7 * N 3 + 1) := gq 0 (by decide)
  unfold m_layItem at hr
  rw [if_neg (show ¬ A 2 (7 * N 3) = 98 by rw [c]; decide), if_neg (show ¬ A 2 (7 * N 3) = 99 by rw [c]; decide), if_neg (show ¬ A 2 (7 * N 3) = 103 by rw [c]; decide), if_neg (show ¬ A 2 (7 * N 3) = 104 by rw [c]; decide), if_neg (show ¬ A 2 (7 * N 3) = 107 by rw [c]; decide), if_neg (show ¬ A 2 (7 * N 3) = 111 by rw [c]; decide), if_neg (show ¬ A 2 (7 * N 3) = 112 by rw [c]; decide), if_neg (show ¬ A 2 (7 * N 3) = 114 by rw [c]; decide), if_neg (show ¬ A 2 (7 * N 3) = 115 by rw [c]; decide)] at hr
  unfold m_fits
  rw [if_neg (show ¬ A 2 (7 * N 3) = 98 by rw [c]; decide), if_neg (show ¬ A 2 (7 * N 3) = 112 by rw [c]; decide), if_neg (show ¬ A 2 (7 * N 3) = 99 by rw [c]; decide), if_neg (show ¬ A 2 (7 * N 3) = 114 by rw [c]; decide)]
  unfold p_take at hP
  rw [if_neg (show ¬ nI 9 = 0 by decide), if_neg (show ¬ nI 9 = 1 by decide), if_neg (show ¬ nI 9 = 2 by decide), if_neg (show ¬ nI 9 = 4 by decide)] at hP
  unfold p_takeSetting at hP
  rw [if_neg (show ¬ nI 9 = 3 by decide), if_neg (show ¬ nI 9 = 5 by decide), if_neg (show ¬ nI 9 = 6 by decide), if_neg (show ¬ nI 9 = 7 by decide), if_neg (show ¬ nI 9 = 8 by decide), if_pos (show nI 9 = 9 from rfl), g0] at hP
  rw [hP, hr]
  exact Or.inr ⟨rfl, rfl, ⟨Q1, Q2, Q3⟩, ⟨Q4, Q5⟩, ⟨Q6.1, Q6.2.1, Q6.2.2.1, rfl, b1⟩, Q7⟩
theorem take_eq (hQ : sQ pl ps A S N) (hk : N 3 ≤ 170) (hit : itOk (A 2) (7 * N 3)) (hR : N 4 = tR (A 2) (N 3)) (hB : ∀ a, a < 8 → (A 12 a).toNatClampNeg = tB (A 2) (nI a) (N 3)) {κ : Nat} (hκ : κ < 10) (gq : ∀ q, q < (gNum κ).toNatClampNeg → ML 1 q = A 2 (7 * N 3 + 1 + q)) (c : A 2 (7 * N 3) = gStr κ) {P : Int32 × (Nat → Int32) × (Nat → Int32) × (Nat → Int32) × (Nat → Int32) × (Nat → Int32) × (Nat → Int32) × (Nat → Int32) × (Nat → Int32) × (Nat → Int32) × (Nat → Int32) × (Nat → Int32) × (Nat → Int32) × Int32 × Int32 × Int32 × Int32 × Int32 × Int32 × Int32 × Int32} (hP : P = p_take pl ps ML (nI κ)) {r : (Nat → Int32) × (Nat → Int32) × (Nat → Int32) × (Nat → Int32) × (Nat → Int32) × (Nat → Int32) × (Nat → Int32) × (Nat → Int32) × (Nat → Int32) × (Nat → Int32) × (Nat → Int32) × Nat × Nat × Int32 × Int32 × Int32 × Int32 × Int32 × Int32} (hr : r = m_layItem A S N (7 * N 3)) :
    (P.1 = 0 ∧ m_fits A N = 0) ∨ (P.1 = 1 ∧ m_fits A N = 1 ∧ sQr P r) := by
  have n6 := (num_tab κ hκ).2.2.2
  have gq' : ∀ q, q < (gNum κ).toNatClampNeg → rg 6 (ML 1) (nI q) = A 2 (7 * N 3 + 1 + q) := fun q hq => by rw [rg_in (by omega) (by omega)]; exact gq q hq
  rcases (show κ = 0 ∨ κ = 1 ∨ κ = 2 ∨ κ = 3 ∨ κ = 4 ∨ κ = 5 ∨ κ = 6 ∨ κ = 7 ∨ κ = 8 ∨ κ = 9 by omega) with h | h | h | h | h | h | h | h | h | h <;> subst h
  · exact take_0 hQ hk hit hR hB gq' c hP hr
  · exact take_1 hQ hk hit hR hB gq' c hP hr
  · exact take_2 hQ hk hit hR hB gq' c hP hr
  · exact take_3 hQ hk hit hR hB gq' c hP hr
  · exact take_4 hQ hk hit hR hB gq' c hP hr
  · exact take_5 hQ hk hit hR hB gq' c hP hr
  · exact take_6 hQ hk hit hR hB gq' c hP hr
  · exact take_7 hQ hk hit hR hB gq' c hP hr
  · exact take_8 hQ hk hit hR hB gq' c hP hr
  · exact take_9 hQ hk hit hR hB gq' c hP hr
end STAKE
