def tsum (g : Nat → Int32) (a : Nat) : Nat → Int
  | 0 => 0
  | n + 1 => tsum g a n + (g (4 * a + n)).toInt
def sB (f : Nat → Int32) (a : Int32) : Nat → Int
  | 0 => 0
  | k + 1 => sB f a k + (if f (7 * k) = 98 ∧ f (7 * k + 1) = a then (f (7 * k + 3)).toInt else 0)
/-- what stands once the first i items are laid -/
def LI (f : Nat → Int32) (RA : Nat → Nat → Int32) (RS : Nat → Int32) (RN : Nat → Nat) (i : Nat) : Prop := mI RA RS RN ∧ RN 4 = tR f i ∧ ∀ a, a < 8 → (RA 12 a).toNatClampNeg = tB f (nI a) i ∧ tsum (RA 11) a (tB f (nI a) i) = sB f (nI a) i
theorem tsum_congr {g g' : Nat → Int32} {a : Nat} : ∀ {n : Nat}, (∀ q, q < n → g' (4 * a + q) = g (4 * a + q)) → tsum g' a n = tsum g a n := by
  intro n
  induction n with
  | zero => intro _; rfl
  | succ n ih => intro h; rw [tsum, tsum, ih (fun q hq => h q (by omega)), h n (by omega)]
theorem LI_same {f : Nat → Int32} {RA RA' : Nat → Nat → Int32} {RS RS' : Nat → Int32} {RN RN' : Nat → Nat} {i : Nat} (h : LI f RA RS RN i) (n1 : ¬ f (7 * i) = 114) (n2 : ¬ f (7 * i) = 98) (a8 : RA' 8 = RA 8) (a10 : RA' 10 = RA 10) (a11 : RA' 11 = RA 11) (a12 : RA' 12 = RA 12) (a25 : RA' 25 = RA 25) (a31 : RA' 31 = RA 31) (e4 : RN' 4 = RN 4) (e28 : RN' 28 < 3) (e29 : RN' 29 = RN 29) (e32 : RN' 32 = RN 32) (e34 : RN' 34 = RN 34) (e1 : RN' 1 = RN 1) : LI f RA' RS' RN' (i + 1) := by
  obtain ⟨hM, h4, hB⟩ := h
  obtain ⟨m1, m2, m3, m4, m5, m6, m7, m8, m9, m10, m11, m12⟩ := hM
  refine ⟨⟨by rw [e4]; exact m1, by rw [a12]; exact m2, by rw [a25]; exact m3, by rw [a8]; exact m4, by rw [e29]; exact m5, e28, by rw [e32]; exact m7, by rw [a31]; exact m8, by rw [e34]; exact m9, by rw [e1]; exact m10, by rw [a11]; exact m11, by rw [a10]; exact m12⟩, ?_, fun a ha => ?_⟩
  · rw [e4, h4, tR, if_neg n1]; rfl
  · have := hB a ha
    rw [tB, sB, if_neg (fun q => n2 q.1), if_neg (fun q => n2 q.1), a12, a11, Int.add_zero]
    exact this
theorem kletters {c : Int32} (h : 0 < (m_numbersOf c).toInt) : c = 98 ∨ c = 99 ∨ c = 103 ∨ c = 104 ∨ c = 107 ∨ c = 108 ∨ c = 111 ∨ c = 112 ∨ c = 114 ∨ c = 115 := by
  unfold m_numbersOf at h
  by_cases h1 : c = 98; · exact Or.inl h1
  by_cases h2 : c = 99; · exact Or.inr (Or.inl h2)
  by_cases h3 : c = 103; · exact Or.inr (Or.inr (Or.inl h3))
  by_cases h4 : c = 104; · exact Or.inr (Or.inr (Or.inr (Or.inl h4)))
  by_cases h5 : c = 107; · exact Or.inr (Or.inr (Or.inr (Or.inr (Or.inl h5))))
  by_cases h6 : c = 108; · exact Or.inr (Or.inr (Or.inr (Or.inr (Or.inr (Or.inl h6)))))
  by_cases h7 : c = 111; · exact Or.inr (Or.inr (Or.inr (Or.inr (Or.inr (Or.inr (Or.inl h7))))))
  by_cases h8 : c = 112; · exact Or.inr (Or.inr (Or.inr (Or.inr (Or.inr (Or.inr (Or.inr (Or.inl h8)))))))
  by_cases h9 : c = 114; · exact Or.inr (Or.inr (Or.inr (Or.inr (Or.inr (Or.inr (Or.inr (Or.inr (Or.inl h9))))))))
  by_cases h0 : c = 115; · exact Or.inr (Or.inr (Or.inr (Or.inr (Or.inr (Or.inr (Or.inr (Or.inr (Or.inr h0))))))))
  rw [if_neg h1, if_neg h2, if_neg h3, if_neg h4, if_neg h5, if_neg h6, if_neg h7, if_neg h8, if_neg h9, if_neg h0] at h
  exact absurd h (by decide)
theorem kcl_of {x : Int32} {n : Nat} (h0 : 0 ≤ x.toInt) : x = nI n ↔ (n < 2 ^ 31 ∧ x.toNatClampNeg = n) ∨ x = nI n := ⟨Or.inr, fun h => by
  rcases h with ⟨h1, h2⟩ | h
  · rw [kNat h0, h2]
  · exact h⟩
theorem kcl_succ {x : Int32} (h0 : 0 ≤ x.toInt) (h : x.toNatClampNeg < 4) : (x + 1).toNatClampNeg = x.toNatClampNeg + 1 ∧ 0 ≤ (x + 1).toInt ∧ (x + 1).toInt ≤ 4 := by
  have e1 : (1 : Int32).toInt = 1 := rfl
  have h2 : x.toNatClampNeg = x.toInt.toNat := rfl
  have h3 : (x + 1).toInt = x.toInt + 1 := by rw [kadd_small (by rw [e1]; omega) (by rw [e1]; omega), e1]
  have h4 : (x + 1).toNatClampNeg = (x + 1).toInt.toNat := rfl
  omega
theorem LI_bear {f : Nat → Int32} {RA RA' : Nat → Nat → Int32} {RS RS' : Nat → Int32} {RN RN' : Nat → Nat} {i : Nat} (h : LI f RA RS RN i) (n2 : f (7 * i) = 98) (b1 : 0 ≤ (f (7 * i + 1)).toInt ∧ (f (7 * i + 1)).toInt ≤ 7) (b2 : 1 ≤ (f (7 * i + 2)).toInt ∧ (f (7 * i + 2)).toInt ≤ 999) (b3 : 0 ≤ (f (7 * i + 3)).toInt ∧ (f (7 * i + 3)).toInt ≤ 10) (b4 : tB f (f (7 * i + 1)) i < 4) (a8 : RA' 8 = RA 8) (a10 : RA' 10 = upd (RA 10) (4 * (f (7 * i + 1)).toNatClampNeg + (RA 12 (f (7 * i + 1)).toNatClampNeg).toNatClampNeg) (f (7 * i + 2))) (a11 : RA' 11 = upd (RA 11) (4 * (f (7 * i + 1)).toNatClampNeg + (RA 12 (f (7 * i + 1)).toNatClampNeg).toNatClampNeg) (f (7 * i + 3))) (a12 : RA' 12 = upd (RA 12) (f (7 * i + 1)).toNatClampNeg (RA 12 (f (7 * i + 1)).toNatClampNeg + 1)) (a25 : RA' 25 = RA 25) (a31 : RA' 31 = RA 31) (e4 : RN' 4 = RN 4) (e28 : RN' 28 = RN 28) (e29 : RN' 29 = RN 29) (e32 : RN' 32 = RN 32) (e34 : RN' 34 = RN 34) (e1 : RN' 1 = RN 1) : LI f RA' RS' RN' (i + 1) := by
  obtain ⟨hM, h4, hB⟩ := h
  obtain ⟨x, hx⟩ : ∃ z, z = (f (7 * i + 1)).toNatClampNeg := ⟨_, rfl⟩
  rw [← hx] at a10 a11 a12
  have hfx : f (7 * i + 1) = nI x := by rw [hx]; exact kNat b1.1
  have hx8 : x < 8 := by rw [hx, kcl_toNat]; omega
  have hBx := hB x hx8
  rw [hfx, ← hBx.1] at b4
  have m2x := hM.2.1 x hx8
  have hs := kcl_succ m2x.1 b4
  obtain ⟨m1, m2, m3, m4, m5, m6, m7, m8, m9, m10, m11, m12⟩ := hM
  refine ⟨⟨by rw [e4]; exact m1, fun j hj => ?_, by rw [a25]; exact m3, by rw [a8]; exact m4, by rw [e29]; exact m5, by rw [e28]; exact m6, by rw [e32]; exact m7, by rw [a31]; exact m8, by rw [e34]; exact m9, by rw [e1]; exact m10, fun j hj => ?_, fun j hj => ?_⟩, ?_, fun a ha => ?_⟩
  · rw [a12]
    by_cases e : j = x
    · rw [e, pk_us]; exact hs.2
    · rw [pk_un e]; exact m2 j hj
  · rw [a11]
    by_cases e : j = 4 * x + (RA 12 x).toNatClampNeg
    · rw [e, pk_us]; exact b3
    · rw [pk_un e]; exact m11 j hj
  · rw [a10]
    by_cases e : j = 4 * x + (RA 12 x).toNatClampNeg
    · rw [e, pk_us]; omega
    · rw [pk_un e]; exact m12 j hj
  · rw [e4, h4, tR, if_neg (by rw [n2]; decide)]; rfl
  · by_cases e : a = x
    · subst e
      rw [tB, sB, if_pos ⟨n2, hfx⟩, if_pos ⟨n2, hfx⟩, a12, a11, pk_us, hs.1]
      refine ⟨by rw [hBx.1], ?_⟩
      rw [tsum, ← hBx.2]
      rw [hBx.1, pk_us, tsum_congr (fun q hq => pk_un (by omega))]
    · have hne : ¬ (f (7 * i) = 98 ∧ f (7 * i + 1) = nI a) := fun q => by
        have h9 := hfx.symm.trans q.2
        have := congrArg Int32.toInt h9
        rw [nI_toInt (by omega), nI_toInt (by omega)] at this
        omega
      have h4b : tB f (nI a) i ≤ 4 := by rw [← (hB a ha).1, kcl_toNat]; have := m2 a ha; omega
      rw [tB, sB, if_neg hne, if_neg hne, a12, a11, pk_un e, Int.add_zero, Nat.add_zero, tsum_congr (fun q hq => pk_un (by omega))]
      exact hB a ha
theorem LI_roof {f : Nat → Int32} {RA RA' : Nat → Nat → Int32} {RS RS' : Nat → Int32} {RN RN' : Nat → Nat} {i : Nat} (h : LI f RA RS RN i) (n1 : f (7 * i) = 114) (b6 : 0 ≤ (f (7 * i + 6)).toInt) (b4 : tR f i < 8) (a8 : RA' 8 = upd (RA 8) (RN 4) (f (7 * i + 6))) (a10 : RA' 10 = RA 10) (a11 : RA' 11 = RA 11) (a12 : RA' 12 = RA 12) (a25 : RA' 25 = RA 25) (a31 : RA' 31 = RA 31) (e4 : RN' 4 = RN 4 + 1) (e28 : RN' 28 = RN 28) (e29 : RN' 29 = RN 29) (e32 : RN' 32 = RN 32) (e34 : RN' 34 = RN 34) (e1 : RN' 1 = RN 1) : LI f RA' RS' RN' (i + 1) := by
  obtain ⟨hM, h4, hB⟩ := h
  obtain ⟨m1, m2, m3, m4, m5, m6, m7, m8, m9, m10, m11, m12⟩ := hM
  refine ⟨⟨by omega, by rw [a12]; exact m2, by rw [a25]; exact m3, fun j hj => ?_, by rw [e29]; exact m5, by rw [e28]; exact m6, by rw [e32]; exact m7, by rw [a31]; exact m8, by rw [e34]; exact m9, by rw [e1]; exact m10, by rw [a11]; exact m11, by rw [a10]; exact m12⟩, ?_, fun a ha => ?_⟩
  · rw [a8]
    by_cases e : j = RN 4
    · rw [e, pk_us]; exact b6
    · rw [pk_un e]; exact m4 j hj
  · rw [e4, h4, tR, if_pos n1]
  · have := hB a ha
    have hne : ¬ (f (7 * i) = 98 ∧ f (7 * i + 1) = nI a) := fun q => by rw [n1] at q; exact absurd q.1 (by decide)
    rw [tB, sB, if_neg hne, if_neg hne, a12, a11, Int.add_zero]
    exact this
theorem LI_step {f : Nat → Int32} {RA RA' : Nat → Nat → Int32} {RS RS' : Nat → Int32} {RN RN' : Nat → Nat} {i n : Nat} (h : LI f RA RS RN i) (e2 : RA 2 = f) (hv : vOk f n) (hi : i < n) {r : (Nat → Int32) × (Nat → Int32) × (Nat → Int32) × (Nat → Int32) × (Nat → Int32) × (Nat → Int32) × (Nat → Int32) × (Nat → Int32) × (Nat → Int32) × (Nat → Int32) × (Nat → Int32) × Nat × Nat × Int32 × Int32 × Int32 × Int32 × Int32 × Int32} (hr : r = m_layItem RA RS RN (7 * i)) (a8 : RA' 8 = r.2.2.2.1) (a10 : RA' 10 = r.2.2.2.2.2.1) (a11 : RA' 11 = r.2.2.2.2.2.2.1) (a12 : RA' 12 = r.2.2.2.2.2.2.2.1) (a25 : RA' 25 = RA 25) (a31 : RA' 31 = RA 31) (e4 : RN' 4 = r.2.2.2.2.2.2.2.2.2.2.2.1) (e28 : RN' 28 = r.2.2.2.2.2.2.2.2.2.2.2.2.1) (e29 : RN' 29 = RN 29) (e32 : RN' 32 = RN 32) (e34 : RN' 34 = RN 34) (e1 : RN' 1 = RN 1) : LI f RA' RS' RN' (i + 1) := by
  obtain ⟨hit, hro, hbe, -, -⟩ := hv i hi
  unfold m_layItem at hr
  rw [e2] at hr
  have m28 : RN 28 < 3 := h.1.2.2.2.2.2.1
  rcases kletters hit.1 with c | c | c | c | c | c | c | c | c | c
  · rw [if_pos c] at hr
    subst hr
    exact LI_bear h c (itOk_at hit c 1 0 7) (itOk_at hit c 2 1 999) (itOk_at hit c 3 0 10) (hbe c).1 a8 a10 a11 a12 a25 a31 e4 e28 e29 e32 e34 e1
  all_goals
    have n98 : ¬ f (7 * i) = 98 := by rw [c]; decide
  · rw [if_neg n98, if_pos c] at hr
    subst hr
    exact LI_same h (by rw [c]; decide) n98 a8 a10 a11 a12 a25 a31 e4 (by rw [e28]; exact m28) e29 e32 e34 e1
  all_goals
    have n99 : ¬ f (7 * i) = 99 := by rw [c]; decide
  · rw [if_neg n98, if_neg n99, if_pos c] at hr
    subst hr
    exact LI_same h (by rw [c]; decide) n98 a8 a10 a11 a12 a25 a31 e4 (by rw [e28]; exact m28) e29 e32 e34 e1
  all_goals
    have n103 : ¬ f (7 * i) = 103 := by rw [c]; decide
  · rw [if_neg n98, if_neg n99, if_neg n103, if_pos c] at hr
    subst hr
    exact LI_same h (by rw [c]; decide) n98 a8 a10 a11 a12 a25 a31 e4 (by rw [e28]; exact m28) e29 e32 e34 e1
  all_goals
    have n104 : ¬ f (7 * i) = 104 := by rw [c]; decide
  · rw [if_neg n98, if_neg n99, if_neg n103, if_neg n104, if_pos c] at hr
    subst hr
    exact LI_same h (by rw [c]; decide) n98 a8 a10 a11 a12 a25 a31 e4 (by rw [e28]; exact m28) e29 e32 e34 e1
  · rw [if_neg n98, if_neg n99, if_neg n103, if_neg n104, if_neg (by rw [c]; decide), if_neg (by rw [c]; decide), if_neg (by rw [c]; decide), if_neg (by rw [c]; decide), if_neg (by rw [c]; decide)] at hr
    subst hr
    exact LI_same h (by rw [c]; decide) n98 a8 a10 a11 a12 a25 a31 e4 (by rw [e28]; exact m28) e29 e32 e34 e1
  all_goals
    have n107 : ¬ f (7 * i) = 107 := by rw [c]; decide
  · rw [if_neg n98, if_neg n99, if_neg n103, if_neg n104, if_neg n107, if_pos c] at hr
    subst hr
    exact LI_same h (by rw [c]; decide) n98 a8 a10 a11 a12 a25 a31 e4 (by rw [e28]; exact m28) e29 e32 e34 e1
  all_goals
    have n111 : ¬ f (7 * i) = 111 := by rw [c]; decide
  · rw [if_neg n98, if_neg n99, if_neg n103, if_neg n104, if_neg n107, if_neg n111, if_pos c] at hr
    subst hr
    exact LI_same h (by rw [c]; decide) n98 a8 a10 a11 a12 a25 a31 e4 (by rw [e28]; exact m28) e29 e32 e34 e1
  all_goals
    have n112 : ¬ f (7 * i) = 112 := by rw [c]; decide
  · rw [if_neg n98, if_neg n99, if_neg n103, if_neg n104, if_neg n107, if_neg n111, if_neg n112, if_pos c] at hr
    subst hr
    exact LI_roof h c (itOk_at hit c 6 0 8).1 (hro c) a8 a10 a11 a12 a25 a31 e4 e28 e29 e32 e34 e1
  · rw [if_neg n98, if_neg n99, if_neg n103, if_neg n104, if_neg n107, if_neg n111, if_neg n112, if_neg (by rw [c]; decide), if_pos c] at hr
    subst hr
    have h3 := itOk_at hit c 1 0 2
    exact LI_same h (by rw [c]; decide) n98 a8 a10 a11 a12 a25 a31 e4 (by rw [e28]; exact kNat_lt (n := 3) (by omega) (by omega)) e29 e32 e34 e1
