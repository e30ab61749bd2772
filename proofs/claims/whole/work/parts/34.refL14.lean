theorem LI_r {f : Nat → Int32} {RA : Nat → Nat → Int32} {RS : Nat → Int32} {RN : Nat → Nat} {i n : Nat} (h : LI f RA RS RN i) (hv : vOk f n) (hi : i < n) (c : f (7 * i) = 114) : RN 4 < 8 := by
  rw [h.2.1]
  exact (hv i hi).2.1 c
theorem LI_b {f : Nat → Int32} {RA : Nat → Nat → Int32} {RS : Nat → Int32} {RN : Nat → Nat} {i n : Nat} (h : LI f RA RS RN i) (hv : vOk f n) (hi : i < n) (c : f (7 * i) = 98) : (RA 12 (f (7 * i + 1)).toNatClampNeg).toNatClampNeg < 4 := by
  have h1 := itOk_at (hv i hi).1 c 1 0 7
  have h2 := ((hv i hi).2.2.1 c).1
  rw [(h.2.2 (f (7 * i + 1)).toNatClampNeg (by rw [kcl_toNat]; omega)).1, ← kNat h1.1]
  exact h2
theorem reset_L {n : Nat} : ∀ (i : Nat) (a9 a12 : Nat → Int32) (j : Nat), (j < i → (m_reset_L46 n i a9 a12).2 j = a12 j) ∧ (i ≤ j → j < i + n → (m_reset_L46 n i a9 a12).2 j = 0) := by
  induction n with
  | zero => intro i a9 a12 j; exact ⟨fun _ => rfl, fun h1 h2 => by omega⟩
  | succ n ih =>
    intro i a9 a12 j
    rw [m_reset_L46.eq_2]
    have h := ih (i + 1) (upd a9 i 0) (upd a12 i 0) j
    refine ⟨fun hj => ?_, fun h1 h2 => ?_⟩
    · rw [h.1 (by omega), pk_un (by omega)]
    · by_cases e : j = i
      · rw [h.1 (by omega), e, pk_us]
      · exact h.2 (by omega) (by omega)
theorem LI_reset {f : Nat → Int32} {RA RA' : Nat → Nat → Int32} {RS RS' : Nat → Int32} {RN RN' : Nat → Nat} (h : mI RA RS RN) (a8 : RA' 8 = RA 8) (a10 : RA' 10 = RA 10) (a11 : RA' 11 = RA 11) (a12 : RA' 12 = (m_reset_L46 8 0 (RA 9) (RA 12)).2) (a25 : RA' 25 = RA 25) (a31 : RA' 31 = RA 31) (e4 : RN' 4 = 0) (e28 : RN' 28 = 0) (e29 : RN' 29 = RN 29) (e32 : RN' 32 = RN 32) (e34 : RN' 34 = RN 34) (e1 : RN' 1 = RN 1) : LI f RA' RS' RN' 0 := by
  obtain ⟨m1, m2, m3, m4, m5, m6, m7, m8, m9, m10, m11, m12⟩ := h
  have z : ∀ j, j < 8 → RA' 12 j = 0 := fun j hj => by rw [a12]; exact (reset_L 0 _ _ j).2 (by omega) (by omega)
  refine ⟨⟨by omega, fun j hj => by rw [z j hj]; decide, by rw [a25]; exact m3, by rw [a8]; exact m4, by rw [e29]; exact m5, by omega, by rw [e32]; exact m7, by rw [a31]; exact m8, by rw [e34]; exact m9, by rw [e1]; exact m10, by rw [a11]; exact m11, by rw [a10]; exact m12⟩, e4, fun a ha => ⟨by rw [z a ha]; rfl, rfl⟩⟩
theorem mI_bearsOf {RA RA' : Nat → Nat → Int32} {RS RS' : Nat → Int32} {RN RN' : Nat → Nat} {i : Nat} (h : mI RA RS RN) (hi : i < 8) {r : (Nat → Int32) × (Nat → Int32) × (Nat → Int32) × (Nat → Int32) × (Nat → Int32) × (Nat → Int32)} (hr : r = m_bearsOf RA i) (a8 : RA' 8 = RA 8) (a10 : RA' 10 = r.1) (a11 : RA' 11 = r.2.1) (a12 : RA' 12 = r.2.2.1) (a25 : RA' 25 = r.2.2.2.2.2) (a31 : RA' 31 = RA 31) (e4 : RN' 4 = RN 4) (e28 : RN' 28 = RN 28) (e29 : RN' 29 = RN 29) (e32 : RN' 32 = RN 32) (e34 : RN' 34 = RN 34) (e1 : RN' 1 = RN 1) : mI RA' RS' RN' := by
  obtain ⟨m1, m2, m3, m4, m5, m6, m7, m8, m9, m10, m11, m12⟩ := h
  have z25 : ∀ j, j < 8 → 0 ≤ (upd (RA 25) i 0 j).toInt ∧ (upd (RA 25) i 0 j).toInt ≤ 3 := fun j hj => by
    by_cases e : j = i
    · rw [e, pk_us]; decide
    · rw [pk_un e]; exact m3 j hj
  unfold m_bearsOf at hr
  by_cases c : RA 12 i = 0
  · rw [if_pos c] at hr
    subst hr
    refine ⟨by omega, fun j hj => ?_, by rw [a25]; exact z25, by rw [a8]; exact m4, by rw [e29]; exact m5, by omega, by rw [e32]; exact m7, by rw [a31]; exact m8, by rw [e34]; exact m9, by rw [e1]; exact m10, fun j hj => ?_, fun j hj => ?_⟩
    · by_cases e : j = i
      · have z : RA' 12 j = 1 := by rw [a12, e]; exact pk_us
        rw [z]; decide
      · rw [a12]; show 0 ≤ (upd (RA 12) i 1 j).toInt ∧ (upd (RA 12) i 1 j).toInt ≤ 4; rw [pk_un e]; exact m2 j hj
    · by_cases e : j = 4 * i
      · have z : RA' 11 j = 10 := by rw [a11, e]; exact pk_us
        rw [z]; decide
      · rw [a11]; show 0 ≤ (upd (RA 11) (4 * i) 10 j).toInt ∧ (upd (RA 11) (4 * i) 10 j).toInt ≤ 10; rw [pk_un e]; exact m11 j hj
    · by_cases e : j = 4 * i
      · have z : RA' 10 j = 500 := by rw [a10, e]; exact pk_us
        rw [z]; decide
      · rw [a10]; show (upd (RA 10) (4 * i) 500 j).toInt < 1000000; rw [pk_un e]; exact m12 j hj
  · rw [if_neg c] at hr
    subst hr
    exact ⟨by omega, by rw [a12]; exact m2, by rw [a25]; exact z25, by rw [a8]; exact m4, by rw [e29]; exact m5, by omega, by rw [e32]; exact m7, by rw [a31]; exact m8, by rw [e34]; exact m9, by rw [e1]; exact m10, by rw [a11]; exact m11, by rw [a10]; exact m12⟩
theorem mI_zero {RA : Nat → Nat → Int32} {RS : Nat → Int32} {RN : Nat → Nat} (h : mI RA RS RN) : mI RA RS (va_up (va_up (va_up RN 29 0) 32 0) 34 0) := by
  obtain ⟨m1, m2, m3, m4, m5, m6, m7, m8, m9, m10, m11, m12⟩ := h
  exact ⟨m1, m2, m3, m4, show 0 < 16 by omega, m6, show 0 ≤ 12 by omega, m8, show 0 ≤ 2 by omega, m10, m11, m12⟩
