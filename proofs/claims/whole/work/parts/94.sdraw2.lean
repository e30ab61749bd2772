/-! what bears, drawn; the sky, drawn; what is lost in a night -/
section SDRAW2
variable {PL : Nat → Nat → Nat → Int32} {PS : Nat → Nat → Int32} {VL : Nat → Nat → Nat → Int32} {vl pl : Nat → Nat → Int32} {vs ps : Nat → Int32} {RA : Nat → Nat → Int32} {RS : Nat → Int32} {RN : Nat → Nat}
theorem ch_sm (hM : mI RA RS RN) {i : Nat} (hi : i < RN 4) : m_chances RA i = sm (tT RA i) (RA 12 i).toNatClampNeg 0 := by
  have h8 := mI_many hM
  have hb := mI_bm hM i (by omega)
  unfold m_chances
  rw [be_eq hM (by omega)]
  refine sm_congr _ _ (fun k h1 h2 => ?_)
  have h9 := mI_bears hM (4 * i + k) (by omega)
  have h10 : ¬ (1000000 : Int32) ≤ RA 10 (4 * i + k) := by
    rw [Int32.le_iff_toInt_le]
    have : (1000000 : Int32).toInt = 1000000 := by decide
    omega
  unfold tT
  by_cases c : bt (RA 22 i) k = true
  · simp [c, h10]
  · simp [c]
theorem ba_eq (hP : sP pl ps RA RS RN) (hM : mI RA RS RN) (hz : rS RA RN) {i : Nat} (hi : i < RN 4) (hs : vl 2 i = RA 22 i) (hc : ¬ m_chances RA i = 0) (d : Int32) :
    v_bearingAt vl pl (nI i) (d - d / m_chances RA i * m_chances RA i) = RA 10 (4 * i + (m_drawBears_L42 RA i ((RA 12 i).toNatClampNeg) 0 (d - d / m_chances RA i * m_chances RA i) (-4)).2.toNatClampNeg) := by
  have h8 := mI_many hM
  have hb := mI_bm hM i (by omega)
  have hT : ∀ j, j < 4 → 0 ≤ (tT RA i j).toInt ∧ (tT RA i j).toInt ≤ 10 := fun j hj => by
    unfold tT
    by_cases c : bt (RA 22 i) j = true
    · rw [if_pos c]; exact mI_ten hM _ (by omega)
    · rw [if_neg c]; decide
  have hb2 := sm_bd (f := tT RA i) (RA 12 i).toNatClampNeg 0 (by omega) (fun j _ hj => hT j (by omega))
  have e := ch_sm hM hi
  have hpos : 0 < (m_chances RA i).toInt := by
    have : (m_chances RA i).toInt ≠ 0 := fun q => hc (Int32.toInt_inj.mp (by rw [q, ti_0]))
    rw [e] at this ⊢
    omega
  obtain ⟨r1, r2, r3⟩ := ti_rest (d := d) hpos
  have hle : (m_chances RA i).toInt ≤ 40 := by rw [e]; omega
  have hb0 : (RA 12 i).toNatClampNeg ≠ 0 := fun q => by
    rw [e, q, show sm (tT RA i) 0 0 = 0 from rfl] at hpos
    exact absurd hpos (by decide)
  have q := dr_L (v2 := d - d / m_chances RA i * m_chances RA i) hP hM hz hi hs (by rw [r1]; omega) (by rw [r1]; omega) (RA 12 i).toNatClampNeg 0 0 (d - d / m_chances RA i * m_chances RA i) (by omega) (by decide) (by decide) (by rw [ti_0]; omega) (by rw [← e, r1]; omega) (fun z => absurd z hb0)
  rw [show (RA 12 i).toNatClampNeg + (4 - (RA 12 i).toNatClampNeg) = 4 by omega] at q
  exact q
theorem db_L {v1 : Int32} (hP : sP (PL 0) ps RA RS RN) (hM : mI RA RS RN) (hz : rS RA RN) (hC : mC RA RS RN) (hs : ∀ i, i < RN 4 → VL 0 2 i = RA 22 i) :
    ∀ (n i : Nat) (f g : Nat → Int32), i + n ≤ RN 4 → (∀ j, j < i → bt (RS 26) j = true → f j = g j) → ∀ j, j < i + n → bt (RS 26) j = true → o_drawBearings_L2 VL PL v1 n i f j = m_drawBears_L2 RA RS v1 n i g j := by
  have h8 := mI_many hM
  intro n
  induction n with
  | zero => intro i f g _ h j hj hb; rw [o_drawBearings_L2.eq_1, m_drawBears_L2.eq_1]; exact h j (by omega) hb
  | succ n ih =>
    intro i f g hin h j hj hb
    rw [o_drawBearings_L2.eq_2, m_drawBears_L2.eq_2]
    have ec : v_chances (VL 0) (PL 0) (nI i) = m_chances RA i := ch_eq hP hM hz (by omega) (hs i (by omega))
    have em : m_chances (va_up RA 41 g) i = m_chances RA i := be_cg (RA := va_up RA 41 g) (RA' := RA) rfl rfl rfl rfl 1000000
    unfold m_drawBears_b2 m_drawBears_b2_k42
    rw [em]
    have st : ∀ x y, (bt (RS 26) i = true → x = y) → ∀ k, k < i + 1 → bt (RS 26) k = true → upd f i x k = upd g i y k := fun x y e k hk hkb => by
      by_cases z : k = i
      · rw [z, pk_us, pk_us]; exact e (by rw [← z]; exact hkb)
      · rw [pk_un z, pk_un z]; exact h k (by omega) hkb
    have st0 : ∀ x, bt (RS 26) i = false → ∀ k, k < i + 1 → bt (RS 26) k = true → upd f i x k = g k := fun x e k hk hkb => by
      by_cases z : k = i
      · rw [z, e] at hkb; exact absurd hkb (by decide)
      · rw [pk_un z]; exact h k (by omega) hkb
    rw [rs_in (by omega) (by omega), rs_in (by omega) (by omega), ec]
    by_cases c : m_has (RS 26) (nI i) = 0
    · rw [if_pos c]
      rw [bt_has0 _ (by omega)] at c
      by_cases c2 : m_chances RA i = 0
      · rw [if_pos c2]; exact ih (i + 1) _ _ (by omega) (st0 _ c) j (by omega) hb
      · rw [if_neg c2]; exact ih (i + 1) _ _ (by omega) (st0 _ c) j (by omega) hb
    · rw [if_neg c]
      have c2 := hC i (by omega) c
      rw [if_neg c2, ba_eq hP hM hz (by omega) (hs i (by omega)) c2]
      exact ih (i + 1) _ _ (by omega) (st _ _ (fun _ => rfl)) j (by omega) hb
theorem sk_eq (hP : sP pl ps RA RS RN) {k : Nat} (hk : k < 3) (h11 : vs 11 = nI k) (v1 : Int32) : o_drawSky vs pl v1 = nI (if RA 14 (3 * k) ≤ (m_draw v1 (vs 10) 98 - m_draw v1 (vs 10) 98 / 10 * 10) then (if RA 14 (3 * k) + RA 14 (3 * k + 1) ≤ (m_draw v1 (vs 10) 98 - m_draw v1 (vs 10) 98 / 10 * 10) then 2 else 1) else 0) := by
  unfold o_drawSky
  rw [draw_eq]
  generalize m_draw v1 (vs 10) 98 - m_draw v1 (vs 10) 98 / 10 * 10 = d
  have e : ∀ j, j < 3 → p_tenthsOfNext pl (vs 11) (nI j) = RA 14 (3 * k + j) := fun j hj => by
    unfold p_tenthsOfNext
    rw [h11, nx3, rg_in (by omega) (by omega)]
    exact hP.2.2.2.2.1 _ (by omega)
  rw [o_drawSky_L20.eq_2, o_drawSky_L20.eq_2, o_drawSky_L20.eq_2, o_drawSky_L20.eq_1, e 0 (by omega), e 1 (by omega), e 2 (by omega), Int32.zero_add]
  by_cases c : RA 14 (3 * k) ≤ d
  · rw [if_pos (show RA 14 (3 * k + 0) ≤ d from c), if_pos c]
    by_cases c2 : RA 14 (3 * k) + RA 14 (3 * k + 1) ≤ d
    · rw [if_pos (show RA 14 (3 * k + 0) + RA 14 (3 * k + 1) ≤ d from c2), if_pos c2]
      split <;> rfl
    · rw [if_neg (show ¬ RA 14 (3 * k + 0) + RA 14 (3 * k + 1) ≤ d from c2), if_neg c2]
  · rw [if_neg (show ¬ RA 14 (3 * k + 0) ≤ d from c), if_neg c]
theorem wo_L (hP : sP (PL 0) (PS 0) RA RS RN) (v : Int32) (h8 : RN 4 ≤ 8) : ∀ (n i : Nat) (acc : Int32), i + n ≤ RN 4 → o_worthOf_L4 PL PS v n i acc = m_night_L264 RA RS v n i acc := by
  intro n
  induction n with
  | zero => intro i acc _; rw [o_worthOf_L4.eq_1, m_night_L264.eq_1]
  | succ n ih =>
    intro i acc hin
    have ew : p_worthWithLives (PL 0) (PS 0) (nI i) = RA 7 i + RS 20 * RA 9 i := by
      unfold p_worthWithLives
      rw [rg_in (by omega) (by omega), rg_in (by omega) (by omega), (hP.2.1 i (by omega)).2.1.1, (hP.2.1 i (by omega)).2.2.1, hP.2.2.2.2.2.2.2.2]
    rw [o_worthOf_L4.eq_2, m_night_L264.eq_2, ew, Int32.add_zero]
    by_cases c : bt v i = true
    · rw [if_pos ((bt_c v (by omega)).mpr c), if_neg (show ¬ m_has v (nI i) = 0 from fun q => by rw [bt_has0 _ (by omega), c] at q; exact absurd q (by decide))]
      exact ih _ _ (by omega)
    · rw [if_neg (show ¬ ((v >>> ((nI i) &&& 31)) &&& 1) = 1 from fun q => c ((bt_c v (by omega)).mp q)), if_pos (show m_has v (nI i) = 0 from (bt_has0 _ (by omega)).mpr (by simpa using c))]
      exact ih _ _ (by omega)
end SDRAW2
