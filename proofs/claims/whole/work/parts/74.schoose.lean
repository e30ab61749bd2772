/-! where a hand works -/
/-- the reference's plan lies within what a text may tell -/
def rB (RA : Nat → Nat → Int32) (RS : Nat → Int32) (RN : Nat → Nat) : Prop :=
  (∀ i, i < RN 4 → (0 ≤ (RA 5 i).toInt ∧ (RA 5 i).toInt ≤ 20) ∧ (0 ≤ (RA 6 i).toInt ∧ (RA 6 i).toInt ≤ 999) ∧ (0 ≤ (RA 7 i).toInt ∧ (RA 7 i).toInt ≤ 999) ∧ (RA 8 i).toInt ≤ 8 ∧ 0 ≤ (RA 9 i).toInt ∧ (RA 9 i).toInt ≤ 99) ∧
  (∀ i k, i < RN 4 → k < (RA 12 i).toNatClampNeg → 1 ≤ (RA 10 (4 * i + k)).toInt) ∧
  (∀ j, j < 9 → 0 ≤ (RA 13 j).toInt ∧ (RA 13 j).toInt ≤ 60) ∧ (∀ j, j < 9 → 0 ≤ (RA 14 j).toInt ∧ (RA 14 j).toInt ≤ 10) ∧
  (0 ≤ (RS 15).toInt ∧ (RS 15).toInt ≤ 9) ∧ (1 ≤ (RS 16).toInt ∧ (RS 16).toInt ≤ 50) ∧ (0 ≤ (RS 17).toInt ∧ (RS 17).toInt ≤ 99) ∧ (0 ≤ (RS 18).toInt ∧ (RS 18).toInt ≤ 200) ∧ (1 ≤ (RS 19).toInt ∧ (RS 19).toInt ≤ 20) ∧ 0 ≤ (RS 20).toInt ∧ (RS 20).toInt ≤ 999
section SCHOOSE
variable {vl pl : Nat → Nat → Int32} {vs ps : Nat → Int32} {RA : Nat → Nat → Int32} {RS : Nat → Int32} {RN : Nat → Nat} {B : Int}
theorem rB_sky (hB : rB RA RS RN) {j : Nat} (hj : j < 9) : 0 ≤ (RA 13 j).toInt ∧ (RA 13 j).toInt ≤ 60 := hB.2.2.1 j hj
theorem rB_hands (hB : rB RA RS RN) : 0 ≤ (RS 15).toInt ∧ (RS 15).toInt ≤ 9 := hB.2.2.2.2.1
theorem rB_clears (hB : rB RA RS RN) : 1 ≤ (RS 16).toInt ∧ (RS 16).toInt ≤ 50 := hB.2.2.2.2.2.1
theorem rB_thr (hB : rB RA RS RN) : ∀ i, i < RN 4 → (RA 8 i).toInt ≤ 8 := fun i hi => (hB.1 i hi).2.2.2.1
theorem li_0 {s : Nat} (hs : s < 64) : m_lies RA RS s = 0 ↔ bt (RS 38) (s / 2) = false ∨ (RA 36 s).toInt ≤ 0 := by
  unfold m_lies
  by_cases c : bt (RS 38) (s / 2) = true
  · rw [if_neg (fun q => by rw [bt_has0 _ (by omega), c] at q; cases q)]
    by_cases c2 : RA 36 s ≤ 0
    · rw [if_pos c2]; rw [ti_le, ti_0] at c2; exact ⟨fun _ => Or.inr c2, fun _ => rfl⟩
    · rw [if_neg c2]; rw [ti_le, ti_0] at c2
      exact ⟨fun q => absurd q (by decide), fun q => by rcases q with q | q
                                                        · rw [c] at q; cases q
                                                        · exact absurd q c2⟩
  · have c' : bt (RS 38) (s / 2) = false := by cases h9 : bt (RS 38) (s / 2) <;> first | rfl | exact absurd h9 c
    rw [if_pos ((bt_has0 _ (by omega)).mpr c')]
    exact ⟨fun _ => Or.inl c', fun _ => rfl⟩
theorem dp_L (hP0 : ps 0 = nI (RN 4)) (h8 : RN 4 ≤ 8) (hW : rW RA RS RN B) (h1 : eqF (2 * RN 4) (vl 1) (RA 36)) (hv : vs 8 = RS 38) : ∀ (n i c : Nat), i + n ≤ 2 * RN 4 → (c = 16 ∨ (c < 2 * RN 4 ∧ 0 < (RA 36 c).toInt)) →
    u_deepest_L5 vl vs ps n i (nI c) = nI (m_deepest_L5 RA RS n i c) ∧ (m_deepest_L5 RA RS n i c = 16 ∨ (m_deepest_L5 RA RS n i c < 2 * RN 4 ∧ 0 < (RA 36 (m_deepest_L5 RA RS n i c)).toInt)) := by
  have hz : zB (vs 8) (RN 4) := by rw [hv]; exact hW.2.2
  intro n
  induction n with
  | zero => intro i c _ hc; rw [u_deepest_L5.eq_1, m_deepest_L5.eq_1]; exact ⟨rfl, hc⟩
  | succ n ih =>
    intro i c hin hc
    rw [u_deepest_L5.eq_2, m_deepest_L5.eq_2, rg_in (n := 16) (k := i) (by omega) (by omega), h1 i (by omega)]
    by_cases s0 : bt (RS 38) (i / 2) = true
    · rw [if_neg (show ¬ v_stands vs ps (nI (i / 2)) = 0 from fun q => by rw [st_bt hP0 h8 hz (by omega), hv, s0] at q; cases q)]
      by_cases p0 : (RA 36 i).toInt ≤ 0
      · rw [if_pos ((li_0 (by omega)).mpr (Or.inr p0))]
        have hr : 0 ≤ (rg 16 (vl 1) (nI c)).toInt := by
          rcases hc with e | ⟨e, e2⟩
          · subst e; rw [rg_out (by omega) (by omega)]; decide
          · rw [rg_in (by omega) (by omega), h1 c e]; omega
        rw [if_pos (by rw [ti_le]; omega)]
        exact ih (i + 1) c (by omega) hc
      · have hl : ¬ m_lies RA RS i = 0 := fun q => by
          rcases (li_0 (by omega)).mp q with q | q
          · rw [s0] at q; cases q
          · exact p0 q
        rw [if_neg hl]
        rcases hc with e | ⟨e, e2⟩
        · subst e
          rw [rg_out (k := 16) (by omega) (by omega), if_neg (by rw [ti_le, ti_0]; exact p0), if_pos (show nI 16 = 16 from rfl)]
          exact ih (i + 1) i (by omega) (Or.inr ⟨by omega, by omega⟩)
        · rw [rg_in (k := c) (by omega) (by omega), h1 c e, if_neg (show ¬ nI c = 16 from fun q => by have := (nI_eq (a := c) (b := 16) (by omega) (by omega)).mp q; omega)]
          by_cases q : RA 36 i ≤ RA 36 c
          · rw [if_pos q, if_pos q]; exact ih (i + 1) c (by omega) (Or.inr ⟨e, e2⟩)
          · rw [if_neg q, if_neg q]; exact ih (i + 1) i (by omega) (Or.inr ⟨by omega, by omega⟩)
    · have s1 : bt (RS 38) (i / 2) = false := by cases h9 : bt (RS 38) (i / 2) <;> first | rfl | exact absurd h9 s0
      rw [if_pos ((st_bt hP0 h8 hz (by omega)).mpr (by rw [hv]; exact s1)), if_pos ((li_0 (by omega)).mpr (Or.inl s1))]
      exact ih (i + 1) c (by omega) hc
theorem dp_rest (hz : zB (RS 38) (RN 4)) : ∀ (n i c : Nat), 2 * RN 4 ≤ i → i + n ≤ 16 → m_deepest_L5 RA RS n i c = c := by
  intro n
  induction n with
  | zero => intro i c _ _; rw [m_deepest_L5.eq_1]
  | succ n ih =>
    intro i c h1 h2
    rw [m_deepest_L5.eq_2, if_pos ((li_0 (by omega)).mpr (Or.inl (hz _ (by omega) (by omega))))]
    exact ih (i + 1) c (by omega) (by omega)
theorem dp_add : ∀ (a b i c : Nat), m_deepest_L5 RA RS (a + b) i c = m_deepest_L5 RA RS b (i + a) (m_deepest_L5 RA RS a i c) := by
  intro a
  induction a with
  | zero => intro b i c; rw [Nat.zero_add, m_deepest_L5.eq_1]; rfl
  | succ a ih =>
    intro b i c
    rw [show a + 1 + b = (a + b) + 1 by omega, m_deepest_L5.eq_2, m_deepest_L5.eq_2 (n := a)]
    rw [show i + (a + 1) = i + 1 + a by omega]
    split
    · exact ih b (i + 1) c
    · split
      · exact ih b (i + 1) i
      · split
        · exact ih b (i + 1) c
        · exact ih b (i + 1) i
theorem dp_eq (hP0 : ps 0 = nI (RN 4)) (h8 : RN 4 ≤ 8) (hW : rW RA RS RN B) (h1 : eqF (2 * RN 4) (vl 1) (RA 36)) (hv : vs 8 = RS 38) : u_deepest vl vs ps = nI (m_deepest RA RS) ∧ (m_deepest RA RS = 16 ∨ m_deepest RA RS < 2 * RN 4) := by
  have h := dp_L (ps := ps) hP0 h8 hW h1 hv (2 * RN 4) 0 16 (by omega) (Or.inl rfl)
  have e : m_deepest RA RS = m_deepest_L5 RA RS (2 * RN 4) 0 16 := by
    unfold m_deepest m_deepest_k5
    rw [show (16 : Nat) = 2 * RN 4 + (16 - 2 * RN 4) by omega, dp_add, show 2 * RN 4 + (16 - 2 * RN 4) = 16 by omega]
    exact dp_rest hW.2.2 _ _ _ (by omega) (by omega)
  unfold u_deepest u_deepest_k5
  rw [hP0, nx2, nI_clamp (by omega), e]
  exact ⟨h.1, by rcases h.2 with q | q
                 · exact Or.inl q
                 · exact Or.inr q.1⟩
theorem sn_eq (hP0 : ps 0 = nI (RN 4)) (h8 : RN 4 ≤ 8) (hW : rW RA RS RN B) (hB : B ≤ 100000) (h1 : eqF (2 * RN 4) (vl 1) (RA 36)) (hv : vs 8 = RS 38) {i : Nat} (hi : i < RN 4) : u_isSnowy vl vs ps (nI i) = 0 ↔ m_isLaden RA RS i = 0 := by
  have hz : zB (vs 8) (RN 4) := by rw [hv]; exact hW.2.2
  have b1 := hW.1 (2 * i) (by omega)
  have b2 := hW.1 (2 * i + 1) (by omega)
  have hs : (RA 36 (2 * i) + RA 36 (2 * i + 1)).toInt = (RA 36 (2 * i)).toInt + (RA 36 (2 * i + 1)).toInt := ti_add (by omega) (by omega)
  have l1 := li_0 (RA := RA) (RS := RS) (s := 2 * i) (by omega)
  have l2 := li_0 (RA := RA) (RS := RS) (s := 2 * i + 1) (by omega)
  rw [show 2 * i / 2 = i by omega] at l1
  rw [show (2 * i + 1) / 2 = i by omega] at l2
  have hU : u_isSnowy vl vs ps (nI i) = 0 ↔ bt (RS 38) i = false ∨ ((RA 36 (2 * i)).toInt ≤ 0 ∧ (RA 36 (2 * i + 1)).toInt ≤ 0) := by
    unfold u_isSnowy
    rw [nx21, nx2, rg_in (by omega) (by omega), rg_in (by omega) (by omega), h1 _ (by omega), h1 _ (by omega)]
    by_cases c : v_stands vs ps (nI i) = 0
    · rw [if_pos c]
      have c9 := (st_bt hP0 h8 hz (by omega)).mp c
      rw [hv] at c9
      exact ⟨fun _ => Or.inl c9, fun _ => rfl⟩
    · rw [if_neg c]
      have c9 : bt (RS 38) i ≠ false := fun q => c ((st_bt hP0 h8 hz (by omega)).mpr (by rw [hv]; exact q))
      by_cases c2 : RA 36 (2 * i) + RA 36 (2 * i + 1) ≤ 0
      · rw [if_pos c2]; rw [ti_le, hs, ti_0] at c2
        exact ⟨fun _ => Or.inr ⟨by omega, by omega⟩, fun _ => rfl⟩
      · rw [if_neg c2]; rw [ti_le, hs, ti_0] at c2
        exact ⟨fun q => absurd q (by decide), fun q => by rcases q with q | q
                                                          · exact absurd q c9
                                                          · omega⟩
  have hR : m_isLaden RA RS i = 0 ↔ m_lies RA RS (2 * i) = 0 ∧ m_lies RA RS (2 * i + 1) = 0 := by
    unfold m_isLaden
    by_cases c : m_lies RA RS (2 * i) = 0
    · rw [if_pos c]
      by_cases c2 : m_lies RA RS (2 * i + 1) = 0
      · rw [if_pos c2]; exact ⟨fun _ => ⟨c, c2⟩, fun _ => rfl⟩
      · rw [if_neg c2]; exact ⟨fun q => absurd q (by decide), fun q => absurd q.2 c2⟩
    · rw [if_neg c]; exact ⟨fun q => absurd q (by decide), fun q => absurd q.1 c⟩
  rw [hU, hR, l1, l2]
  constructor
  · rintro (q | ⟨q1, q2⟩)
    · exact ⟨Or.inl q, Or.inl q⟩
    · exact ⟨Or.inr q1, Or.inr q2⟩
  · rintro ⟨q1, q2⟩
    rcases q1 with q1 | q1
    · exact Or.inl q1
    · rcases q2 with q2 | q2
      · exact Or.inl q2
      · exact Or.inr ⟨q1, q2⟩
theorem sd_eq (h1 : eqF (2 * RN 4) (vl 1) (RA 36)) (h8 : RN 4 ≤ 8) {i : Nat} (hi : i < RN 4) : u_deeperSide vl (nI i) = nI (m_sideOf RA i) ∧ m_sideOf RA i < 2 * RN 4 := by
  unfold u_deeperSide m_sideOf
  rw [if_pos (nI_pos' (by omega)), nx21, nx2, rg_in (by omega) (by omega), rg_in (by omega) (by omega), h1 _ (by omega), h1 _ (by omega)]
  by_cases c : RA 36 (2 * i + 1) ≤ RA 36 (2 * i)
  · rw [if_pos c, if_pos c]; exact ⟨rfl, by omega⟩
  · rw [if_neg c, if_neg c]; exact ⟨rfl, by omega⟩
theorem sd_no : u_deeperSide vl (-1) = 16 := by unfold u_deeperSide; rw [if_neg (by decide)]
theorem nI_n4 {i : Nat} (h : i < 100) : ¬ nI i = -4 := fun q => by
  have := congrArg Int32.toInt q
  rw [nI_toInt (by omega)] at this
  have h2 : (-4 : Int32).toInt = -4 := by decide
  omega
theorem fu_L (hP : sP pl ps RA RS RN) (h8 : RN 4 ≤ 8) (hW : rW RA RS RN B) (hB : B ≤ 100000) (h1 : eqF (2 * RN 4) (vl 1) (RA 36)) (hv : vs 8 = RS 38) : ∀ (n i : Nat) (x y : Int32), i + n ≤ RN 4 → ((x = -1 ∧ y = -4) ∨ ∃ j, j < RN 4 ∧ x = nI j ∧ y = nI j) →
    (u_fullest_L4 vl vs pl ps n i x = -1 ∧ m_fullest_L5 RA RS n i y = -4) ∨ ∃ j, j < RN 4 ∧ u_fullest_L4 vl vs pl ps n i x = nI j ∧ m_fullest_L5 RA RS n i y = nI j := by
  intro n
  induction n with
  | zero => intro i x y _ h; rw [u_fullest_L4.eq_1, m_fullest_L5.eq_1]; exact h
  | succ n ih =>
    intro i x y hin h
    rw [u_fullest_L4.eq_2, m_fullest_L5.eq_2]
    have hs := sn_eq (ps := ps) hP.1 h8 hW hB h1 hv (i := i) (by omega)
    by_cases c : m_isLaden RA RS i = 0
    · rw [if_pos (hs.mpr c), if_pos c]; exact ih (i + 1) x y (by omega) h
    · rw [if_neg (fun q => c (hs.mp q)), if_neg c]
      rcases h with ⟨e1, e2⟩ | ⟨j, hj, e1, e2⟩
      · rw [e1, e2, if_pos (by decide), if_pos rfl]
        exact ih (i + 1) _ _ (by omega) (Or.inr ⟨i, by omega, rfl, rfl⟩)
      · rw [e1, e2, if_neg (nI_pos (by omega)), if_neg (nI_n4 (by omega)), rg_in (by omega) (by omega), rg_in (by omega) (by omega), nI_clamp (by omega), (hP.2.1 i (by omega)).2.2.1, (hP.2.1 j hj).2.2.1]
        by_cases q : RA 9 i ≤ RA 9 j
        · rw [if_pos q, if_pos q]; exact ih (i + 1) _ _ (by omega) (Or.inr ⟨j, hj, rfl, rfl⟩)
        · rw [if_neg q, if_neg q]; exact ih (i + 1) _ _ (by omega) (Or.inr ⟨i, by omega, rfl, rfl⟩)
theorem fu_eq (hP : sP pl ps RA RS RN) (h8 : RN 4 ≤ 8) (hW : rW RA RS RN B) (hB : B ≤ 100000) (h1 : eqF (2 * RN 4) (vl 1) (RA 36)) (hv : vs 8 = RS 38) : u_deeperSide vl (u_fullest vl vs pl ps) = nI (m_fullest RA RS RN) ∧ (m_fullest RA RS RN = 16 ∨ m_fullest RA RS RN < 2 * RN 4) := by
  have h := fu_L (vs := vs) hP h8 hW hB h1 hv (RN 4) 0 (-1) (-4) (by omega) (Or.inl ⟨rfl, rfl⟩)
  unfold u_fullest u_fullest_k4 m_fullest m_fullest_k5
  rw [hP.1, nI_clamp (by omega)]
  rcases h with ⟨e1, e2⟩ | ⟨j, hj, e1, e2⟩
  · rw [e1, e2, if_pos rfl, sd_no]; exact ⟨rfl, Or.inl rfl⟩
  · rw [e1, e2, if_neg (nI_n4 (by omega)), nI_clamp (by omega)]
    have := sd_eq h1 h8 hj
    exact ⟨this.1, Or.inr this.2⟩
end SCHOOSE
