/-! all that is alike of a village and the reference's view, in one -/
def sH (vl : Nat → Nat → Int32) (vs : Nat → Int32) (pl : Nat → Nat → Int32) (ps : Nat → Int32) (RA : Nat → Nat → Int32) (RS : Nat → Int32) (RN : Nat → Nat) (B : Int) : Prop :=
  (sP pl ps RA RS RN ∧ mI RA RS RN) ∧ (rS RA RN ∧ rB RA RS RN) ∧ sV vl vs RA RS RN ∧ rW RA RS RN B
section SHOUR
variable {vl pl : Nat → Nat → Int32} {vs ps : Nat → Int32} {RA : Nat → Nat → Int32} {RS : Nat → Int32} {RN : Nat → Nat} {B : Int}
theorem sH.P (h : sH vl vs pl ps RA RS RN B) : sP pl ps RA RS RN := h.1.1
theorem sH.M (h : sH vl vs pl ps RA RS RN B) : mI RA RS RN := h.1.2
theorem sH.z (h : sH vl vs pl ps RA RS RN B) : rS RA RN := h.2.1.1
theorem sH.b (h : sH vl vs pl ps RA RS RN B) : rB RA RS RN := h.2.1.2
theorem sH.V (h : sH vl vs pl ps RA RS RN B) : sV vl vs RA RS RN := h.2.2.1
theorem sH.W (h : sH vl vs pl ps RA RS RN B) : rW RA RS RN B := h.2.2.2
theorem sH.many (h : sH vl vs pl ps RA RS RN B) : RN 4 ≤ 8 := mI_many h.M
theorem sH.e1 (h : sH vl vs pl ps RA RS RN B) : eqF (2 * RN 4) (vl 1) (RA 36) := h.V.1
theorem sH.v8 (h : sH vl vs pl ps RA RS RN B) : vs 8 = RS 38 := h.V.2.2.2
theorem sH.s2 (h : sH vl vs pl ps RA RS RN B) {i : Nat} (hi : i < RN 4) : vl 2 i = RA 22 i := (h.V.2.1 i hi).1
theorem sH.s4 (h : sH vl vs pl ps RA RS RN B) {i : Nat} (hi : i < RN 4) : vl 4 i = RA 25 i := (h.V.2.1 i hi).2
theorem sH.s5 (h : sH vl vs pl ps RA RS RN B) {i : Nat} (hi : i < RN 4) : ∀ k, k < (RA 25 i).toNatClampNeg → vl 5 (3 * i + k) = RA 37 (3 * i + k) := fun k hk => h.V.2.2.1 i k hi hk
theorem sH.up {f g : Nat → Int32} {B' : Int} (h : sH vl vs pl ps RA RS RN B) (e : eqF (2 * RN 4) f g) (w : rW (va_up RA 36 g) RS RN B') : sH (va_up vl 1 f) vs pl ps (va_up RA 36 g) RS RN B' := ⟨⟨h.1.1, h.1.2⟩, ⟨h.2.1.1, h.2.1.2⟩, ⟨e, h.V.2.1, h.V.2.2.1, h.V.2.2.2⟩, w⟩
theorem smal_of {x : Int32} (h1 : -1000000 ≤ x.toInt) (h2 : x.toInt ≤ 1000000) : smal x := ⟨h1, h2⟩
theorem sH.load (h : sH vl vs pl ps RA RS RN B) (hB : B ≤ 100000) {i : Nat} (hi : i < RN 4) {x y : Int32} (bx : 0 ≤ x.toInt ∧ x.toInt ≤ 200) (by_ : 0 ≤ y.toInt ∧ y.toInt ≤ 200) : v_loadWith vl pl ps (nI i) x y = m_felt RA RS i x y := by
  have h8 := h.many
  have w1 := h.W.1 (2 * i) (by omega)
  have w2 := h.W.1 (2 * i + 1) (by omega)
  exact ld_eq h.M h.P.2.2.2.2.2.2.1 (by omega) (h.P.2.1 i hi).1.1 (h.e1 _ (by omega)) (h.e1 _ (by omega)) (h.s4 hi) (h.s5 hi) (smal_of (by rw [ti_add (by omega) (by omega)]; omega) (by rw [ti_add (by omega) (by omega)]; omega)) (smal_of (by rw [ti_add (by omega) (by omega)]; omega) (by rw [ti_add (by omega) (by omega)]; omega))
theorem sH.load0 (h : sH vl vs pl ps RA RS RN B) (hB : B ≤ 100000) {i : Nat} (hi : i < RN 4) : v_load vl pl ps (nI i) = m_felt RA RS i 0 0 := by
  have e : v_load vl pl ps (nI i) = v_loadWith vl pl ps (nI i) 0 0 := rfl
  rw [e]
  exact h.load hB hi (by decide) (by decide)
theorem wk_L (h : sH vl vs pl ps RA RS RN B) (hB : B ≤ 100000) {k : Nat} (hk : k < 3) : ∀ (n i : Nat) (x4 x5 x6 y2 y3 y4 : Int32), i + n ≤ RN 4 → ((x4 = -1 ∧ y2 = -4) ∨ ∃ j, j < RN 4 ∧ x4 = nI j ∧ y2 = nI j ∧ x5 = y3 ∧ x6 = y4) →
    ((u_weakest_L42 vl vs pl ps (RA 13 (3 * k)) (RA 13 (3 * k + 1)) n i x4 x5 x6).1 = -1 ∧ (m_weakest_L11 RA RS k n i y2 y3 y4).1 = -4) ∨ ∃ j, j < RN 4 ∧ (u_weakest_L42 vl vs pl ps (RA 13 (3 * k)) (RA 13 (3 * k + 1)) n i x4 x5 x6).1 = nI j ∧ (m_weakest_L11 RA RS k n i y2 y3 y4).1 = nI j := by
  have h8 := h.many
  intro n
  induction n with
  | zero =>
    intro i x4 x5 x6 y2 y3 y4 _ q
    rw [u_weakest_L42.eq_1, m_weakest_L11.eq_1]
    rcases q with q | ⟨j, hj, e1, e2, -, -⟩
    · exact Or.inl q
    · exact Or.inr ⟨j, hj, e1, e2⟩
  | succ n ih =>
    intro i x4 x5 x6 y2 y3 y4 hin q
    have hi : i < RN 4 := by omega
    rw [u_weakest_L42.eq_2, m_weakest_L11.eq_2, h.load hB hi (by have := rB_sky h.b (j := 3 * k) (by omega); omega) (by have := rB_sky h.b (j := 3 * k + 1) (by omega); omega), cb_eq h.P h.M h.z hi (h.s2 hi), ch_eq h.P h.M h.z hi (h.s2 hi)]
    have hs := sn_eq (ps := ps) h.P.1 h8 h.W hB h.e1 h.v8 hi
    by_cases c : m_isLaden RA RS i = 0
    · rw [if_pos (hs.mpr c), if_pos c]; exact ih (i + 1) _ _ _ _ _ _ (by omega) q
    · rw [if_neg (show ¬ u_isSnowy vl vs ps (nI i) = 0 from fun z => c (hs.mp z)), if_neg c]
      rcases q with ⟨e1, e2⟩ | ⟨j, hj, e1, e2, e3, e4⟩
      · rw [e1, e2, if_pos (show (-1 : Int32) < 0 by decide), if_pos rfl]
        exact ih (i + 1) _ _ _ _ _ _ (by omega) (Or.inr ⟨i, hi, rfl, rfl, rfl, rfl⟩)
      · rw [e1, e2, e3, e4, if_neg (show ¬ nI j < 0 from nI_pos (by omega)), if_neg (show ¬ nI j = -4 from nI_n4 (by omega))]
        by_cases z : (m_below RA i (m_felt RA RS i (RA 13 (3 * k)) (RA 13 (3 * k + 1)))) * y4 ≤ y3 * (m_chances RA i)
        · rw [if_pos z, if_pos z]; exact ih (i + 1) _ _ _ _ _ _ (by omega) (Or.inr ⟨j, hj, rfl, rfl, rfl, rfl⟩)
        · rw [if_neg z, if_neg z]; exact ih (i + 1) _ _ _ _ _ _ (by omega) (Or.inr ⟨i, hi, rfl, rfl, rfl, rfl⟩)
theorem wk_eq (h : sH vl vs pl ps RA RS RN B) (hB : B ≤ 100000) {k : Nat} (hk : k < 3) : u_deeperSide vl (u_weakest vl vs pl ps (nI k)) = nI (m_weakest RA RS RN k) ∧ (m_weakest RA RS RN k = 16 ∨ m_weakest RA RS RN k < 2 * RN 4) := by
  have h8 := h.many
  have q := wk_L h hB hk (RN 4) 0 (-1) 0 0 (-4) 0 1 (by omega) (Or.inl ⟨rfl, rfl⟩)
  unfold u_weakest u_weakest_k42 m_weakest m_weakest_k11
  rw [nx21, nx2, rg_in (by omega) (by omega), rg_in (by omega) (by omega), (h.P.2.2.2.1 k hk).1, (h.P.2.2.2.1 k hk).2.1, h.P.1, nI_clamp (by omega)]
  rcases q with ⟨e1, e2⟩ | ⟨j, hj, e1, e2⟩
  · rw [e1, e2, if_pos rfl, sd_no]; exact ⟨rfl, Or.inl rfl⟩
  · rw [e1, e2, if_neg (nI_n4 (by omega)), nI_clamp (by omega)]
    have := sd_eq h.e1 h8 hj
    exact ⟨this.1, Or.inr this.2⟩
/-- a hand by a rule -/
theorem cc_eq (h : sH vl vs pl ps RA RS RN B) (hB : B ≤ 100000) {k : Nat} (hk : k < 3) (r : Int32) (ht : r = 3 → vs 12 = nI (RN 29) ∧ RN 29 < 2 * RN 4) :
    eqF (2 * RN 4) (v_clearAt vl vs pl ps (u_choose vl vs pl ps r (nI k))) (m_clear RA RS (m_chosen RA RS RN r k)) ∧ rW (va_up RA 36 (m_clear RA RS (m_chosen RA RS RN r k))) RS RN (B + 50) := by
  have h8 := h.many
  have cl := fun s hs => cl_eq (s := s) h.P h.M (rB_clears h.b) (rB_thr h.b) h.W hB h.e1 h.v8 hs
  have no := cl_no (vl := vl) (vs := vs) h.P (rB_clears h.b).1
  have hno : eqF (2 * RN 4) (vl 1) (RA 36) ∧ rW (va_up RA 36 (RA 36)) RS RN (B + 50) := by
    rw [va_eta]
    exact ⟨h.e1, fun j hj => by have := h.W.1 j hj; omega, h.W.2.1, h.W.2.2⟩
  have key : ∀ s, (s = 16 ∨ s < 2 * RN 4) → eqF (2 * RN 4) (v_clearAt vl vs pl ps (nI s)) (m_clear RA RS s) ∧ rW (va_up RA 36 (m_clear RA RS s)) RS RN (B + 50) := by
    intro s hs
    rcases hs with e | e
    · subst e; rw [show nI 16 = 16 from rfl, no.1, no.2]; exact hno
    · exact cl s e
  unfold u_choose m_chosen
  by_cases r0 : r = 0
  · rw [if_pos r0, if_pos r0]
    have q := dp_eq (ps := ps) h.P.1 h8 h.W h.e1 h.v8
    rw [q.1]; exact key _ q.2
  · rw [if_neg r0, if_neg r0]
    by_cases r1 : r = 1
    · rw [if_pos r1, if_pos r1]
      have q := wk_eq h hB hk
      rw [q.1]; exact key _ q.2
    · rw [if_neg r1, if_neg r1]
      by_cases r2 : r = 2
      · rw [if_pos r2, if_pos r2]
        have q := fu_eq h.P h8 h.W hB h.e1 h.v8
        rw [q.1]; exact key _ q.2
      · rw [if_neg r2, if_neg r2]
        by_cases r3 : r = 3
        · obtain ⟨ht, ht2⟩ := ht r3
          rw [if_pos r3, if_pos r3, ht]
          by_cases c : m_lies RA RS (RN 29) = 0
          · rw [if_pos c, no.2]
            have hx : (RA 36 (RN 29)) = 0 := by
              have w := h.W.1 (RN 29) ht2
              rcases (li_0 (by omega)).mp c with q | q
              · have w2 := h.W.2.1 (RN 29 / 2) (by omega) q
                rcases (show RN 29 = 2 * (RN 29 / 2) ∨ RN 29 = 2 * (RN 29 / 2) + 1 by omega) with e | e
                · rw [e]; exact w2.1
                · rw [e]; exact w2.2
              · apply Int32.toInt_inj.mp; rw [ti_0]; omega
            rw [v_clear_0]
            · exact hno
            · rw [rg_in (by omega) (by omega), h.e1 _ ht2, hx]
              unfold jmin
              rw [h.P.2.2.2.2.2.1.2.1, if_pos (by rw [ti_lt, ti_0]; have := (rB_clears h.b).1; omega)]
              decide
          · rw [if_neg c]; exact key _ (Or.inr ht2)
        · rw [if_neg r3, if_neg r3]; exact key 16 (Or.inl rfl)
/-- all hands of an hour by a rule -/
theorem hh_L (h : sH vl vs pl ps RA RS RN B) {k : Nat} (hk : k < 3) (r : Int32) (ht : r = 3 → vs 12 = nI (RN 29) ∧ RN 29 < 2 * RN 4) : ∀ (n i : Nat) (f g : Nat → Int32) (B' : Int), B' + 50 * n ≤ 100000 → eqF (2 * RN 4) f g → rW (va_up RA 36 g) RS RN B' →
    eqF (2 * RN 4) (v_passHour_L3 vl vs pl ps r (nI k) n i f) (m_goHour_L3 RA RS RN r k (-4) n i g) ∧ rW (va_up RA 36 (m_goHour_L3 RA RS RN r k (-4) n i g)) RS RN (B' + 50 * n) := by
  intro n
  induction n with
  | zero => intro i f g B' _ e w; rw [v_passHour_L3.eq_1, m_goHour_L3.eq_1]; exact ⟨e, by rw [show B' + 50 * ((0 : Nat) : Int) = B' by omega]; exact w⟩
  | succ n ih =>
    intro i f g B' hB e w
    rw [v_passHour_L3.eq_2, m_goHour_L3.eq_2, if_pos (show (-4 : Int32) < 0 by decide)]
    have hh := h.up e w
    have q := cc_eq hh (by omega) hk r ht
    have q2 := ih (i + 1) _ _ (B' + 50) (by omega) q.1 q.2
    rw [show B' + 50 * ((n + 1 : Nat) : Int) = B' + 50 + 50 * (n : Int) by omega]
    exact q2
/-- all hands of an hour at one side -/
theorem ha_L (h : sH vl vs pl ps RA RS RN B) {k : Nat} (r : Int32) {s : Nat} (hs : s = 16 ∨ s < 2 * RN 4) : ∀ (n i : Nat) (f g : Nat → Int32) (B' : Int), B' + 50 * n ≤ 100000 → eqF (2 * RN 4) f g → rW (va_up RA 36 g) RS RN B' →
    eqF (2 * RN 4) (v_passHourAt_L3 vl vs pl ps (nI s) n i f) (m_goHour_L3 RA RS RN r k (nI s) n i g) ∧ rW (va_up RA 36 (m_goHour_L3 RA RS RN r k (nI s) n i g)) RS RN (B' + 50 * n) := by
  have h8 := h.many
  intro n
  induction n with
  | zero => intro i f g B' _ e w; rw [v_passHourAt_L3.eq_1, m_goHour_L3.eq_1]; exact ⟨e, by rw [show B' + 50 * ((0 : Nat) : Int) = B' by omega]; exact w⟩
  | succ n ih =>
    intro i f g B' hB e w
    rw [v_passHourAt_L3.eq_2, m_goHour_L3.eq_2, if_neg (show ¬ nI s < 0 from nI_pos (by omega)), nI_clamp (by omega)]
    have hh := h.up e w
    have q : eqF (2 * RN 4) (v_clearAt (va_up vl 1 f) vs pl ps (nI s)) (m_clear (va_up RA 36 g) RS s) ∧ rW (va_up (va_up RA 36 g) 36 (m_clear (va_up RA 36 g) RS s)) RS RN (B' + 50) := by
      rcases hs with e9 | e9
      · subst e9
        have no := cl_no (vl := va_up vl 1 f) (vs := vs) hh.P (rB_clears hh.b).1
        rw [show nI 16 = 16 from rfl, no.1, no.2, va_eta]
        exact ⟨hh.e1, fun j hj => by have := hh.W.1 j hj; omega, hh.W.2.1, hh.W.2.2⟩
      · exact cl_eq hh.P hh.M (rB_clears hh.b) (rB_thr hh.b) hh.W (by omega) hh.e1 hh.v8 e9
    have q2 := ih (i + 1) _ _ (B' + 50) (by omega) q.1 q.2
    rw [show B' + 50 * ((n + 1 : Nat) : Int) = B' + 50 + 50 * (n : Int) by omega]
    exact q2
end SHOUR
