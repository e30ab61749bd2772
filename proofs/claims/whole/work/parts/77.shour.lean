/-! a whole hour; what is lost -/
def sF (vl : Nat → Nat → Int32) (vs : Nat → Int32) (pl : Nat → Nat → Int32) (ps : Nat → Int32) (RA : Nat → Nat → Int32) (RS : Nat → Int32) (RN : Nat → Nat) : Prop :=
  sH vl vs pl ps RA RS RN 999 ∧ pk (RN 4) (vl 6) (RA 39) ∧ ∀ j, j < 24 → 0 ≤ (RA 37 j).toInt
theorem L38_cg {RA : Nat → Nat → Int32} {g : Nat → Int32} {RS : Nat → Int32} {RN : Nat → Nat} {k : Nat} : ∀ (n i : Nat) (f : Nat → Int32), m_goHour_L38 (va_up RA 36 g) RS RN k n i f = m_goHour_L38 RA RS RN k n i f := by
  intro n
  induction n with
  | zero => intro i f; rw [m_goHour_L38.eq_1, m_goHour_L38.eq_1]
  | succ n ih => intro i f; rw [m_goHour_L38.eq_2, m_goHour_L38.eq_2]; simp only [ih]; rfl
theorem L210_cg {RA : Nat → Nat → Int32} {g a b : Nat → Int32} {RS : Nat → Int32} : ∀ (n i : Nat) (f : Nat → Int32), m_goHour_L210 (va_up RA 36 g) RS a b n i f = m_goHour_L210 RA RS a b n i f := by
  intro n
  induction n with
  | zero => intro i f; rw [m_goHour_L210.eq_1, m_goHour_L210.eq_1]
  | succ n ih => intro i f; rw [m_goHour_L210.eq_2, m_goHour_L210.eq_2]; simp only [ih, va_uu]
section SHOUR2
variable {vl pl : Nat → Nat → Int32} {vs vs' ps : Nat → Int32} {RA : Nat → Nat → Int32} {RS : Nat → Int32} {RN : Nat → Nat} {B : Int}
theorem sH.setS (h : sH vl vs pl ps RA RS RN B) (e : vs' 8 = vs 8) : sH vl vs' pl ps RA RS RN B := ⟨h.1, h.2.1, ⟨h.V.1, h.V.2.1, h.V.2.2.1, e.trans h.v8⟩, h.2.2.2⟩
theorem wx_eq (h : sF vl vs pl ps RA RS RN) {k : Nat} (hk : k < 3) {f g : Nat → Int32} (e : eqF (2 * RN 4) f g) (w : rW (va_up RA 36 g) RS RN B) (hB : B ≤ 100000) (e8 : vs' 8 = vs 8) :
    sF (nV vl (v_passWeather (va_up vl 1 f) vs pl ps (nI k)).1 (v_passWeather (va_up vl 1 f) vs pl ps (nI k)).2.1 (v_passWeather (va_up vl 1 f) vs pl ps (nI k)).2.2.1) vs' pl ps (nR RA (m_goHour_k3 RA RS RN g k).1 (m_goHour_k3 RA RS RN g k).2.1 (m_goHour_k3 RA RS RN g k).2.2) RS RN ∧
    (v_passWeather (va_up vl 1 f) vs pl ps (nI k)).2.2.2.1 = vs 10 + 1 ∧ (v_passWeather (va_up vl 1 f) vs pl ps (nI k)).2.2.2.2 = nI k := by
  obtain ⟨h0, hp, hw⟩ := h
  have h8 := h0.many
  have hh := h0.up e w
  have q := sw_eq hh hB hk
  rw [L38_cg] at q
  obtain ⟨F1, hF1⟩ : ∃ z, z = v_slide (va_up (va_up vl 1 f) 1 (v_letFall (va_up vl 1 f) vs pl ps (nI k))) pl ps := ⟨_, rfl⟩
  obtain ⟨G1, hG1⟩ : ∃ z, z = m_goHour_L38 RA RS RN k 16 0 g := ⟨_, rfl⟩
  obtain ⟨F5, hF5⟩ : ∃ z, z = v_bringPropsNearer (va_up (va_up vl 1 f) 1 F1) := ⟨_, rfl⟩
  obtain ⟨G5, hG5⟩ : ∃ z, z = m_goHour_L169 24 0 (RA 37) := ⟨_, rfl⟩
  have q : eqF (2 * RN 4) F1 G1 ∧ rW (va_up (va_up RA 36 g) 36 G1) RS RN 999 := by rw [hF1, hG1]; exact q
  have q5 : ∀ j, j < 24 → F5 j = jmax (vl 5 j - 1) 0 := fun j hj => by
    rw [hF5]
    have z := bp_eq (vl := va_up (va_up vl 1 f) 1 F1) (f := vl 5) hj
    rw [← z]
    rfl
  have g5 : ∀ j, j < 24 → G5 j = if RA 37 j ≤ 0 then RA 37 j - 0 else RA 37 j - 1 := fun j hj => by rw [hG5]; exact rp_eq hj
  have g5n : ∀ j, j < 24 → 0 ≤ (G5 j).toInt ∧ jmax (RA 37 j - 1) 0 = G5 j := fun j hj => by
    have w0 := hw j hj
    have w1 := Int32.toInt_lt (RA 37 j)
    have h1 : (1 : Int32).toInt = 1 := by decide
    have s1 : (RA 37 j - 1).toInt = (RA 37 j).toInt - 1 := by rw [ti_sub (by omega) (by omega), h1]
    rw [g5 j hj]
    by_cases c : RA 37 j ≤ 0
    · rw [if_pos c, Int32.sub_zero]
      rw [ti_le, ti_0] at c
      have z : RA 37 j = 0 := Int32.toInt_inj.mp (by rw [ti_0]; omega)
      rw [z]
      exact ⟨by decide, by decide⟩
    · rw [if_neg c]
      rw [ti_le, ti_0] at c
      refine ⟨by omega, ?_⟩
      unfold jmax
      rw [if_neg (by rw [ti_lt, ti_0]; omega)]
  have e5 : ∀ i k, i < RN 4 → k < (RA 25 i).toNatClampNeg → F5 (3 * i + k) = G5 (3 * i + k) := fun i k hi hk2 => by
    have hm := mI_pm h0.M i (by omega)
    rw [q5 _ (by omega), h0.s5 hi k hk2, (g5n _ (by omega)).2]
  have pk1 := pk_L hh q.1 q.2 e5 (RN 4) 0 (vl 6) (RA 39) (by omega) hp
  rw [L210_cg] at pk1
  have fin := hh.nest (f6 := v_passWeather_L30 (va_up vl 1 f) pl ps F1 F5 (RN 4) 0 (vl 6)) (g39 := m_goHour_L210 RA RS G1 G5 (RN 4) 0 (RA 39)) q.1 q.2 e5
  have en : nV (va_up vl 1 f) F1 F5 (v_passWeather_L30 (va_up vl 1 f) pl ps F1 F5 (RN 4) 0 (vl 6)) = nV vl F1 F5 (v_passWeather_L30 (va_up vl 1 f) pl ps F1 F5 (RN 4) 0 (vl 6)) := by unfold nV; rw [va_uu]
  have en2 : nR (va_up RA 36 g) G1 G5 (m_goHour_L210 RA RS G1 G5 (RN 4) 0 (RA 39)) = nR RA G1 G5 (m_goHour_L210 RA RS G1 G5 (RN 4) 0 (RA 39)) := by unfold nR; rw [va_uu]
  rw [en, en2] at fin
  have ew : v_passWeather (va_up vl 1 f) vs pl ps (nI k) = (F1, F5, v_passWeather_L30 (va_up vl 1 f) pl ps F1 F5 (RN 4) 0 (vl 6), vs 10 + 1, nI k) := by
    unfold v_passWeather v_passWeather_k30
    rw [← hF1, ← hF5, h0.P.1, nI_clamp (by omega)]
    rfl
  have em : m_goHour_k3 RA RS RN g k = (G1, G5, m_goHour_L210 RA RS G1 G5 (RN 4) 0 (RA 39)) := by
    unfold m_goHour_k3 m_goHour_k38 m_goHour_k169 m_goHour_k210
    rw [← hG1, ← hG5]
  rw [ew, em]
  exact ⟨⟨sH.setS fin e8, pk1, fun j hj => (g5n j hj).1⟩, rfl, rfl⟩
theorem hr_eq (h : sF vl vs pl ps RA RS RN) {k : Nat} (hk : k < 3) (r : Int32) (ht : r = 3 → vs 12 = nI (RN 29) ∧ RN 29 < 2 * RN 4) {hands : Int32} (hn : hands.toNatClampNeg ≤ 100) (e8 : vs' 8 = vs 8) :
    sF (nV vl (v_passHour vl vs pl ps r (nI k) hands).1 (v_passHour vl vs pl ps r (nI k) hands).2.1 (v_passHour vl vs pl ps r (nI k) hands).2.2.1) vs' pl ps (nR RA (m_goHour RA RS RN r k hands (-4)).1 (m_goHour RA RS RN r k hands (-4)).2.1 (m_goHour RA RS RN r k hands (-4)).2.2) RS RN ∧
    (v_passHour vl vs pl ps r (nI k) hands).2.2.2.1 = vs 10 + 1 ∧ (v_passHour vl vs pl ps r (nI k) hands).2.2.2.2 = nI k := by
  have q := hh_L h.1 hk r ht hands.toNatClampNeg 0 (vl 1) (RA 36) 999 (by omega) h.1.e1 (by rw [va_eta]; exact h.1.W)
  exact wx_eq h hk q.1 q.2 (by omega) e8
theorem ha_eq (h : sF vl vs pl ps RA RS RN) {k : Nat} (hk : k < 3) (r : Int32) {s : Nat} (hs : s = 16 ∨ s < 2 * RN 4) {hands : Int32} (hn : hands.toNatClampNeg ≤ 100) (e8 : vs' 8 = vs 8) :
    sF (nV vl (v_passHourAt vl vs pl ps (nI s) (nI k) hands).1 (v_passHourAt vl vs pl ps (nI s) (nI k) hands).2.1 (v_passHourAt vl vs pl ps (nI s) (nI k) hands).2.2.1) vs' pl ps (nR RA (m_goHour RA RS RN r k hands (nI s)).1 (m_goHour RA RS RN r k hands (nI s)).2.1 (m_goHour RA RS RN r k hands (nI s)).2.2) RS RN ∧
    (v_passHourAt vl vs pl ps (nI s) (nI k) hands).2.2.2.1 = vs 10 + 1 ∧ (v_passHourAt vl vs pl ps (nI s) (nI k) hands).2.2.2.2 = nI k := by
  have q := ha_L h.1 (k := k) r hs hands.toNatClampNeg 0 (vl 1) (RA 36) 999 (by omega) h.1.e1 (by rw [va_eta]; exact h.1.W)
  exact wx_eq h hk q.1 q.2 (by omega) e8
theorem be_low (hM : mI RA RS RN) (hB : rB RA RS RN) {i : Nat} (hi : i < RN 4) {e : Int32} (he : e.toInt ≤ 0) : m_below RA i e = 0 := by
  have h8 := mI_many hM
  rw [be_eq hM (by omega)]
  refine sm_zero _ _ (fun k h1 h2 => ?_)
  rw [if_neg]
  intro q
  apply q.2
  have := hB.2.1 i k hi (by omega)
  rw [ti_le]; omega
theorem cg_eq (h : sF vl vs pl ps RA RS RN) {i : Nat} (hi : i < RN 4) : v_chancesGone vl pl (nI i) = m_below RA i (RA 39 i) := by
  have h8 := h.1.many
  unfold v_chancesGone
  rw [rg_in (by omega) (by omega), cb_eq h.1.P h.1.M h.1.z hi (h.1.s2 hi)]
  rcases h.2.1 i hi with e | ⟨e1, e2⟩
  · rw [e]
  · rw [e1, be_low h.1.M h.1.b hi (by decide), be_low h.1.M h.1.b hi e2]
theorem lo_L (h : sF vl vs pl ps RA RS RN) (hC : mC RA RS RN) (e26 : RS 26 = RS 38) : ∀ (n i : Nat) (acc : Int64), i + n ≤ RN 4 → v_lossSoFar_L4 vl vs pl ps n i acc = m_lost_L4 RA RS n i acc := by
  have h8 := h.1.many
  have hz : zB (vs 8) (RN 4) := by rw [h.1.v8]; exact h.1.W.2.2
  intro n
  induction n with
  | zero => intro i acc _; rw [v_lossSoFar_L4.eq_1, m_lost_L4.eq_1]
  | succ n ih =>
    intro i acc hin
    have hi : i < RN 4 := by omega
    rw [v_lossSoFar_L4.eq_2, m_lost_L4.eq_2, ch_eq h.1.P h.1.M h.1.z hi (h.1.s2 hi), cg_eq h hi]
    have e1 : v_stands vs ps (nI i) = m_has (RS 26) (nI i) := by rw [st_eq h.1.P.1 h8 hz (by omega), h.1.v8, e26]
    rw [e1]
    by_cases c : m_has (RS 26) (nI i) = 0
    · rw [if_pos c, if_pos c]; exact ih (i + 1) acc (by omega)
    · rw [if_neg c, if_neg c]
      have hne := hC i hi c
      have hnn : 0 ≤ (m_chances RA i).toInt := by refine m_chances_nn h.1.M ?_ ?_ (by omega) <;> rfl
      have h0 : ¬ m_chances RA i ≤ 0 := fun q => hne (Int32.toInt_inj.mp (by rw [ti_le, ti_0] at q; rw [ti_0]; omega))
      rw [if_neg h0]
      have ew : p_worthWithLives pl ps (nI i) = RA 7 i + RS 20 * RA 9 i := by
        unfold p_worthWithLives
        rw [rg_in (by omega) (by omega), rg_in (by omega) (by omega), (h.1.P.2.1 i hi).2.1.1, (h.1.P.2.1 i hi).2.2.1, h.1.P.2.2.2.2.2.2.2.2]
      rw [ew]
      exact ih (i + 1) _ (by omega)
theorem lo_eq (h : sF vl vs pl ps RA RS RN) (hC : mC RA RS RN) (e26 : RS 26 = RS 38) : v_lossSoFar vl vs pl ps = m_lost RA RS RN := by
  have h8 := h.1.many
  unfold v_lossSoFar v_lossSoFar_k4 m_lost m_lost_k4
  rw [h.1.P.1, nI_clamp (by omega), lo_L h hC e26 (RN 4) 0 0 (by omega)]
end SHOUR2
