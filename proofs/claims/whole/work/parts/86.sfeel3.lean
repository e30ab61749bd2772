/-! all roofs feel: what is alike stays alike, and standing roofs have chances again -/
/-- as sD, but for the chances of standing roofs -/
def sE (vl : Nat → Nat → Int32) (vs : Nat → Int32) (pl : Nat → Nat → Int32) (ps : Nat → Int32) (RA : Nat → Nat → Int32) (RS : Nat → Int32) (RN : Nat → Nat) : Prop :=
  ((sP pl ps RA RS RN ∧ mI RA RS RN) ∧ rS RA RN ∧ rB RA RS RN) ∧
  ((eqF (2 * RN 4) (vl 1) (RA 21) ∧ eqF (RN 4) (vl 2) (RA 22)) ∧ (eqF (RN 4) (vl 3) (RA 23) ∧ eqF (RN 4) (vl 4) (RA 25)) ∧ ∀ i k, i < RN 4 → k < (RA 25 i).toNatClampNeg → vl 5 (3 * i + k) = RA 24 (3 * i + k)) ∧
  ((vs 8 = RS 26 ∧ vs 9 = RS 30) ∧ (vs 10 = RS 27 ∧ vs 11 = nI (RN 28)) ∧ vs 12 = nI (RN 29) ∧ RN 29 < 2 * RN 4) ∧
  ((∀ j, j < 2 * RN 4 → 0 ≤ (RA 21 j).toInt ∧ (RA 21 j).toInt ≤ 999) ∧ (∀ i, i < RN 4 → bt (RS 26) i = false → RA 21 (2 * i) = 0 ∧ RA 21 (2 * i + 1) = 0) ∧ zB (RS 26) (RN 4)) ∧
  (∀ j, j < 24 → 0 ≤ (RA 24 j).toInt) ∧ 0 ≤ (RS 30).toInt ∧ (RS 30).toInt ≤ 20
section SFEEL3
variable {vl pl : Nat → Nat → Int32} {vs ps : Nat → Int32} {RA : Nat → Nat → Int32} {RS : Nat → Int32} {RN : Nat → Nat}
theorem sD.E (h : sD vl vs pl ps RA RS RN) : sE vl vs pl ps RA RS RN := ⟨⟨h.1.1, h.1.2.1⟩, h.2⟩
theorem feel_D (h : sE vl vs pl ps RA RS RN) :
    sD (va_up (va_up (va_up vl 1 (v_feelAll vl vs pl ps).2.1) 2 (v_feelAll vl vs pl ps).2.2.1) 3 (v_feelAll vl vs pl ps).2.2.2.1) (va_up vs 8 (v_feelAll vl vs pl ps).2.2.2.2) pl ps
      (va_up (va_up (va_up (va_up (va_up (va_up RA 21 (m_feel RA RS RN).1) 22 (m_feel RA RS RN).2.1) 23 (m_feel RA RS RN).2.2.1) 36 (m_feel RA RS RN).2.2.2.1) 37 (m_feel RA RS RN).2.2.2.2.1) 39 (m_feel RA RS RN).2.2.2.2.2.1) (va_up (va_up RS 26 (m_feel RA RS RN).2.2.2.2.2.2.1) 38 (m_feel RA RS RN).2.2.2.2.2.2.2) RN ∧
    (v_feelAll vl vs pl ps).1 = RS 26 &&& ((m_feel RA RS RN).2.2.2.2.2.2.1 ^^^ (-1)) := by
  obtain ⟨⟨⟨hP, hM⟩, hz, hB⟩, ⟨⟨e1, e2⟩, ⟨e3, e4⟩, e5⟩, ⟨⟨v8, v9⟩, ⟨v10, v11⟩, v12, told⟩, ⟨w1, w2, w3⟩, w5, cr⟩ := h
  have h8 := mI_many hM
  obtain ⟨l1, l2, l3, l4⟩ := load_eq RA RS
  have hfe := fe_L (vl := vl) (vs := vs) (pl := pl) (ps := ps) (RA := RA) (RS := RS) (RN := RN) hP hM (S0 := RS 26) (a36 := (m_load RA RS).1) (a37 := (m_load RA RS).2.1) (a39 := (m_load RA RS).2.2.1) (s38 := (m_load RA RS).2.2.2) e4 (fun i k hi hk => by
    have := mI_pm hM i (by omega)
    rw [e5 i k hi hk]; exact (l2 _ (by omega)).symm) (fun j hj => by rw [l1 j (by omega)]; exact w1 j hj) (RN 4) 0 0 (vl 1) (vl 2) (vl 3) (RA 21) (RA 22) (RA 23) (RS 26) (by omega)
    ⟨⟨e1, fun j _ hj => (l1 j (by omega)).symm, e2, e3⟩, ⟨fun k hk => by rw [b_0]; cases bt (RS 26) k <;> rfl, w3, fun k hk q => q⟩, hz, w1, w2, fun j hj => absurd hj (Nat.not_lt_zero j)⟩
  have ec : v_feelAll vl vs pl ps = v_feelAll_L4 vl vs pl ps (RN 4) 0 0 (vl 1) (vl 2) (vl 3) (RS 26) := by
    unfold v_feelAll v_feelAll_k4
    rw [hP.1, nI_clamp (by omega), v8]
  obtain ⟨C, hC⟩ : ∃ C, C = v_feelAll_L4 vl vs pl ps (RN 4) 0 0 (vl 1) (vl 2) (vl 3) (RS 26) := ⟨_, rfl⟩
  obtain ⟨N, hN⟩ : ∃ N, N = m_feel_L6 RA RS (m_load RA RS).1 (m_load RA RS).2.1 (m_load RA RS).2.2.1 (m_load RA RS).2.2.2 (RN 4) 0 (RA 21) (RA 22) (RA 23) (RS 26) := ⟨_, rfl⟩
  have em : m_feel RA RS RN = (N.1, N.2.1, N.2.2.1, (m_load RA RS).1, (m_load RA RS).2.1, (m_load RA RS).2.2.1, N.2.2.2, (m_load RA RS).2.2.2) := by
    unfold m_feel m_feel_k6
    rw [← hN]
  rw [← hC, ← hN] at hfe
  rw [ec, ← hC, em]
  obtain ⟨⟨⟨a1, -, a3, a4⟩, ⟨b1, b2, b3⟩, c1, c2, c3, c4⟩, hS⟩ := hfe
  refine ⟨⟨⟨⟨hP, hM⟩, ⟨c1, hB⟩, fun i hi hs => ?_⟩, ⟨⟨a1, a3⟩, ⟨a4, e4⟩, e5⟩, ⟨⟨hS, v9⟩, ⟨v10, v11⟩, v12, told⟩, ⟨c2, c3, b2⟩, w5, cr⟩, ?_⟩
  · have hs : ¬ m_has N.2.2.2 (nI i) = 0 := hs
    rw [bt_has0 _ (by omega)] at hs
    have q := c4 i (by rw [Nat.zero_add]; exact hi) hi (by cases h9 : bt N.2.2.2 i <;> simp_all)
    unfold m_chances at q ⊢
    rw [be_cg (RA := va_up (va_up (va_up (va_up (va_up (va_up RA 21 N.1) 22 N.2.1) 23 N.2.2.1) 36 (m_load RA RS).1) 37 (m_load RA RS).2.1) 39 (m_load RA RS).2.2.1) (RA' := va_up RA 22 N.2.1) rfl rfl rfl rfl]
    exact q
  · apply b_ext
    intro k hk
    rw [b1 k hk, b_and, bt_not _ hk]
end SFEEL3
section SHOUR3
variable {vl pl : Nat → Nat → Int32} {vs vs' ps : Nat → Int32} {RA : Nat → Nat → Int32} {RS : Nat → Int32} {RN : Nat → Nat} {B : Int}
/-- an hour without its peaks -/
theorem wx0 (h0 : sH vl vs pl ps RA RS RN 999) (hw : ∀ j, j < 24 → 0 ≤ (RA 37 j).toInt) {k : Nat} (hk : k < 3) {f g : Nat → Int32} (e : eqF (2 * RN 4) f g) (w : rW (va_up RA 36 g) RS RN B) (hB : B ≤ 100000) :
    (eqF (2 * RN 4) (v_passWeather (va_up vl 1 f) vs pl ps (nI k)).1 (m_goHour_k3 RA RS RN g k).1 ∧ rW (va_up RA 36 (m_goHour_k3 RA RS RN g k).1) RS RN 999) ∧
    ((∀ i k', i < RN 4 → k' < (RA 25 i).toNatClampNeg → (v_passWeather (va_up vl 1 f) vs pl ps (nI k)).2.1 (3 * i + k') = (m_goHour_k3 RA RS RN g k).2.1 (3 * i + k')) ∧ ∀ j, j < 24 → 0 ≤ ((m_goHour_k3 RA RS RN g k).2.1 j).toInt) ∧
    (v_passWeather (va_up vl 1 f) vs pl ps (nI k)).2.2.2.1 = vs 10 + 1 ∧ (v_passWeather (va_up vl 1 f) vs pl ps (nI k)).2.2.2.2 = nI k := by
  have h8 := h0.many
  have hh := h0.up e w
  have q := sw_eq hh hB hk
  rw [L38_cg] at q
  obtain ⟨F1, hF1⟩ : ∃ z, z = v_slide (va_up (va_up vl 1 f) 1 (v_letFall (va_up vl 1 f) vs pl ps (nI k))) pl ps := ⟨_, rfl⟩
  obtain ⟨G1, hG1⟩ : ∃ z, z = m_goHour_L38 RA RS RN k 16 0 g := ⟨_, rfl⟩
  obtain ⟨F5, hF5⟩ : ∃ z, z = v_bringPropsNearer (va_up (va_up vl 1 f) 1 F1) := ⟨_, rfl⟩
  obtain ⟨G5, hG5⟩ : ∃ z, z = m_goHour_L169 24 0 (RA 37) := ⟨_, rfl⟩
  have q : eqF (2 * RN 4) F1 G1 ∧ rW (va_up RA 36 G1) RS RN 999 := by
    rw [hF1, hG1]
    have q2 := q.2
    rw [va_uu] at q2
    exact ⟨q.1, q2⟩
  have q5 : ∀ j, j < 24 → F5 j = jmax (vl 5 j - 1) 0 := fun j hj => by
    rw [hF5]
    have z := bp_eq (vl := va_up (va_up vl 1 f) 1 F1) (f := vl 5) hj
    rw [← z]
    rfl
  have g5n : ∀ j, j < 24 → 0 ≤ (G5 j).toInt ∧ jmax (RA 37 j - 1) 0 = G5 j := fun j hj => by
    have w0 := hw j hj
    have w1 := Int32.toInt_lt (RA 37 j)
    have h1 : (1 : Int32).toInt = 1 := by decide
    have s1 : (RA 37 j - 1).toInt = (RA 37 j).toInt - 1 := by rw [ti_sub (by omega) (by omega), h1]
    rw [hG5, rp_eq hj]
    by_cases c : RA 37 j ≤ 0
    · rw [if_pos c, Int32.sub_zero]
      rw [ti_le, ti_0] at c
      have z : RA 37 j = 0 := Int32.toInt_inj.mp (by rw [ti_0]; omega)
      rw [z]
      exact ⟨by decide, by decide⟩
    · rw [if_neg c]
      rw [ti_le, ti_0] at c
      refine ⟨by omega, ?_⟩
      unfold jmax
      rw [if_neg (by rw [ti_lt, ti_0]; omega)]
  have ew : v_passWeather (va_up vl 1 f) vs pl ps (nI k) = (F1, F5, v_passWeather_L30 (va_up vl 1 f) pl ps F1 F5 (RN 4) 0 (vl 6), vs 10 + 1, nI k) := by
    unfold v_passWeather v_passWeather_k30
    rw [← hF1, ← hF5, h0.P.1, nI_clamp (by omega)]
    rfl
  have em : m_goHour_k3 RA RS RN g k = (G1, G5, m_goHour_L210 RA RS G1 G5 (RN 4) 0 (RA 39)) := by
    unfold m_goHour_k3 m_goHour_k38 m_goHour_k169 m_goHour_k210
    rw [← hG1, ← hG5]
  rw [ew, em]
  refine ⟨q, ⟨fun i k' hi hk2 => ?_, fun j hj => (g5n j hj).1⟩, rfl, rfl⟩
  have hm := mI_pm h0.M i (by omega)
  show F5 (3 * i + k') = G5 (3 * i + k')
  rw [q5 _ (by omega), h0.s5 hi k' hk2, (g5n _ (by omega)).2]
end SHOUR3
