/-! rain -/
section SIM8
variable {ML : Nat → Nat → Int32} {MS : Nat → Int32} {PL : Nat → Nat → Nat → Int32} {PS : Nat → Nat → Int32} {VL : Nat → Nat → Nat → Int32} {VS : Nat → Nat → Int32} {vl pl : Nat → Nat → Int32} {vs ps : Nat → Int32} {RA : Nat → Nat → Int32} {RS : Nat → Int32} {RN : Nat → Nat}
theorem nN_V {b : Nat → Nat → Int32} {a1 a5 a6 f1 f5 f6 g2 g3 g4 : Nat → Int32} : va_up (va_up (va_up (va_up (va_up (va_up b 1 f1) 2 g2) 3 g3) 4 g4) 5 f5) 6 f6 = nV (va_up (va_up (va_up (va_up (va_up (va_up b 1 a1) 2 g2) 3 g3) 4 g4) 5 a5) 6 a6) f1 f5 f6 := by
  funext j
  unfold nV va_up
  by_cases c6 : j = 6
  · simp only [c6, if_pos]
  · by_cases c5 : j = 5
    · subst c5; rfl
    · by_cases c1 : j = 1
      · subst c1; rfl
      · simp only [c6, c5, c1, if_neg, if_false]
theorem nN_W {b : Nat → Int32} {a10 a11 f10 f11 x8 x9 x12 : Int32} : va_up (va_up (va_up (va_up (va_up b 8 x8) 9 x9) 10 f10) 11 f11) 12 x12 = nW (va_up (va_up (va_up (va_up (va_up b 8 x8) 9 x9) 10 a10) 11 a11) 12 x12) f10 f11 := by
  funext j
  unfold nW va_up
  by_cases c1 : j = 12
  · subst c1; rfl
  · by_cases c2 : j = 11
    · subst c2; rfl
    · by_cases c3 : j = 10
      · subst c3; rfl
      · simp only [c1, c2, c3, if_neg, if_false]
theorem ph_none {a b k : Int32} : v_passHour vl vs pl ps a k 0 = v_passHour vl vs pl ps b k 0 := by
  unfold v_passHour
  rw [show (0 : Int32).toNatClampNeg = 0 from rfl, v_passHour_L3.eq_1, v_passHour_L3.eq_1]
theorem ho_none {a : Int32} : hourOk vl vs pl ps RA RS RN a 0 0 (-4) := by
  intro f1 f5 f6 s10 s11 g36 g37 g39 k hk hF
  rw [ph_none (a := a) (b := 0)]
  exact ho_rule (r := 0) (h := 0) (fun q => absurd q (by decide)) (by decide) f1 f5 f6 s10 s11 g36 g37 g39 k hk hF
theorem rain_L {s38 : Int32} : ∀ (n i : Nat) (f1 f5 f6 : Nat → Int32) (s10 s11 : Int32) (g36 g37 g39 : Nat → Int32), sF (nV (nS (VL 3) (VL 0) (VS 0)) f1 f5 f6) (nW (nT (VL 3) (VL 0) (VS 0) (VS 3)) s10 s11) (PL 0) (PS 0) (nR RA g36 g37 g39) (va_up RS 38 s38) RN →
    sF (nV (nS (VL 3) (VL 0) (VS 0)) (o_rain_L26 VL VS PL PS ((v_startFrom (VL 3) (VL 0) (VS 0)).2.1) ((v_startFrom (VL 3) (VL 0) (VS 0)).2.2.1) ((v_startFrom (VL 3) (VL 0) (VS 0)).2.2.2.1) ((v_startFrom (VL 3) (VL 0) (VS 0)).2.2.2.2.2.2.1) ((v_startFrom (VL 3) (VL 0) (VS 0)).2.2.2.2.2.2.2.1) ((v_startFrom (VL 3) (VL 0) (VS 0)).2.2.2.2.2.2.2.2.2.2) n i f1 f5 f6 s10 s11).1 (o_rain_L26 VL VS PL PS ((v_startFrom (VL 3) (VL 0) (VS 0)).2.1) ((v_startFrom (VL 3) (VL 0) (VS 0)).2.2.1) ((v_startFrom (VL 3) (VL 0) (VS 0)).2.2.2.1) ((v_startFrom (VL 3) (VL 0) (VS 0)).2.2.2.2.2.2.1) ((v_startFrom (VL 3) (VL 0) (VS 0)).2.2.2.2.2.2.2.1) ((v_startFrom (VL 3) (VL 0) (VS 0)).2.2.2.2.2.2.2.2.2.2) n i f1 f5 f6 s10 s11).2.1 (o_rain_L26 VL VS PL PS ((v_startFrom (VL 3) (VL 0) (VS 0)).2.1) ((v_startFrom (VL 3) (VL 0) (VS 0)).2.2.1) ((v_startFrom (VL 3) (VL 0) (VS 0)).2.2.2.1) ((v_startFrom (VL 3) (VL 0) (VS 0)).2.2.2.2.2.2.1) ((v_startFrom (VL 3) (VL 0) (VS 0)).2.2.2.2.2.2.2.1) ((v_startFrom (VL 3) (VL 0) (VS 0)).2.2.2.2.2.2.2.2.2.2) n i f1 f5 f6 s10 s11).2.2.1) (nW (nT (VL 3) (VL 0) (VS 0) (VS 3)) (o_rain_L26 VL VS PL PS ((v_startFrom (VL 3) (VL 0) (VS 0)).2.1) ((v_startFrom (VL 3) (VL 0) (VS 0)).2.2.1) ((v_startFrom (VL 3) (VL 0) (VS 0)).2.2.2.1) ((v_startFrom (VL 3) (VL 0) (VS 0)).2.2.2.2.2.2.1) ((v_startFrom (VL 3) (VL 0) (VS 0)).2.2.2.2.2.2.2.1) ((v_startFrom (VL 3) (VL 0) (VS 0)).2.2.2.2.2.2.2.2.2.2) n i f1 f5 f6 s10 s11).2.2.2.1 (o_rain_L26 VL VS PL PS ((v_startFrom (VL 3) (VL 0) (VS 0)).2.1) ((v_startFrom (VL 3) (VL 0) (VS 0)).2.2.1) ((v_startFrom (VL 3) (VL 0) (VS 0)).2.2.2.1) ((v_startFrom (VL 3) (VL 0) (VS 0)).2.2.2.2.2.2.1) ((v_startFrom (VL 3) (VL 0) (VS 0)).2.2.2.2.2.2.2.1) ((v_startFrom (VL 3) (VL 0) (VS 0)).2.2.2.2.2.2.2.2.2.2) n i f1 f5 f6 s10 s11).2.2.2.2) (PL 0) (PS 0) (nR RA (m_rain_L20 RA RS RN s38 n i g36 g37 g39).1 (m_rain_L20 RA RS RN s38 n i g36 g37 g39).2.1 (m_rain_L20 RA RS RN s38 n i g36 g37 g39).2.2) (va_up RS 38 s38) RN := by
  intro n
  induction n with
  | zero => intro i f1 f5 f6 s10 s11 g36 g37 g39 h; rw [o_rain_L26.eq_1, m_rain_L20.eq_1]; exact h
  | succ n ih =>
    intro i f1 f5 f6 s10 s11 g36 g37 g39 h
    rw [o_rain_L26.eq_2, m_rain_L20.eq_2]
    rw [nN_V (a1 := ((v_startFrom (VL 3) (VL 0) (VS 0)).1)) (a5 := ((v_startFrom (VL 3) (VL 0) (VS 0)).2.2.2.2.1)) (a6 := ((v_startFrom (VL 3) (VL 0) (VS 0)).2.2.2.2.2.1)), nN_W (a10 := ((v_startFrom (VL 3) (VL 0) (VS 0)).2.2.2.2.2.2.2.2.1)) (a11 := ((v_startFrom (VL 3) (VL 0) (VS 0)).2.2.2.2.2.2.2.2.2.1))]
    exact ih (i + 1) _ _ _ _ _ _ _ _ (ho_none (a := 4) f1 f5 f6 s10 s11 g36 g37 g39 2 (by omega) h)
theorem rain_M (h : sX ML MS PL PS VL VS RA RS RN) {f1 f2 f3 f4 f5 f6 g36 g37 g39 : Nat → Int32} {wv : Nat → Nat → Int32} {zv : Nat → Int32} {s38 : Int32} (e : va_up (va_up (va_up (va_up (va_up (va_up (VL 3) 1 f1) 2 f2) 3 f3) 4 f4) 5 f5) 6 f6 = wv) (hF : sF wv zv (PL 0) (PS 0) (nR RA g36 g37 g39) (va_up RS 38 s38) RN) :
    ∀ (n i : Nat) (acc : Int32), i + n ≤ RN 4 → o_rain_L51 VL VS PL PS f1 f2 f3 f4 f5 f6 n i acc = m_rain_L44 RA RS g36 g37 g39 n i acc := by
  have h8 := h.D.many
  intro n
  induction n with
  | zero => intro i acc _; rw [o_rain_L51.eq_1, m_rain_L44.eq_1]
  | succ n ih =>
    intro i acc hi
    rw [o_rain_L51.eq_2, m_rain_L44.eq_2, h.D.stands (i := i) (by omega), Int32.or_zero, e]
    have q : v_chancesGone wv (PL 0) (nI i) = m_below (va_up (va_up (va_up RA 36 g36) 37 g37) 39 g39) i (g39 i) := cg_eq hF (by omega)
    rw [q, ih (i + 1) _ (by omega), ih (i + 1) _ (by omega)]
theorem sim_rain (h : sX ML MS PL PS VL VS RA RS RN) (v : Int32) : (o_rain VL VS PL PS v).1 = (m_rain RA RS RN v).1 := by
  have hin := in_0 v 1 9
  have h8 := h.D.many
  rw [show (1 : Int64).toInt = 1 by decide, show (9 : Int64).toInt = 9 by decide] at hin
  have i9 : (9 : Int32).toInt = 9 := by decide
  have i1 : (1 : Int32).toInt = 1 := by decide
  unfold o_rain m_rain
  by_cases c2 : v < 1
  · rw [if_pos c2, if_pos (hin.mpr (Or.inl (by rw [ti_lt, i1] at c2; exact c2)))]
  · rw [if_neg c2]
    rw [ti_lt, i1] at c2
    by_cases c3 : v ≤ 9
    · rw [if_pos c3]
      rw [ti_le, i9] at c3
      rw [if_neg (show ¬ m_in v.toInt64 1 9 = 0 from fun q => by rcases hin.mp q with q | q <;> omega)]
      obtain ⟨q1, -, -, -⟩ := h.D.begun (vl' := VL 3) (vs' := VS 3)
      have e0 : nV (nS (VL 3) (VL 0) (VS 0)) ((v_startFrom (VL 3) (VL 0) (VS 0)).1) ((v_startFrom (VL 3) (VL 0) (VS 0)).2.2.2.2.1) ((v_startFrom (VL 3) (VL 0) (VS 0)).2.2.2.2.2.1) = (nS (VL 3) (VL 0) (VS 0)) := nN_V.symm
      have e1 : nW (nT (VL 3) (VL 0) (VS 0) (VS 3)) ((v_startFrom (VL 3) (VL 0) (VS 0)).2.2.2.2.2.2.2.2.1) ((v_startFrom (VL 3) (VL 0) (VS 0)).2.2.2.2.2.2.2.2.2.1) = (nT (VL 3) (VL 0) (VS 0) (VS 3)) := nN_W.symm
      have z := rain_L (VL := VL) (VS := VS) (PL := PL) (PS := PS) (RA := RA) (RS := RS) (RN := RN) (s38 := (m_load RA RS).2.2.2) v.toNatClampNeg 0 ((v_startFrom (VL 3) (VL 0) (VS 0)).1) ((v_startFrom (VL 3) (VL 0) (VS 0)).2.2.2.2.1) ((v_startFrom (VL 3) (VL 0) (VS 0)).2.2.2.2.2.1) ((v_startFrom (VL 3) (VL 0) (VS 0)).2.2.2.2.2.2.2.2.1) ((v_startFrom (VL 3) (VL 0) (VS 0)).2.2.2.2.2.2.2.2.2.1) (m_load RA RS).1 (m_load RA RS).2.1 (m_load RA RS).2.2.1 (by rw [e0, e1]; exact q1)
      unfold o_rain_k26 o_rain_k51 m_rain_k20 m_rain_k44
      rw [h.D.P.1, nI_clamp (by omega)]
      exact rain_M h nN_V z (RN 4) 0 0 (by omega)
    · rw [if_neg c3]
      rw [ti_le, i9] at c3
      rw [if_pos (hin.mpr (Or.inr (by omega)))]
end SIM8
