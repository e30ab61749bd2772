/-! instead -/
section SIM10
variable {ML : Nat → Nat → Int32} {MS : Nat → Int32} {PL : Nat → Nat → Nat → Int32} {PS : Nat → Nat → Int32} {VL : Nat → Nat → Nat → Int32} {VS : Nat → Nat → Int32} {vl pl : Nat → Nat → Int32} {vs ps : Nat → Int32} {RA : Nat → Nat → Int32} {RS : Nat → Int32} {RN : Nat → Nat}
theorem nN_P {b : Nat → Nat → Int32} {f1 f2 f3 f4 f5 f6 g4 g5 : Nat → Int32} : va_up (va_up (va_up (va_up (va_up (va_up b 1 f1) 2 f2) 3 f3) 4 g4) 5 g5) 6 f6 = va_up (va_up (va_up (va_up (va_up (va_up (va_up (va_up b 1 f1) 2 f2) 3 f3) 4 f4) 5 f5) 6 f6) 4 g4) 5 g5 := by
  funext j
  unfold va_up
  by_cases c6 : j = 5
  · subst c6; rfl
  · by_cases c5 : j = 4
    · subst c5; rfl
    · simp only [c6, c5, if_neg, if_false]
theorem nR_P {b : Nat → Nat → Int32} {a c d g e : Nat → Int32} : va_up (va_up (va_up (va_up b 25 a) 36 c) 37 d) 39 e = va_up (va_up (nR b c g e) 25 a) 37 d := by
  funext j
  unfold nR va_up
  by_cases c1 : j = 37
  · subst c1; rfl
  · by_cases c2 : j = 25
    · subst c2; rfl
    · simp only [c1, c2, if_neg, if_false]
theorem sF.prop (h : sF vl vs pl ps RA RS RN) {i p : Nat} (hi : i < RN 4) (hp : RA 25 i = nI p) (hp3 : p < 3) : sF (va_up (va_up vl 4 (upd (vl 4) i (nI (p + 1)))) 5 (upd (vl 5) (3 * i + p) (ps 18))) vs pl ps (va_up (va_up RA 25 (upd (RA 25) i (nI (p + 1)))) 37 (upd (RA 37) (3 * i + p) (RS 19))) RS RN := by
  have h8 := h.1.many
  obtain ⟨⟨⟨hP, ⟨m1, m2, m3, m4, m5, m6, m7, m8, m9, m10, m11, m12⟩⟩, ⟨hz, hb⟩, ⟨e1, e2, e5, e8⟩, hW⟩, hk, hw⟩ := h
  have b19 := hb.2.2.2.2.2.2.2.2.1
  refine ⟨⟨⟨hP, ⟨m1, m2, fun j hj => ?_, m4, m5, m6, m7, m8, m9, m10, m11, m12⟩⟩, ⟨hz, hb⟩, ⟨e1, fun a ha => ⟨(e2 a ha).1, ?_⟩, fun a k ha hk => ?_, e8⟩, hW⟩, hk, fun j hj => ?_⟩
  · show 0 ≤ (upd (RA 25) i (nI (p + 1)) j).toInt ∧ (upd (RA 25) i (nI (p + 1)) j).toInt ≤ 3
    by_cases e : j = i
    · rw [e, pk_us, nI_toInt (by omega)]; omega
    · rw [pk_un e]; exact m3 j hj
  · show upd (vl 4) i (nI (p + 1)) a = upd (RA 25) i (nI (p + 1)) a
    by_cases e : a = i
    · rw [e, pk_us, pk_us]
    · rw [pk_un e, pk_un e]; exact (e2 a ha).2
  · show upd (vl 5) (3 * i + p) (ps 18) (3 * a + k) = upd (RA 37) (3 * i + p) (RS 19) (3 * a + k)
    have hk : k < (upd (RA 25) i (nI (p + 1)) a).toNatClampNeg := hk
    have h18 : ps 18 = RS 19 := hP.2.2.2.2.2.2.2.1
    by_cases e : a = i
    · rw [e, pk_us, nI_clamp (by omega)] at hk
      by_cases e3 : k = p
      · rw [e, e3, pk_us, pk_us, h18]
      · rw [pk_un (by omega), pk_un (by omega)]
        exact e5 a k ha (by rw [e, hp, nI_clamp (by omega)]; omega)
    · rw [pk_un e] at hk
      have : (RA 25 a).toNatClampNeg ≤ 3 := by
        have := m3 a (by omega)
        have e0 : (RA 25 a).toNatClampNeg = (RA 25 a).toInt.toNat := rfl
        omega
      rw [pk_un (by omega), pk_un (by omega)]
      exact e5 a k ha hk
  · show 0 ≤ (upd (RA 37) (3 * i + p) (RS 19) j).toInt
    by_cases e : j = 3 * i + p
    · rw [e, pk_us]; omega
    · rw [pk_un e]; exact hw j hj
theorem sim_inst (h : sX ML MS PL PS VL VS RA RS RN) (r h1 h2 : Int32) (b1 : h1.toInt ≤ 100) (b2 : h2.toInt ≤ 100) {i p : Nat} (hi : i < RN 4) (hp : RA 25 i = nI p) (hp3 : p < 3) :
    (o_lossByRow ML MS (va_up VL 3 (va_up (va_up (va_up (va_up (va_up (va_up (VL 3) 1 ((v_startFrom (VL 3) (VL 0) (VS 0)).1)) 2 ((v_startFrom (VL 3) (VL 0) (VS 0)).2.1)) 3 ((v_startFrom (VL 3) (VL 0) (VS 0)).2.2.1)) 4 (v_addProp (nS (VL 3) (VL 0) (VS 0)) (PS 0) (nI i)).1) 5 (v_addProp (nS (VL 3) (VL 0) (VS 0)) (PS 0) (nI i)).2) 6 ((v_startFrom (VL 3) (VL 0) (VS 0)).2.2.2.2.2.1))) (va_up VS 3 (nT (VL 3) (VL 0) (VS 0) (VS 3))) PL PS r r h1 h2).1 = (m_lossBy (va_up (va_up (va_up (va_up RA 25 (upd (RA 25) i (nI (p + 1)))) 36 (m_load RA RS).1) 37 (upd (m_load RA RS).2.1 (3 * i + p) (RS 19))) 39 (m_load RA RS).2.2.1) (va_up RS 38 (m_load RA RS).2.2.2) RN r h1 h2 (-4)).1 := by
  have h8 := h.D.many
  obtain ⟨q1, q2, -, -⟩ := h.D.begun (vl' := VL 3) (vs' := VS 3)
  have e4 : (nS (VL 3) (VL 0) (VS 0)) 4 i = nI p := ((q1.1.V.2.1 i hi).2).trans hp
  rw [ap_eq (by omega) e4 hp3, nR_P (g := (m_load RA RS).2.1)]
  have q3 := q1.prop hi hp hp3
  have e : va_up (va_up (va_up (va_up (va_up (va_up (VL 3) 1 ((v_startFrom (VL 3) (VL 0) (VS 0)).1)) 2 ((v_startFrom (VL 3) (VL 0) (VS 0)).2.1)) 3 ((v_startFrom (VL 3) (VL 0) (VS 0)).2.2.1)) 4 (upd ((nS (VL 3) (VL 0) (VS 0)) 4) i (nI (p + 1)))) 5 (upd ((nS (VL 3) (VL 0) (VS 0)) 5) (3 * i + p) (PS 0 18))) 6 ((v_startFrom (VL 3) (VL 0) (VS 0)).2.2.2.2.2.1) = va_up (va_up (nS (VL 3) (VL 0) (VS 0)) 4 (upd ((nS (VL 3) (VL 0) (VS 0)) 4) i (nI (p + 1)))) 5 (upd ((nS (VL 3) (VL 0) (VS 0)) 5) (3 * i + p) (PS 0 18)) := nN_P
  rw [e]
  exact lb_eq (VL := va_up VL 3 (va_up (va_up (nS (VL 3) (VL 0) (VS 0)) 4 (upd ((nS (VL 3) (VL 0) (VS 0)) 4) i (nI (p + 1)))) 5 (upd ((nS (VL 3) (VL 0) (VS 0)) 5) (3 * i + p) (PS 0 18)))) (VS := va_up VS 3 (nT (VL 3) (VL 0) (VS 0) (VS 3))) q3 h.skies.1 h.skies.2 (mC_of h.D.C rfl rfl rfl rfl rfl rfl) (load_eq RA RS).2.2.2.symm (ho_rule (fun _ => ⟨q2, h.D.told⟩) (hands_le b1)) (ho_rule (fun _ => ⟨q2, h.D.told⟩) (hands_le b2))
theorem sim_instead (h : sX ML MS PL PS VL VS RA RS RN) (v1 v2 : Int32) : (o_instead ML MS VL VS PL PS v1 v2).1 = (m_instead RA RS RN v1 v2).1 := by
  have h8 := h.D.many
  have hb := rB_hands h.D.b
  have i1 : (1 : Int32).toInt = 1 := by decide
  have hr := roof_eq (PS := PS) h.D.P.1 h.D.many v2
  unfold o_instead m_instead
  by_cases c1 : m_isRule v1 = 0
  · rw [if_pos ((rule_eq v1).mpr c1), if_pos c1]
  rw [if_neg (show ¬ o_isRule v1 = 0 from fun q => c1 ((rule_eq v1).mp q)), if_neg c1]
  by_cases c : m_isRoof RN v2 = 0
  · rw [rp_no h v2 c, if_pos c, if_neg (show ¬ (-1 : Int32) = 0 by decide)]; rfl
  obtain ⟨i, hi, rfl⟩ := hr.2 c
  rw [rp_at h hi c, if_neg c, nI_clamp (by omega)]
  by_cases c2 : m_has (RS 26) (nI i) = 0
  · rw [if_pos c2, if_pos c2, if_neg (show ¬ (-2 : Int32) = 0 by decide)]; rfl
  rw [if_neg c2, if_neg c2]
  by_cases c3 : RA 25 i = 3
  · rw [if_pos c3, if_pos c3, if_neg (show ¬ (-3 : Int32) = 0 by decide)]; rfl
  rw [if_neg c3, if_neg c3, if_pos rfl]
  have hp := kNat (mI_pm0 h.D.M i (by omega))
  have hp3 := mI_pm h.D.M i (by omega)
  have hlt : (RA 25 i).toNatClampNeg < 3 := by
    rcases Nat.lt_or_ge (RA 25 i).toNatClampNeg 3 with q | q
    · exact q
    · exact absurd (by rw [hp, show (RA 25 i).toNatClampNeg = 3 by omega]; rfl) c3
  obtain ⟨p, ep⟩ : ∃ p, p = (RA 25 i).toNatClampNeg := ⟨_, rfl⟩
  rw [← ep] at hp hlt ⊢
  rw [show PS 0 14 = RS 15 from h.D.P.2.2.2.2.2.1.1, hp, nI_1]
  have hs : (RS 15 - 1).toInt = (RS 15).toInt - 1 := by rw [ti_sub (by rw [i1]; omega) (by rw [i1]; omega), i1]
  by_cases c5 : RS 15 = 0
  · rw [if_pos c5]
    have ej : jmax (RS 15 - 1) 0 = 0 := by rw [c5]; decide
    rw [ej]
    exact sim_inst h v1 0 (RS 15) (by decide) (by omega) hi hp hlt
  · rw [if_neg c5]
    have n0 : (RS 15).toInt ≠ 0 := fun q => c5 (Int32.toInt_inj.mp (by rw [q, ti_0]))
    have ej : jmax (RS 15 - 1) 0 = RS 15 - 1 := by
      unfold jmax
      rw [if_neg]
      rw [ti_lt, hs, ti_0]; omega
    rw [ej]
    exact sim_inst h v1 (RS 15 - 1) (RS 15) (by omega) (by omega) hi hp hlt
end SIM10
