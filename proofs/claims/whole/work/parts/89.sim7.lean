/-! keep -/
section SIM7
variable {ML : Nat → Nat → Int32} {MS : Nat → Int32} {PL : Nat → Nat → Nat → Int32} {PS : Nat → Nat → Int32} {VL : Nat → Nat → Nat → Int32} {VS : Nat → Nat → Int32} {vl vl' pl : Nat → Nat → Int32} {vs vs' ps : Nat → Int32} {RA : Nat → Nat → Int32} {RS : Nat → Int32} {RN : Nat → Nat}
theorem kp_new {k m : Nat} (h : sD vl vs pl ps RA RS RN) (c : eC vl vl' vs vs') : sK vl' vs' pl ps (va_up RA 33 (m_store RA RS RN (100 * k))) RS (va_up RN 34 m) k := by
  obtain ⟨⟨s1, s2, s3, s4, s5⟩, ⟨⟨s6, s7, s8⟩, s9, s10⟩, _⟩ := st_eq9 (RA := RA) (RS := RS) (RN := RN) (b := 100 * k)
  have h28 := mI_sky h.M
  have h29 := mI_told h.M
  intro RA2 RS2 RN2 p2 g a s n
  have p0 : eP RA (va_up RA 33 (m_store RA RS RN (100 * k))) RS RS RN (va_up RN 34 m) := ⟨⟨⟨rfl, rfl⟩, ⟨rfl, rfl⟩, ⟨rfl, rfl⟩, ⟨rfl, rfl⟩, rfl, rfl⟩, ⟨⟨rfl, rfl⟩, ⟨rfl, rfl⟩, rfl, rfl⟩, rfl⟩
  exact h.cg (p0.tr p2) ⟨⟨fun j hj => (a.1 j hj).trans (s2 j hj), fun j hj => (a.2.1 j hj).trans (s3 j hj), fun j hj => (a.2.2.1 j hj).trans (s4 j hj), fun j hj => (a.2.2.2.1 j hj).trans (s1 j hj), fun j hj => (a.2.2.2.2 j hj).trans (s5 j hj)⟩, ⟨s.1.trans s6, s.2.1.trans s7, s.2.2.trans s8⟩, n.1.trans ((congrArg Int32.toNatClampNeg s9).trans (nI_clamp (by omega))), n.2.trans ((congrArg Int32.toNatClampNeg s10).trans (nI_clamp (by omega)))⟩ c g
theorem kp_old {k m j : Nat} (h : sK vl vs pl ps RA RS RN j) (hj : j < k) : sK vl vs pl ps (va_up RA 33 (m_store RA RS RN (100 * k))) RS (va_up RN 34 m) j := by
  obtain ⟨_, _, o⟩ := st_eq9 (RA := RA) (RS := RS) (RN := RN) (b := 100 * k)
  have o : ∀ q, q < 69 → m_store RA RS RN (100 * k) (100 * j + q) = RA 33 (100 * j + q) := fun q hq => o _ (by omega)
  intro RA2 RS2 RN2 p2 g a s n
  have p0 : eP RA (va_up RA 33 (m_store RA RS RN (100 * k))) RS RS RN (va_up RN 34 m) := ⟨⟨⟨rfl, rfl⟩, ⟨rfl, rfl⟩, ⟨rfl, rfl⟩, ⟨rfl, rfl⟩, rfl, rfl⟩, ⟨⟨rfl, rfl⟩, ⟨rfl, rfl⟩, rfl, rfl⟩, rfl⟩
  have w : ∀ {x y : Nat}, x + y < 69 → m_store RA RS RN (100 * k) (100 * j + x + y) = RA 33 (100 * j + x + y) := fun {x y} hq => by rw [Nat.add_assoc]; exact o _ hq
  exact h RA2 RS2 RN2 (p0.tr p2) g ⟨fun i hi => (a.1 i hi).trans (w (by omega)), fun i hi => (a.2.1 i hi).trans (w (by omega)), fun i hi => (a.2.2.1 i hi).trans (w (by omega)), fun i hi => (a.2.2.2.1 i hi).trans (o _ (by omega)), fun i hi => (a.2.2.2.2 i hi).trans (w (by omega))⟩ ⟨s.1.trans (o _ (by omega)), s.2.1.trans (o _ (by omega)), s.2.2.trans (o _ (by omega))⟩ ⟨n.1.trans (congrArg Int32.toNatClampNeg (o _ (by omega))), n.2.trans (congrArg Int32.toNatClampNeg (o _ (by omega)))⟩
theorem kp_mK {k : Nat} (h : mK RA RN) (hk : RN 34 = k) (h28 : RN 28 < 3) (h29 : RN 29 < 16) : mK (va_up RA 33 (m_store RA RS RN (100 * k))) (va_up RN 34 (k + 1)) := by
  obtain ⟨_, ⟨_, s9, s10⟩, o⟩ := st_eq9 (RA := RA) (RS := RS) (RN := RN) (b := 100 * k)
  intro j hj
  have hj : j < k + 1 := hj
  show 0 ≤ (m_store RA RS RN (100 * k) (100 * j + 66)).toInt ∧ 0 ≤ (m_store RA RS RN (100 * k) (100 * j + 67)).toInt
  by_cases e : j = k
  · subst e
    rw [s9, s10, nI_toInt (by omega), nI_toInt (by omega)]
    omega
  · rw [o _ (by omega), o _ (by omega)]
    exact h j (by omega)
theorem sim_keep (h : sX ML MS PL PS VL VS RA RS RN) : (o_keep MS VL VS).1 = (m_keep RA RS RN).1 ∧ sX ML (va_up MS 0 ((o_keep MS VL VS).2.1)) PL PS (va_up (va_up VL 1 (va_up (va_up (va_up (va_up (va_up (va_up (VL 1) 1 ((o_keep MS VL VS).2.2.1)) 2 ((o_keep MS VL VS).2.2.2.1)) 3 ((o_keep MS VL VS).2.2.2.2.1)) 4 ((o_keep MS VL VS).2.2.2.2.2.1)) 5 ((o_keep MS VL VS).2.2.2.2.2.2.1)) 6 ((o_keep MS VL VS).2.2.2.2.2.2.2.1))) 2 (va_up (va_up (va_up (va_up (va_up (va_up (VL 2) 1 ((o_keep MS VL VS).2.2.2.2.2.2.2.2.1)) 2 ((o_keep MS VL VS).2.2.2.2.2.2.2.2.2.1)) 3 ((o_keep MS VL VS).2.2.2.2.2.2.2.2.2.2.1)) 4 ((o_keep MS VL VS).2.2.2.2.2.2.2.2.2.2.2.1)) 5 ((o_keep MS VL VS).2.2.2.2.2.2.2.2.2.2.2.2.1)) 6 ((o_keep MS VL VS).2.2.2.2.2.2.2.2.2.2.2.2.2.1))) (va_up (va_up VS 1 (va_up (va_up (va_up (va_up (va_up (VS 1) 8 ((o_keep MS VL VS).2.2.2.2.2.2.2.2.2.2.2.2.2.2.1)) 9 ((o_keep MS VL VS).2.2.2.2.2.2.2.2.2.2.2.2.2.2.2.1)) 10 ((o_keep MS VL VS).2.2.2.2.2.2.2.2.2.2.2.2.2.2.2.2.1)) 11 ((o_keep MS VL VS).2.2.2.2.2.2.2.2.2.2.2.2.2.2.2.2.2.1)) 12 ((o_keep MS VL VS).2.2.2.2.2.2.2.2.2.2.2.2.2.2.2.2.2.2.1))) 2 (va_up (va_up (va_up (va_up (va_up (VS 2) 8 ((o_keep MS VL VS).2.2.2.2.2.2.2.2.2.2.2.2.2.2.2.2.2.2.2.1)) 9 ((o_keep MS VL VS).2.2.2.2.2.2.2.2.2.2.2.2.2.2.2.2.2.2.2.2.1)) 10 ((o_keep MS VL VS).2.2.2.2.2.2.2.2.2.2.2.2.2.2.2.2.2.2.2.2.2.1)) 11 ((o_keep MS VL VS).2.2.2.2.2.2.2.2.2.2.2.2.2.2.2.2.2.2.2.2.2.2.1)) 12 ((o_keep MS VL VS).2.2.2.2.2.2.2.2.2.2.2.2.2.2.2.2.2.2.2.2.2.2.2))) (va_up RA 33 ((m_keep RA RS RN).2.1)) RS (va_up RN 34 ((m_keep RA RS RN).2.2)) := by
  have h34 := mI_kept h.D.M
  have h28 := mI_sky h.D.M
  have h29 := mI_told h.D.M
  have hm0 := h.2.2.2.1
  obtain ⟨g1, g2, g3, g4⟩ := mG_of h.D.M
  by_cases c : RN 34 = 2
  · have e1 : o_keep MS VL VS = ((-3), (MS 0), (VL 1 1), (VL 1 2), (VL 1 3), (VL 1 4), (VL 1 5), (VL 1 6), (VL 2 1), (VL 2 2), (VL 2 3), (VL 2 4), (VL 2 5), (VL 2 6), (VS 1 8), (VS 1 9), (VS 1 10), (VS 1 11), (VS 1 12), (VS 2 8), (VS 2 9), (VS 2 10), (VS 2 11), (VS 2 12)) := by
      unfold o_keep; rw [if_neg (show ¬ MS 0 < 2 by rw [hm0, c]; decide)]
    have e2 : m_keep RA RS RN = ((-3), (RA 33), (RN 34)) := by
      unfold m_keep; rw [if_pos (show nI (RN 34) = 2 by rw [c]; rfl)]
    rw [e1, e2]
    simp only [va_eta]
    exact ⟨trivial, h⟩
  · have hlt : MS 0 < 2 := by rw [hm0]; exact nI_lt (b := 2) (by omega) (by omega)
    obtain ⟨k, hk⟩ : ∃ k, RN 34 = k := ⟨RN 34, rfl⟩
    have hpr : MS 0 + 1 = nI (k + 1) := by rw [hm0, hk]; exact (nI_succ k).symm
    have e2 : m_keep RA RS RN = ((nI (k + 1)), (m_store RA RS RN (100 * k)), k + 1) := by
      unfold m_keep
      rw [if_neg (show ¬ nI (RN 34) = 2 from fun q => c ((nI_eq (a := RN 34) (b := 2) (by omega) (by omega)).mp q)), hk]
    have d0 : sD (VL 0) (VS 0) (PL 0) (PS 0) (va_up RA 33 (m_store RA RS RN (100 * k))) RS (va_up RN 34 (k + 1)) := h.D.cg ⟨⟨⟨rfl, rfl⟩, ⟨rfl, rfl⟩, ⟨rfl, rfl⟩, ⟨rfl, rfl⟩, rfl, rfl⟩, ⟨⟨rfl, rfl⟩, ⟨rfl, rfl⟩, rfl, rfl⟩, rfl⟩ ⟨⟨fun _ _ => rfl, fun _ _ => rfl, fun _ _ => rfl, fun _ _ => rfl, fun _ _ => rfl⟩, ⟨rfl, rfl, rfl⟩, rfl, rfl⟩ eC.rf ⟨g1, g2, show k + 1 ≤ 2 by omega, g4⟩
    have hmk := kp_mK (RS := RS) h.2.2.2.2.1 hk h28 h29
    rcases (show k = 0 ∨ k = 1 by omega) with e | e
    · subst e
      have e1 : o_keep MS VL VS = ((MS 0 + 1), (MS 0 + 1), (v_copyFrom (VL 1) (VL 0) (VS 0)).1, (v_copyFrom (VL 1) (VL 0) (VS 0)).2.1, (v_copyFrom (VL 1) (VL 0) (VS 0)).2.2.1, (v_copyFrom (VL 1) (VL 0) (VS 0)).2.2.2.1, (v_copyFrom (VL 1) (VL 0) (VS 0)).2.2.2.2.1, (v_copyFrom (VL 1) (VL 0) (VS 0)).2.2.2.2.2.1, (VL 2 1), (VL 2 2), (VL 2 3), (VL 2 4), (VL 2 5), (VL 2 6), (v_copyFrom (VL 1) (VL 0) (VS 0)).2.2.2.2.2.2.1, (v_copyFrom (VL 1) (VL 0) (VS 0)).2.2.2.2.2.2.2.1, (v_copyFrom (VL 1) (VL 0) (VS 0)).2.2.2.2.2.2.2.2.1, (v_copyFrom (VL 1) (VL 0) (VS 0)).2.2.2.2.2.2.2.2.2.1, (v_copyFrom (VL 1) (VL 0) (VS 0)).2.2.2.2.2.2.2.2.2.2, (VS 2 8), (VS 2 9), (VS 2 10), (VS 2 11), (VS 2 12)) := by
        unfold o_keep; rw [if_pos hlt, if_pos (show MS 0 = 0 by rw [hm0, hk]; rfl)]
      rw [e1, e2, hpr]
      refine ⟨rfl, d0, h.2.1, h.2.2.1, rfl, hmk, fun j hj => ?_⟩
      have hj : j < 1 := hj
      have e0 : j = 0 := by omega
      subst e0
      exact kp_new h.D ⟨⟨fun _ hj => rc_in hj, fun _ hj => rc_in hj, fun _ hj => rc_in hj, fun _ hj => rc_in hj, fun _ hj => rc_in hj⟩, ⟨rfl, rfl⟩, ⟨rfl, rfl⟩, rfl⟩
    · subst e
      have e1 : o_keep MS VL VS = ((MS 0 + 1), (MS 0 + 1), (VL 1 1), (VL 1 2), (VL 1 3), (VL 1 4), (VL 1 5), (VL 1 6), (v_copyFrom (VL 2) (VL 0) (VS 0)).1, (v_copyFrom (VL 2) (VL 0) (VS 0)).2.1, (v_copyFrom (VL 2) (VL 0) (VS 0)).2.2.1, (v_copyFrom (VL 2) (VL 0) (VS 0)).2.2.2.1, (v_copyFrom (VL 2) (VL 0) (VS 0)).2.2.2.2.1, (v_copyFrom (VL 2) (VL 0) (VS 0)).2.2.2.2.2.1, (VS 1 8), (VS 1 9), (VS 1 10), (VS 1 11), (VS 1 12), (v_copyFrom (VL 2) (VL 0) (VS 0)).2.2.2.2.2.2.1, (v_copyFrom (VL 2) (VL 0) (VS 0)).2.2.2.2.2.2.2.1, (v_copyFrom (VL 2) (VL 0) (VS 0)).2.2.2.2.2.2.2.2.1, (v_copyFrom (VL 2) (VL 0) (VS 0)).2.2.2.2.2.2.2.2.2.1, (v_copyFrom (VL 2) (VL 0) (VS 0)).2.2.2.2.2.2.2.2.2.2) := by
        unfold o_keep; rw [if_pos hlt, if_neg (show ¬ MS 0 = 0 by rw [hm0, hk]; decide)]
      rw [e1, e2, hpr]
      refine ⟨rfl, d0, h.2.1, h.2.2.1, rfl, hmk, fun j hj => ?_⟩
      have hj : j < 2 := hj
      rcases (show j = 0 ∨ j = 1 by omega) with e0 | e0
      · subst e0
        have q := kp_old (m := 2) (h.2.2.2.2.2 0 (by omega)) (show 0 < 1 by omega)
        dsimp only
        simp only [va_eta]
        exact q
      · subst e0
        exact kp_new h.D ⟨⟨fun _ hj => rc_in hj, fun _ hj => rc_in hj, fun _ hj => rc_in hj, fun _ hj => rc_in hj, fun _ hj => rc_in hj⟩, ⟨rfl, rfl⟩, ⟨rfl, rfl⟩, rfl⟩
end SIM7
