/-! night, whole -/
section SNIGHT3
variable {ML : Nat → Nat → Int32} {MS : Nat → Int32} {PL : Nat → Nat → Nat → Int32} {PS : Nat → Nat → Int32} {VL : Nat → Nat → Nat → Int32} {VS : Nat → Nat → Int32} {RA : Nat → Nat → Int32} {RS : Nat → Int32} {RN : Nat → Nat}
theorem nR_41b {b : Nat → Nat → Int32} {x y z g : Nat → Int32} : nR (va_up b 41 g) x y z = va_up (nR b x y z) 41 g := by
  have e : nR b (b 36) (b 37) (b 39) = b := by unfold nR; rw [va_eta, va_eta, va_eta]
  have q := nR_41 (b := b) (a := b 36) (c := b 37) (d := b 39) (x := x) (y := y) (z := z) (g := g)
  rw [e] at q
  exact q
theorem nt_mask (h : sX ML MS PL PS VL VS RA RS RN) (v1 v2 v3 : Int32) : (o_night_L64 ML VL VS PL PS (o_drawBearings ML (va_up VL 3 (va_up (va_up (va_up (va_up (va_up (va_up (VL 3) 1 ((v_startFrom (VL 3) (VL 0) (VS 0)).1)) 2 ((v_startFrom (VL 3) (VL 0) (VS 0)).2.1)) 3 ((v_startFrom (VL 3) (VL 0) (VS 0)).2.2.1)) 4 ((v_startFrom (VL 3) (VL 0) (VS 0)).2.2.2.1)) 5 ((v_startFrom (VL 3) (VL 0) (VS 0)).2.2.2.2.1)) 6 ((v_startFrom (VL 3) (VL 0) (VS 0)).2.2.2.2.2.1))) PL PS v1) ((v_startFrom (VL 3) (VL 0) (VS 0)).2.1) ((v_startFrom (VL 3) (VL 0) (VS 0)).2.2.1) ((v_startFrom (VL 3) (VL 0) (VS 0)).2.2.2.1) ((v_startFrom (VL 3) (VL 0) (VS 0)).2.2.2.2.2.2.2.1) ((v_startFrom (VL 3) (VL 0) (VS 0)).2.2.2.2.2.2.2.2.2.2) v1 v2 v3.toNatClampNeg 0 0 ((v_startFrom (VL 3) (VL 0) (VS 0)).1) ((v_startFrom (VL 3) (VL 0) (VS 0)).2.2.2.2.1) ((v_startFrom (VL 3) (VL 0) (VS 0)).2.2.2.2.2.1) ((v_startFrom (VL 3) (VL 0) (VS 0)).2.2.2.2.2.2.1) ((v_startFrom (VL 3) (VL 0) (VS 0)).2.2.2.2.2.2.2.2.1) ((v_startFrom (VL 3) (VL 0) (VS 0)).2.2.2.2.2.2.2.2.2.1)).1 = RS 26 &&& ((m_night_L62 RA RS RN (m_drawBears RA RS RN v1) v1 v2 v3.toNatClampNeg 0 (RN 28) ((m_load (va_up RA 41 (m_drawBears RA RS RN v1)) RS).1) ((m_load (va_up RA 41 (m_drawBears RA RS RN v1)) RS).2.1) ((m_load (va_up RA 41 (m_drawBears RA RS RN v1)) RS).2.2.1) ((m_load (va_up RA 41 (m_drawBears RA RS RN v1)) RS).2.2.2)).2.2.2.2 ^^^ (-1)) := by
  have h8 := h.D.many
  have hb := rB_hands h.D.b
  have hD : sD (VL 0) (VS 0) (PL 0) (PS 0) (va_up RA 41 (m_drawBears RA RS RN v1)) RS RN := h.D.cg ⟨⟨⟨rfl, rfl⟩, ⟨rfl, rfl⟩, ⟨rfl, rfl⟩, ⟨rfl, rfl⟩, rfl, rfl⟩, ⟨⟨rfl, rfl⟩, ⟨rfl, rfl⟩, rfl, rfl⟩, rfl⟩ ⟨⟨fun _ _ => rfl, fun _ _ => rfl, fun _ _ => rfl, fun _ _ => rfl, fun _ _ => rfl⟩, ⟨rfl, rfl, rfl⟩, rfl, rfl⟩ eC.rf (mG_of (RS := RS) h.D.M)
  obtain ⟨q1, q2, q3, q4⟩ := hD.begun (vl' := VL 3) (vs' := VS 3)
  have s6 : ((v_startFrom (VL 3) (VL 0) (VS 0)).2.2.2.2.2.2.1) = RS 26 := h.D.v8
  have s8 : ((v_startFrom (VL 3) (VL 0) (VS 0)).2.2.2.2.2.2.2.2.1) = RS 27 + nI 0 := by rw [show nI 0 = 0 from rfl, Int32.add_zero]; exact q3
  have s9 : ((v_startFrom (VL 3) (VL 0) (VS 0)).2.2.2.2.2.2.2.2.2.1) = nI (RN 28) := q4
  have l4 : (m_load (va_up RA 41 (m_drawBears RA RS RN v1)) RS).2.2.2 = RS 26 := (load_eq _ RS).2.2.2
  have e0 : nV (nS (VL 3) (VL 0) (VS 0)) ((v_startFrom (VL 3) (VL 0) (VS 0)).1) ((v_startFrom (VL 3) (VL 0) (VS 0)).2.2.2.2.1) ((v_startFrom (VL 3) (VL 0) (VS 0)).2.2.2.2.2.1) = (nS (VL 3) (VL 0) (VS 0)) := nN_V.symm
  have e1 : va_up (nW (nT (VL 3) (VL 0) (VS 0) (VS 3)) ((v_startFrom (VL 3) (VL 0) (VS 0)).2.2.2.2.2.2.2.2.1) ((v_startFrom (VL 3) (VL 0) (VS 0)).2.2.2.2.2.2.2.2.2.1)) 8 ((v_startFrom (VL 3) (VL 0) (VS 0)).2.2.2.2.2.2.1) = (nT (VL 3) (VL 0) (VS 0) (VS 3)) := (nN_8 VL VS _ _ _).symm
  have hml : ∀ j, j < RN 4 → bt (RS 26) j = true → (o_drawBearings ML (va_up VL 3 (va_up (va_up (va_up (va_up (va_up (va_up (VL 3) 1 ((v_startFrom (VL 3) (VL 0) (VS 0)).1)) 2 ((v_startFrom (VL 3) (VL 0) (VS 0)).2.1)) 3 ((v_startFrom (VL 3) (VL 0) (VS 0)).2.2.1)) 4 ((v_startFrom (VL 3) (VL 0) (VS 0)).2.2.2.1)) 5 ((v_startFrom (VL 3) (VL 0) (VS 0)).2.2.2.2.1)) 6 ((v_startFrom (VL 3) (VL 0) (VS 0)).2.2.2.2.2.1))) PL PS v1) j = (m_drawBears RA RS RN v1) j := by
    intro j hj hbj
    unfold o_drawBearings o_drawBearings_k2 m_drawBears m_drawBears_k2
    rw [h.D.P.1, nI_clamp (by omega)]
    exact db_L (VL := va_up VL 3 (va_up (va_up (va_up (va_up (va_up (va_up (VL 3) 1 ((v_startFrom (VL 3) (VL 0) (VS 0)).1)) 2 ((v_startFrom (VL 3) (VL 0) (VS 0)).2.1)) 3 ((v_startFrom (VL 3) (VL 0) (VS 0)).2.2.1)) 4 ((v_startFrom (VL 3) (VL 0) (VS 0)).2.2.2.1)) 5 ((v_startFrom (VL 3) (VL 0) (VS 0)).2.2.2.2.1)) 6 ((v_startFrom (VL 3) (VL 0) (VS 0)).2.2.2.2.2.1))) h.D.P h.D.M h.D.z h.D.C (fun i hi => h.D.e2 i hi) (RN 4) 0 (ML 5) (RA 41) (by omega) (fun j hj => absurd hj (Nat.not_lt_zero j)) j (by omega) hbj
  rw [s6, s8, s9] at e1
  rw [s6, s8, s9, l4]
  rw [l4, nR_41b] at q1
  have hb0 : ∀ j, bt (0 : Int32) j = false := b_0
  apply b_ext
  intro j hj
  rw [b_and, bt_not _ hj]
  exact nt_L (fun _ => ⟨q2, h.D.told⟩) (hands_le (by omega)) h.D.P.2.2.2.2.2.1.1 hml v3.toNatClampNeg 0 (RN 28) 0 ((v_startFrom (VL 3) (VL 0) (VS 0)).1) ((v_startFrom (VL 3) (VL 0) (VS 0)).2.2.2.2.1) ((v_startFrom (VL 3) (VL 0) (VS 0)).2.2.2.2.2.1) (RS 26) _ _ _ (mI_sky h.D.M) (by rw [e0, e1]; exact q1) (fun j hj q => q) (fun j hj => by rw [hb0]; cases bt (RS 26) j <;> rfl) j hj
end SNIGHT3
