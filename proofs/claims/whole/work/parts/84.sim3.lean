/-! first, prop, creak -/
theorem if_lg {A B A' B' : Int64} {α β : Type} {x y : Int32 × α} {x' y' : Int32 × β} (hA : A = A') (hB : B = B') (hx : x.1 = x'.1) (hy : y.1 = y'.1) : (if 0 ≤ lg_cmp A B then x else y).1 = (if 0 ≤ lg_cmp A' B' then x' else y').1 := by
  subst hA hB
  by_cases c : 0 ≤ lg_cmp A B
  · rw [if_pos c, if_pos c]; exact hx
  · rw [if_neg c, if_neg c]; exact hy
section SIM3
variable {ML : Nat → Nat → Int32} {MS : Nat → Int32} {PL : Nat → Nat → Nat → Int32} {PS : Nat → Nat → Int32} {VL VL' : Nat → Nat → Nat → Int32} {VS VS' : Nat → Nat → Int32} {RA RA' : Nat → Nat → Int32} {RS RS' : Nat → Int32} {RN RN' : Nat → Nat} {vl pl : Nat → Nat → Int32} {vs ps : Nat → Int32}
theorem sD.look (h : sD vl vs pl ps RA RS RN) (a b c : Nat → Int32) (d : Int32) : sD vl vs pl ps (nR RA a b c) (va_up RS 38 d) RN :=
  h.cg ⟨⟨⟨rfl, rfl⟩, ⟨rfl, rfl⟩, ⟨rfl, rfl⟩, ⟨rfl, rfl⟩, rfl, rfl⟩, ⟨⟨rfl, rfl⟩, ⟨rfl, rfl⟩, rfl, rfl⟩, rfl⟩ ⟨⟨fun _ _ => rfl, fun _ _ => rfl, fun _ _ => rfl, fun _ _ => rfl, fun _ _ => rfl⟩, ⟨rfl, rfl, rfl⟩, rfl, rfl⟩ eC.rf (mG_of (RS := RS) h.M)
theorem sim_first (h : sX ML MS PL PS VL VS RA RS RN) (v1 : Int32) : (o_first ML MS VL VS PL PS v1).1 = (m_first RA RS RN v1).1 := by
  have hr := roof_eq (PS := PS) h.D.P.1 h.D.many v1
  have h8 := h.D.many
  have h32 := mI_rowMany h.D.M
  have hb := rB_hands h.D.b
  have h14 : PS 0 14 = RS 15 := h.D.P.2.2.2.2.2.1.1
  unfold o_first m_first
  by_cases c : m_isRoof RN v1 = 0
  · rw [if_pos (hr.1.mpr c), if_pos c]
  · obtain ⟨i, hi, rfl⟩ := hr.2 c
    rw [if_neg (show ¬ o_isRoof PS (nI i) = 0 from fun q => c (hr.1.mp q)), if_neg c, nI_clamp (by omega), st9 h hi]
    by_cases c6 : m_has (RS 26) (nI i) = 0
    · rw [if_pos c6, if_pos c6]
    · rw [if_neg c6, if_neg c6]
      by_cases c7 : nI (RN 32) = 0
      · rw [if_pos (h.skies.1.trans c7), if_pos c7]
      · rw [if_neg (show ¬ MS 1 = 0 from fun q => c7 (h.skies.1.symm.trans q)), if_neg c7, h14]
        refine if_lg ?_ ?_ rfl rfl
        · have hD := h.D.look (m_lossBy (nR RA (m_load RA RS).1 (m_load RA RS).2.1 (m_load RA RS).2.2.1) (va_up RS 38 (m_load RA RS).2.2.2) RN 0 (RS 15) (RS 15) (nI (2 * i))).2.1 (m_lossBy (nR RA (m_load RA RS).1 (m_load RA RS).2.1 (m_load RA RS).2.2.1) (va_up RS 38 (m_load RA RS).2.2.2) RN 0 (RS 15) (RS 15) (nI (2 * i))).2.2.1 (m_lossBy (nR RA (m_load RA RS).1 (m_load RA RS).2.1 (m_load RA RS).2.2.1) (va_up RS 38 (m_load RA RS).2.2.2) RN 0 (RS 15) (RS 15) (nI (2 * i))).2.2.2 (m_load RA RS).2.2.2
          have st := fun vl' vs' c1 c2 c4 c5 c6 c8 => hD.start (vl' := vl') (vs' := vs') c1 c2 c4 c5 c6 c8
          have e26 := (load_eq (nR RA (m_lossBy (nR RA (m_load RA RS).1 (m_load RA RS).2.1 (m_load RA RS).2.2.1) (va_up RS 38 (m_load RA RS).2.2.2) RN 0 (RS 15) (RS 15) (nI (2 * i))).2.1 (m_lossBy (nR RA (m_load RA RS).1 (m_load RA RS).2.1 (m_load RA RS).2.2.1) (va_up RS 38 (m_load RA RS).2.2.2) RN 0 (RS 15) (RS 15) (nI (2 * i))).2.2.1 (m_lossBy (nR RA (m_load RA RS).1 (m_load RA RS).2.1 (m_load RA RS).2.2.1) (va_up RS 38 (m_load RA RS).2.2.2) RN 0 (RS 15) (RS 15) (nI (2 * i))).2.2.2) (va_up RS 38 (m_load RA RS).2.2.2)).2.2.2
          rw [nR_nR, va_uu] at st
          refine lb_eq (st _ _ (fun j hj => rc_in hj) (fun j hj => rc_in hj) (fun j hj => rc_in hj) (fun j hj => rc_in hj) (fun j hj => rc_in (n := 8) (g := fun _ => 0) hj) rfl) h.skies.1 h.skies.2 (nR_C h.D.C _ _ _ _) e26.symm (ho_side (s := 2 * i + 1) (by omega) (nx21 i) (hands_le (by omega))) (ho_rule (fun q => absurd q (by decide)) (hands_le (by omega)))
        · have st := fun vl' vs' c1 c2 c4 c5 c6 c8 => h.D.start (vl' := vl') (vs' := vs') c1 c2 c4 c5 c6 c8
          refine lb_eq (st _ _ (fun j hj => rc_in hj) (fun j hj => rc_in hj) (fun j hj => rc_in hj) (fun j hj => rc_in hj) (fun j hj => rc_in (n := 8) (g := fun _ => 0) hj) rfl) h.skies.1 h.skies.2 (nR_C h.D.C _ _ _ _) (load_eq RA RS).2.2.2.symm (ho_side (s := 2 * i) (by omega) (nx2 i) (hands_le (by omega))) (ho_rule (fun q => absurd q (by decide)) (hands_le (by omega)))
theorem ap_eq {i p : Nat} (hi : i < 8) (h4 : vl 4 i = nI p) (hp : p < 3) : v_addProp vl ps (nI i) = (upd (vl 4) i (nI (p + 1)), upd (vl 5) (3 * i + p) (ps 18)) := by
  unfold v_addProp
  rw [rg_in hi (by omega), h4, if_neg (show ¬ (3 : Int32) ≤ nI p from nI_ge (b := 3) hp (by omega)), rs_in hi (by omega), nx3b, rs_in (by omega) (by omega), nI_1]
theorem sD.prop (h : sD vl vs pl ps RA RS RN) {i p : Nat} (hi : i < RN 4) (hp : RA 25 i = nI p) (hp3 : p < 3) : sD (va_up (va_up vl 4 (upd (vl 4) i (nI (p + 1)))) 5 (upd (vl 5) (3 * i + p) (ps 18))) vs pl ps (va_up (va_up RA 24 (upd (RA 24) (3 * i + p) (RS 19))) 25 (upd (RA 25) i (nI (p + 1)))) RS RN := by
  have h8 := h.many
  obtain ⟨m1, m2, m3, m4, m5, m6, m7, m8, m9, m10, m11, m12⟩ := h.M
  have b19 := h.b.2.2.2.2.2.2.2.2.1
  refine ⟨⟨⟨h.P, ⟨m1, m2, fun j hj => ?_, m4, m5, m6, m7, m8, m9, m10, m11, m12⟩⟩, ⟨h.z, h.b⟩, mC_of h.C rfl rfl rfl rfl rfl rfl⟩, ⟨⟨h.e1, h.e2⟩, ⟨h.e3, fun j hj => ?_⟩, fun a k ha hk => ?_⟩, h.2.2.1, h.2.2.2.1, fun j hj => ?_, h.2.2.2.2.2⟩
  · show 0 ≤ (upd (RA 25) i (nI (p + 1)) j).toInt ∧ (upd (RA 25) i (nI (p + 1)) j).toInt ≤ 3
    by_cases e : j = i
    · rw [e, pk_us, nI_toInt (by omega)]; omega
    · rw [pk_un e]; exact m3 j hj
  · show upd (vl 4) i (nI (p + 1)) j = upd (RA 25) i (nI (p + 1)) j
    by_cases e : j = i
    · rw [e, pk_us, pk_us]
    · rw [pk_un e, pk_un e]; exact h.e4 j hj
  · show upd (vl 5) (3 * i + p) (ps 18) (3 * a + k) = upd (RA 24) (3 * i + p) (RS 19) (3 * a + k)
    have hk : k < (upd (RA 25) i (nI (p + 1)) a).toNatClampNeg := hk
    have h18 : ps 18 = RS 19 := h.P.2.2.2.2.2.2.2.1
    by_cases e : a = i
    · rw [e, pk_us, nI_clamp (by omega)] at hk
      by_cases e2 : k = p
      · rw [e, e2, pk_us, pk_us, h18]
      · rw [pk_un (by omega), pk_un (by omega)]
        exact h.e5 a k ha (by rw [e, hp, nI_clamp (by omega)]; omega)
    · rw [pk_un e] at hk
      have := mI_pm h.M a (by omega)
      rw [pk_un (by omega), pk_un (by omega)]
      exact h.e5 a k ha hk
  · show 0 ≤ (upd (RA 24) (3 * i + p) (RS 19) j).toInt
    by_cases e : j = 3 * i + p
    · rw [e, pk_us]; omega
    · rw [pk_un e]; exact h.w5 j hj
/-- whether a prop may be put there -/
theorem rp_no (h : sX ML MS PL PS VL VS RA RS RN) (v1 : Int32) (c : m_isRoof RN v1 = 0) : o_refusalOfProp VL VS PS v1 = -1 := by
  unfold o_refusalOfProp
  rw [if_pos ((roof_eq (PS := PS) h.D.P.1 h.D.many v1).1.mpr c)]
theorem rp_at (h : sX ML MS PL PS VL VS RA RS RN) {i : Nat} (hi : i < RN 4) (c : ¬ m_isRoof RN (nI i) = 0) : o_refusalOfProp VL VS PS (nI i) = if m_has (RS 26) (nI i) = 0 then -2 else if RA 25 i = 3 then -3 else 0 := by
  have h8 := h.D.many
  unfold o_refusalOfProp
  rw [if_neg (show ¬ o_isRoof PS (nI i) = 0 from fun q => c ((roof_eq (PS := PS) h.D.P.1 h.D.many (nI i)).1.mp q)), st9 h hi, rg_in (by omega) (by omega), h.D.e4 i hi]
  by_cases c2 : m_has (RS 26) (nI i) = 0
  · rw [if_pos c2, if_pos c2]
  · rw [if_neg c2, if_neg c2]
    have hp := kNat (mI_pm0 h.D.M i (by omega))
    have hp3 := mI_pm h.D.M i (by omega)
    by_cases c3 : RA 25 i = 3
    · rw [if_pos c3, c3, if_neg (by decide)]
    · rw [if_neg c3, if_pos]
      rw [hp]
      refine nI_lt (b := 3) ?_ (by omega)
      rcases Nat.lt_or_ge (RA 25 i).toNatClampNeg 3 with q | q
      · exact q
      · exact absurd (by rw [hp, show (RA 25 i).toNatClampNeg = 3 by omega]; rfl) c3
theorem sim_prop (h : sX ML MS PL PS VL VS RA RS RN) (v1 : Int32) : (o_prop VL VS PS v1).1 = (m_prop RA RS RN v1).1 ∧ sX ML MS PL PS (va_up VL 0 (va_up (va_up (VL 0) 4 (o_prop VL VS PS v1).2.1) 5 (o_prop VL VS PS v1).2.2)) VS (va_up (va_up RA 24 (m_prop RA RS RN v1).2.1) 25 (m_prop RA RS RN v1).2.2) RS RN := by
  have h8 := h.D.many
  have stay : sX ML MS PL PS (va_up VL 0 (va_up (va_up (VL 0) 4 (VL 0 4)) 5 (VL 0 5))) VS (va_up (va_up RA 24 (RA 24)) 25 (RA 25)) RS RN := by rw [va_eta, va_eta, va_eta, va_eta, va_eta]; exact h
  have hr := roof_eq (PS := PS) h.D.P.1 h.D.many v1
  unfold o_prop m_prop
  by_cases c : m_isRoof RN v1 = 0
  · rw [rp_no h v1 c, if_pos c, if_neg (show ¬ (-1 : Int32) = 0 by decide)]; exact ⟨rfl, stay⟩
  · obtain ⟨i, hi, rfl⟩ := hr.2 c
    rw [rp_at h hi c, if_neg c, nI_clamp (by omega)]
    by_cases c2 : m_has (RS 26) (nI i) = 0
    · rw [if_pos c2, if_pos c2, if_neg (show ¬ (-2 : Int32) = 0 by decide)]; exact ⟨rfl, stay⟩
    · rw [if_neg c2, if_neg c2]
      by_cases c3 : RA 25 i = 3
      · rw [if_pos c3, if_pos c3, if_neg (show ¬ (-3 : Int32) = 0 by decide)]; exact ⟨rfl, stay⟩
      · rw [if_neg c3, if_neg c3, if_pos rfl]
        have hp := kNat (mI_pm0 h.D.M i (by omega))
        have hp3 := mI_pm h.D.M i (by omega)
        have hlt : (RA 25 i).toNatClampNeg < 3 := by
          rcases Nat.lt_or_ge (RA 25 i).toNatClampNeg 3 with q | q
          · exact q
          · exact absurd (by rw [hp, show (RA 25 i).toNatClampNeg = 3 by omega]; rfl) c3
        obtain ⟨p, ep⟩ : ∃ p, p = (RA 25 i).toNatClampNeg := ⟨_, rfl⟩
        rw [← ep] at hp hlt ⊢
        rw [ap_eq (by omega) ((h.D.e4 i hi).trans hp) hlt, hp, nI_1]
        refine ⟨?_, h.vill (h.D.prop hi hp hlt) ⟨⟨⟨rfl, rfl⟩, ⟨rfl, rfl⟩, ⟨rfl, rfl⟩, ⟨rfl, rfl⟩, rfl, rfl⟩, ⟨⟨rfl, rfl⟩, ⟨rfl, rfl⟩, rfl, rfl⟩, rfl⟩ rfl rfl rfl rfl rfl rfl ⟨⟨rfl, rfl⟩, rfl, rfl⟩⟩
        show rg 8 (upd (VL 0 4) i (nI (p + 1))) (nI i) = upd (RA 25) i (nI (p + 1)) i
        rw [rg_in (by omega) (by omega), pk_us, pk_us]
end SIM3
