/-! calls that write a little -/
theorem mI_told_up {RA : Nat → Nat → Int32} {RS : Nat → Int32} {RN : Nat → Nat} {k : Nat} (h : mI RA RS RN) (hk : k < 16) : mI RA RS (va_up RN 29 k) := ⟨h.1, h.2.1, h.2.2.1, h.2.2.2.1, hk, h.2.2.2.2.2⟩
theorem sD.tell {vl pl : Nat → Nat → Int32} {vs ps : Nat → Int32} {RA : Nat → Nat → Int32} {RS : Nat → Int32} {RN : Nat → Nat} (h : sD vl vs pl ps RA RS RN) {t : Nat} (ht : t < 2 * RN 4) : sD vl (va_up vs 12 (nI t)) pl ps RA RS (va_up RN 29 t) :=
  ⟨⟨⟨h.P, mI_told_up h.M (by have := h.many; omega)⟩, ⟨h.z, h.b⟩, h.C⟩, h.2.1, ⟨⟨h.v8, h.v9⟩, ⟨h.v10, h.v11⟩, rfl, ht⟩, h.2.2.2⟩
section SIM2
variable {ML : Nat → Nat → Int32} {MS : Nat → Int32} {PL : Nat → Nat → Nat → Int32} {PS : Nat → Nat → Int32} {VL VL' : Nat → Nat → Nat → Int32} {VS VS' : Nat → Nat → Int32} {RA RA' : Nat → Nat → Int32} {RS RS' : Nat → Int32} {RN RN' : Nat → Nat}
/-- the village itself has changed, and nothing else -/
theorem sX.vill (h : sX ML MS PL PS VL VS RA RS RN) (d : sD (VL' 0) (VS' 0) (PL 0) (PS 0) RA' RS' RN') (p : eP RA RA' RS RS' RN RN') (e0 : RA' 0 = RA 0) (e31 : RA' 31 = RA 31) (e33 : RA' 33 = RA 33) (n1 : RN' 1 = RN 1) (n32 : RN' 32 = RN 32) (n34 : RN' 34 = RN 34)
    (hv : (VL' 1 = VL 1 ∧ VL' 2 = VL 2) ∧ VS' 1 = VS 1 ∧ VS' 2 = VS 2) : sX ML MS PL PS VL' VS' RA' RS' RN' := by
  refine ⟨d, ⟨by rw [n1]; exact h.2.1.1, by rw [n1, e0]; exact h.2.1.2⟩, ⟨by rw [n32]; exact h.2.2.1.1, by rw [n32, e31]; exact h.2.2.1.2⟩, by rw [n34]; exact h.2.2.2.1, ?_, fun k hk => ?_⟩
  · unfold mK
    rw [n34, e33]; exact h.2.2.2.2.1
  · rw [n34] at hk
    have h34 := mI_kept h.D.M
    have q := (h.2.2.2.2.2 k hk).cg p e33
    rcases (show k = 0 ∨ k = 1 by omega) with rfl | rfl
    · rw [show 1 + 0 = 1 from rfl] at q ⊢; rw [hv.1.1, hv.2.1]; exact q
    · rw [show 1 + 1 = 2 from rfl] at q ⊢; rw [hv.1.2, hv.2.2]; exact q
theorem sim_tell (h : sX ML MS PL PS VL VS RA RS RN) (v1 v2 : Int32) : (o_tell VS PS v1 v2).1 = (m_tell RN v1 v2).1 ∧ sX ML MS PL PS VL (va_up VS 0 (va_up (VS 0) 12 (o_tell VS PS v1 v2).2)) RA RS (va_up RN 29 (m_tell RN v1 v2).2) := by
  have hr := roof_eq (PS := PS) h.D.P.1 h.D.many v1
  have h8 := h.D.many
  have stay : sX ML MS PL PS VL (va_up VS 0 (va_up (VS 0) 12 (VS 0 12))) RA RS (va_up RN 29 (RN 29)) := by rw [va_eta, va_eta, va_eta]; exact h
  have hin := in_0 v2 0 1
  rw [show (0 : Int64).toInt = 0 by decide, show (1 : Int64).toInt = 1 by decide] at hin
  have i1 : (1 : Int32).toInt = 1 := by decide
  unfold o_tell m_tell
  by_cases c : m_isRoof RN v1 = 0
  · rw [if_pos (hr.1.mpr c), if_pos c]; exact ⟨rfl, stay⟩
  · obtain ⟨i, hi, rfl⟩ := hr.2 c
    rw [if_neg (show ¬ o_isRoof PS (nI i) = 0 from fun q => c (hr.1.mp q)), if_neg c]
    by_cases c2 : v2 < 0
    · rw [if_pos c2, if_pos (hin.mpr (Or.inl (by rw [ti_lt, ti_0] at c2; exact c2)))]; exact ⟨rfl, stay⟩
    · rw [if_neg c2]
      rw [ti_lt, ti_0] at c2
      by_cases c3 : v2 ≤ 1
      · rw [if_pos c3]
        rw [ti_le, i1] at c3
        rw [if_neg (show ¬ m_in v2.toInt64 0 1 = 0 from fun q => by rcases hin.mp q with q | q <;> omega)]
        obtain ⟨k, hk, rfl⟩ : ∃ k, k < 2 ∧ v2 = nI k := ⟨v2.toNatClampNeg, kNat_lt (by omega) (by omega), kNat (by omega)⟩
        rw [nI_clamp (by omega), nI_clamp (by omega), nx2, nI_add]
        refine ⟨h.D.v12, h.vill (h.D.tell (t := 2 * i + k) (by omega)) ⟨⟨⟨rfl, rfl⟩, ⟨rfl, rfl⟩, ⟨rfl, rfl⟩, ⟨rfl, rfl⟩, rfl, rfl⟩, ⟨⟨rfl, rfl⟩, ⟨rfl, rfl⟩, rfl, rfl⟩, rfl⟩ rfl rfl rfl rfl rfl rfl ⟨⟨rfl, rfl⟩, rfl, rfl⟩⟩
      · rw [if_neg c3]
        rw [ti_le, i1] at c3
        rw [if_pos (hin.mpr (Or.inr (by omega)))]; exact ⟨rfl, stay⟩
theorem sim_sky (h : sX ML MS PL PS VL VS RA RS RN) (v : Int32) : (o_sky ML MS v).1 = (m_sky RA RN v).1 ∧ sX (va_up ML 2 (o_sky ML MS v).2.1) (va_up MS 1 (o_sky ML MS v).2.2) PL PS VL VS (va_up RA 31 (m_sky RA RN v).2.1) RS (va_up RN 32 (m_sky RA RN v).2.2) := by
  have stay : sX (va_up ML 2 (ML 2)) (va_up MS 1 (MS 1)) PL PS VL VS (va_up RA 31 (RA 31)) RS (va_up RN 32 (RN 32)) := by rw [va_eta, va_eta, va_eta, va_eta]; exact h
  have hk := sky_eq v
  have h32 := mI_rowMany h.D.M
  unfold o_sky m_sky
  by_cases c : m_isSky v = 0
  · rw [if_pos (hk.mpr c), if_pos c]; exact ⟨rfl, stay⟩
  · rw [if_neg (show ¬ o_isSky v = 0 from fun q => c (hk.mp q)), if_neg c, h.skies.1]
    have hv := m_isSky_t c
    obtain ⟨k, hk3, rfl⟩ : ∃ k, k < 3 ∧ v = nI k := ⟨v.toNatClampNeg, kNat_lt hv.2 (by omega), kNat hv.1⟩
    by_cases c2 : RN 32 = 12
    · rw [if_pos (show nI (RN 32) = 12 by rw [c2]; rfl), if_neg (show ¬ nI (RN 32) < 12 by rw [c2]; decide)]
      rw [show nI (RN 32) = MS 1 from h.skies.1.symm]
      exact ⟨rfl, stay⟩
    · rw [if_neg (show ¬ nI (RN 32) = 12 from fun q => c2 ((nI_eq (a := RN 32) (b := 12) (by omega) (by omega)).mp q)), if_pos (show nI (RN 32) < 12 from nI_lt (b := 12) (by omega) (by omega)), rs_in (by omega) (by omega), nI_clamp (by omega), nI_1]
      refine ⟨rfl, ?_⟩
      show sX (va_up ML 2 (upd (ML 2) (RN 32) (nI k))) (va_up MS 1 (nI (RN 32 + 1))) PL PS VL VS (va_up RA 31 (upd (RA 31) (RN 32) (nI k))) RS (va_up RN 32 (RN 32 + 1))
      obtain ⟨g1, g2, g3, g4⟩ := mG_of h.D.M
      have hg : mG (va_up RA 31 (upd (RA 31) (RN 32) (nI k))) (va_up RN 32 (RN 32 + 1)) := by
        refine ⟨show RN 32 + 1 ≤ 12 by omega, fun j hj => ?_, g3, g4⟩
        show 0 ≤ (upd (RA 31) (RN 32) (nI k) j).toInt ∧ (upd (RA 31) (RN 32) (nI k) j).toInt < 3
        by_cases e : j = RN 32
        · rw [e, pk_us, nI_toInt (by omega)]; omega
        · rw [pk_un e]; exact g2 j hj
      refine ⟨h.D.cg ⟨⟨⟨rfl, rfl⟩, ⟨rfl, rfl⟩, ⟨rfl, rfl⟩, ⟨rfl, rfl⟩, rfl, rfl⟩, ⟨⟨rfl, rfl⟩, ⟨rfl, rfl⟩, rfl, rfl⟩, rfl⟩ ⟨⟨fun _ _ => rfl, fun _ _ => rfl, fun _ _ => rfl, fun _ _ => rfl, fun _ _ => rfl⟩, ⟨rfl, rfl, rfl⟩, rfl, rfl⟩ eC.rf hg, h.2.1, ⟨rfl, fun j hj => ?_⟩, h.2.2.2.1, h.2.2.2.2.1, fun j hj => (h.2.2.2.2.2 j hj).cg ⟨⟨⟨rfl, rfl⟩, ⟨rfl, rfl⟩, ⟨rfl, rfl⟩, ⟨rfl, rfl⟩, rfl, rfl⟩, ⟨⟨rfl, rfl⟩, ⟨rfl, rfl⟩, rfl, rfl⟩, rfl⟩ rfl⟩
      have hj : j < RN 32 + 1 := hj
      show upd (ML 2) (RN 32) (nI k) j = upd (RA 31) (RN 32) (nI k) j
      by_cases e : j = RN 32
      · rw [e, pk_us, pk_us]
      · rw [pk_un e, pk_un e]; exact h.skies.2 j (by omega)
theorem sim_noSkies (h : sX ML MS PL PS VL VS RA RS RN) : (o_noSkies MS).1 = (m_noSkies RN).1 ∧ sX ML (va_up MS 1 (o_noSkies MS).2) PL PS VL VS RA RS (va_up RN 32 (m_noSkies RN).2) := by
  unfold o_noSkies m_noSkies
  obtain ⟨g1, g2, g3, g4⟩ := mG_of h.D.M
  refine ⟨h.skies.1, ?_⟩
  show sX ML (va_up MS 1 0) PL PS VL VS RA RS (va_up RN 32 0)
  exact ⟨h.D.cg ⟨⟨⟨rfl, rfl⟩, ⟨rfl, rfl⟩, ⟨rfl, rfl⟩, ⟨rfl, rfl⟩, rfl, rfl⟩, ⟨⟨rfl, rfl⟩, ⟨rfl, rfl⟩, rfl, rfl⟩, rfl⟩ ⟨⟨fun _ _ => rfl, fun _ _ => rfl, fun _ _ => rfl, fun _ _ => rfl, fun _ _ => rfl⟩, ⟨rfl, rfl, rfl⟩, rfl, rfl⟩ eC.rf ⟨Nat.zero_le _, g2, g3, g4⟩, h.2.1, ⟨rfl, fun j hj => absurd hj (Nat.not_lt_zero j)⟩, h.2.2.2.1, h.2.2.2.2.1, fun j hj => (h.2.2.2.2.2 j hj).cg ⟨⟨⟨rfl, rfl⟩, ⟨rfl, rfl⟩, ⟨rfl, rfl⟩, ⟨rfl, rfl⟩, rfl, rfl⟩, ⟨⟨rfl, rfl⟩, ⟨rfl, rfl⟩, rfl, rfl⟩, rfl⟩ rfl⟩
theorem sim_wipe (h : sX ML MS PL PS VL VS RA RS RN) : (o_wipe MS).1 = (m_wipe RN).1 ∧ sX ML (va_up MS 2 (o_wipe MS).2) PL PS VL VS RA RS (va_up RN 1 (m_wipe RN).2) := by
  unfold o_wipe m_wipe t_length t_clear
  obtain ⟨g1, g2, g3, g4⟩ := mG_of h.D.M
  refine ⟨h.2.1.1, ?_⟩
  show sX ML (va_up MS 2 0) PL PS VL VS RA RS (va_up RN 1 0)
  exact ⟨h.D.cg ⟨⟨⟨rfl, rfl⟩, ⟨rfl, rfl⟩, ⟨rfl, rfl⟩, ⟨rfl, rfl⟩, rfl, rfl⟩, ⟨⟨rfl, rfl⟩, ⟨rfl, rfl⟩, rfl, rfl⟩, rfl⟩ ⟨⟨fun _ _ => rfl, fun _ _ => rfl, fun _ _ => rfl, fun _ _ => rfl, fun _ _ => rfl⟩, ⟨rfl, rfl, rfl⟩, rfl, rfl⟩ eC.rf ⟨g1, g2, g3, Nat.zero_le _⟩, ⟨rfl, fun j hj => absurd hj (Nat.not_lt_zero j)⟩, h.2.2.1, h.2.2.2.1, h.2.2.2.2.1, fun j hj => (h.2.2.2.2.2 j hj).cg ⟨⟨⟨rfl, rfl⟩, ⟨rfl, rfl⟩, ⟨rfl, rfl⟩, ⟨rfl, rfl⟩, rfl, rfl⟩, ⟨⟨rfl, rfl⟩, ⟨rfl, rfl⟩, rfl, rfl⟩, rfl⟩ rfl⟩
theorem sim_goes (h : sX ML MS PL PS VL VS RA RS RN) (v1 v2 v3 : Int32) : o_goes VL VS PL PS v1 v2 v3 = (m_goes RA RS RN v1 v2 v3).1 := by
  have hr := roof_eq (PS := PS) h.D.P.1 h.D.many v1
  have h8 := h.D.many
  have hl := load_eq RA RS
  have hin := in_0 v2 0 200
  rw [show (0 : Int64).toInt = 0 by decide, show (200 : Int64).toInt = 200 by decide] at hin
  have hin3 := in_0 v3 0 1
  rw [show (0 : Int64).toInt = 0 by decide, show (1 : Int64).toInt = 1 by decide] at hin3
  have i1 : (1 : Int32).toInt = 1 := by decide
  have i200 : (200 : Int32).toInt = 200 := by decide
  unfold o_goes m_goes
  by_cases c : m_isRoof RN v1 = 0
  · rw [if_pos (hr.1.mpr c), if_pos c]
  · obtain ⟨i, hi, rfl⟩ := hr.2 c
    rw [if_neg (show ¬ o_isRoof PS (nI i) = 0 from fun q => c (hr.1.mp q)), if_neg c, nI_clamp (by omega)]
    by_cases c2 : v2 < 0
    · rw [if_pos c2, if_pos (hin.mpr (Or.inl (by rw [ti_lt, ti_0] at c2; exact c2)))]
    · rw [if_neg c2]
      rw [ti_lt, ti_0] at c2
      by_cases c3 : 200 < v2
      · rw [if_pos c3, if_pos (hin.mpr (Or.inr (by rw [ti_lt, i200] at c3; exact c3)))]
      · rw [if_neg c3]
        rw [ti_lt, i200] at c3
        rw [if_neg (show ¬ m_in v2.toInt64 0 200 = 0 from fun q => by rcases hin.mp q with q | q <;> omega)]
        by_cases c4 : v3 < 0
        · rw [if_pos c4, if_pos (hin3.mpr (Or.inl (by rw [ti_lt, ti_0] at c4; exact c4)))]
        · rw [if_neg c4]
          rw [ti_lt, ti_0] at c4
          by_cases c5 : v3 ≤ 1
          · rw [if_pos c5]
            rw [ti_le, i1] at c5
            rw [if_neg (show ¬ m_in v3.toInt64 0 1 = 0 from fun q => by rcases hin3.mp q with q | q <;> omega), st9 h hi]
            by_cases c6 : m_has (RS 26) (nI i) = 0
            · rw [if_pos c6, if_pos c6]
            · rw [if_neg c6, if_neg c6]
              have e1 : v_loadWith (VL 0) (PL 0) (PS 0) (nI i) v2 v2 = m_felt (nR RA (m_load RA RS).1 (m_load RA RS).2.1 (m_load RA RS).2.2.1) (va_up RS 38 (m_load RA RS).2.2.2) i v2 v2 := by
                have w1 := h.D.w1 (2 * i) (by omega)
                have w2 := h.D.w1 (2 * i + 1) (by omega)
                have hpm := mI_pm h.D.M i (by omega)
                have q1 : nR RA (m_load RA RS).1 (m_load RA RS).2.1 (m_load RA RS).2.2.1 36 (2 * i) = RA 21 (2 * i) := hl.1 _ (by omega)
                have q2 : nR RA (m_load RA RS).1 (m_load RA RS).2.1 (m_load RA RS).2.2.1 36 (2 * i + 1) = RA 21 (2 * i + 1) := hl.1 _ (by omega)
                exact ld_eq (RA := nR RA (m_load RA RS).1 (m_load RA RS).2.1 (m_load RA RS).2.2.1) (RS := va_up RS 38 (m_load RA RS).2.2.2) (RN := RN) h.D.M h.D.P.2.2.2.2.2.2.1 (by omega) (h.D.P.2.1 i hi).1.1 ((h.D.e1 _ (by omega)).trans q1.symm) ((h.D.e1 _ (by omega)).trans q2.symm) (h.D.e4 i hi) (fun k hk => by
                  have hk : k < (RA 25 i).toNatClampNeg := hk
                  rw [h.D.e5 i k hi hk]
                  exact (hl.2.1 _ (by omega)).symm) (smal_of (by rw [q1, ti_add (by omega) (by omega)]; omega) (by rw [q1, ti_add (by omega) (by omega)]; omega)) (smal_of (by rw [q2, ti_add (by omega) (by omega)]; omega) (by rw [q2, ti_add (by omega) (by omega)]; omega))
              obtain ⟨p, hp⟩ : ∃ p, p = m_felt (nR RA (m_load RA RS).1 (m_load RA RS).2.1 (m_load RA RS).2.2.1) (va_up RS 38 (m_load RA RS).2.2.2) i v2 v2 := ⟨_, rfl⟩
              rw [e1, ← hp, cb_eq h.D.P h.D.M h.D.z hi (h.D.e2 i hi), ch_eq h.D.P h.D.M h.D.z hi (h.D.e2 i hi)]
              have b1 : m_below (nR RA (m_load RA RS).1 (m_load RA RS).2.1 (m_load RA RS).2.2.1) i p = m_below RA i p := be_cg (RA := nR RA (m_load RA RS).1 (m_load RA RS).2.1 (m_load RA RS).2.2.1) (RA' := RA) rfl rfl rfl rfl p
              have b2 : m_chances (nR RA (m_load RA RS).1 (m_load RA RS).2.1 (m_load RA RS).2.2.1) i = m_chances RA i := be_cg (RA := nR RA (m_load RA RS).1 (m_load RA RS).2.1 (m_load RA RS).2.2.1) (RA' := RA) rfl rfl rfl rfl _
              have n1 := m_below_all h.D.M rfl rfl (i := i) (by omega) p
              have n2 := m_below_all h.D.M rfl rfl (i := i) (by omega) 1000000
              have n3 : 0 ≤ (m_chances RA i).toInt ∧ (m_chances RA i).toInt ≤ 40 := n2
              obtain ⟨x, hx, ex⟩ : ∃ x, x < 100 ∧ m_below RA i p = nI x := ⟨(m_below RA i p).toNatClampNeg, kNat_lt (by omega) (by omega), kNat n1.1⟩
              obtain ⟨y, hy, ey⟩ : ∃ y, y < 100 ∧ m_chances RA i = nI y := ⟨(m_chances RA i).toNatClampNeg, kNat_lt (by omega) (by omega), kNat n3.1⟩
              have hC := h.D.C i hi c6
              have hy0 : 0 < y := by
                rcases Nat.eq_zero_or_pos y with q | q
                · rw [ey, q] at hC; exact absurd rfl hC
                · exact q
              have hg : 0 < Nat.gcd x y := Nat.gcd_pos_of_pos_right x hy0
              have hg2 : Nat.gcd x y ≤ y := Nat.gcd_le_right x hy0
              rw [ex, ey, gc_eq hx hy, if_neg (show ¬ nI (Nat.gcd x y) = 0 from nI_ne0 hg (by omega))]
              show (if v3 = 0 then _ else _) = (if v3 = 0 then ((m_below (nR RA (m_load RA RS).1 (m_load RA RS).2.1 (m_load RA RS).2.2.1) i (m_felt (nR RA (m_load RA RS).1 (m_load RA RS).2.1 (m_load RA RS).2.2.1) (va_up RS 38 (m_load RA RS).2.2.2) i v2 v2)) / (m_divisor (m_below (nR RA (m_load RA RS).1 (m_load RA RS).2.1 (m_load RA RS).2.2.1) i (m_felt (nR RA (m_load RA RS).1 (m_load RA RS).2.1 (m_load RA RS).2.2.1) (va_up RS 38 (m_load RA RS).2.2.2) i v2 v2)).toInt64 (m_chances (nR RA (m_load RA RS).1 (m_load RA RS).2.1 (m_load RA RS).2.2.1) i).toInt64).toInt32, (m_load RA RS).1, (m_load RA RS).2.1, (m_load RA RS).2.2.1, (m_load RA RS).2.2.2) else ((m_chances (nR RA (m_load RA RS).1 (m_load RA RS).2.1 (m_load RA RS).2.2.1) i) / (m_divisor (m_below (nR RA (m_load RA RS).1 (m_load RA RS).2.1 (m_load RA RS).2.2.1) i (m_felt (nR RA (m_load RA RS).1 (m_load RA RS).2.1 (m_load RA RS).2.2.1) (va_up RS 38 (m_load RA RS).2.2.2) i v2 v2)).toInt64 (m_chances (nR RA (m_load RA RS).1 (m_load RA RS).2.1 (m_load RA RS).2.2.1) i).toInt64).toInt32, (m_load RA RS).1, (m_load RA RS).2.1, (m_load RA RS).2.2.1, (m_load RA RS).2.2.2)).1
              rw [← hp, b1, b2, ex, ey]
              have hd := dv_eq (a := nI x) (b := nI y) (by rw [nI_toInt (by omega)]; omega) (by rw [nI_toInt (by omega)]; omega)
              rw [nI_clamp (by omega), nI_clamp (by omega)] at hd
              rw [hd]
              split <;> rfl
          · rw [if_neg c5]
            rw [ti_le, i1] at c5
            rw [if_pos (hin3.mpr (Or.inr (by omega)))]
end SIM2
