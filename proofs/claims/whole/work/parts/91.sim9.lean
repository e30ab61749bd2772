/-! out -/
section SIM9
variable {ML : Nat → Nat → Int32} {MS : Nat → Int32} {PL : Nat → Nat → Nat → Int32} {PS : Nat → Nat → Int32} {VL : Nat → Nat → Nat → Int32} {VS : Nat → Nat → Int32} {RA : Nat → Nat → Int32} {RS : Nat → Int32} {RN : Nat → Nat}
theorem nN_1 (VL : Nat → Nat → Nat → Int32) (VS : Nat → Nat → Int32) (f1 f5 f6 : Nat → Int32) : va_up (va_up (va_up (va_up (va_up (va_up (VL 3) 1 f1) 2 ((v_startFrom (VL 3) (VL 0) (VS 0)).2.1)) 3 ((v_startFrom (VL 3) (VL 0) (VS 0)).2.2.1)) 4 ((v_startFrom (VL 3) (VL 0) (VS 0)).2.2.2.1)) 5 f5) 6 f6 = nV (nS (VL 3) (VL 0) (VS 0)) f1 f5 f6 := nN_V
theorem nN_2 (VL : Nat → Nat → Nat → Int32) (VS : Nat → Nat → Int32) (s10 s11 : Int32) : va_up (va_up (va_up (va_up (va_up (VS 3) 8 ((v_startFrom (VL 3) (VL 0) (VS 0)).2.2.2.2.2.2.1)) 9 ((v_startFrom (VL 3) (VL 0) (VS 0)).2.2.2.2.2.2.2.1)) 10 s10) 11 s11) 12 ((v_startFrom (VL 3) (VL 0) (VS 0)).2.2.2.2.2.2.2.2.2.2) = nW (nT (VL 3) (VL 0) (VS 0) (VS 3)) s10 s11 := nN_W
def oK (v5 v6 : Int32) : Int32 := if v6 = (-4) then (-4) else (if v5 ≤ v6 then (v6 - v5) else (-4))
theorem k80_1 {a b c : Nat → Int32} {s v5 v6 : Int32} : (m_out_k80 a b c s v5 v6).1 = oK v5 v6 := by
  unfold m_out_k80 oK
  by_cases h : v6 = -4
  · rw [if_pos h, if_pos h]
  · rw [if_neg h, if_neg h]
    by_cases k : v5 ≤ v6
    · rw [if_pos k, if_pos k]
    · rw [if_neg k, if_neg k]
theorem L80_k {s38 v2 v3 v4 v6 : Int32} {v1 : Nat} (h : ¬ v6 = -4) (n i : Nat) (a b c : Nat → Int32) : (m_out_L80 RA RS RN s38 v1 v2 v3 v4 n i v6 a b c).1 = v6 := by
  cases n with
  | zero => rw [m_out_L80.eq_1]
  | succ n => rw [m_out_L80.eq_2, if_neg h]
theorem out_L {s38 v2 v3 v4 v5 : Int32} {a : Nat} (h : sX ML MS PL PS VL VS RA RS RN) (ha : a < RN 4) (HO : hourOk (nS (VL 3) (VL 0) (VS 0)) (nT (VL 3) (VL 0) (VS 0) (VS 3)) (PL 0) (PS 0) RA (va_up RS 38 s38) RN v2 (RS 15) v2 (-4)) : ∀ (n i : Nat) (f1 f5 f6 : Nat → Int32) (s10 s11 : Int32) (g36 g37 g39 : Nat → Int32), i + n ≤ RN 32 → sF (nV (nS (VL 3) (VL 0) (VS 0)) f1 f5 f6) (nW (nT (VL 3) (VL 0) (VS 0) (VS 3)) s10 s11) (PL 0) (PS 0) (nR RA g36 g37 g39) (va_up RS 38 s38) RN →
    (o_out_L75 ML VL VS PL PS ((v_startFrom (VL 3) (VL 0) (VS 0)).2.1) ((v_startFrom (VL 3) (VL 0) (VS 0)).2.2.1) ((v_startFrom (VL 3) (VL 0) (VS 0)).2.2.2.1) ((v_startFrom (VL 3) (VL 0) (VS 0)).2.2.2.2.2.2.1) ((v_startFrom (VL 3) (VL 0) (VS 0)).2.2.2.2.2.2.2.1) ((v_startFrom (VL 3) (VL 0) (VS 0)).2.2.2.2.2.2.2.2.2.2) (nI a) v2 v3 v4 v5 n (i + 1) f1 f5 f6 s10 s11).1 = oK v5 (m_out_L80 RA RS RN s38 a v2 v3 v4 n i (-4) g36 g37 g39).1 := by
  have h12 := mI_rowMany h.D.M
  intro n
  induction n with
  | zero => intro i f1 f5 f6 s10 s11 g36 g37 g39 _ hF; rw [o_out_L75.eq_1, m_out_L80.eq_1]; rfl
  | succ n ih =>
    intro i f1 f5 f6 s10 s11 g36 g37 g39 hin hF
    rw [o_out_L75.eq_2, m_out_L80.eq_2, if_pos rfl]
    obtain ⟨k, hk, ek⟩ : ∃ k, k < 3 ∧ RA 31 i = nI k := ⟨(RA 31 i).toNatClampNeg, mI_row h.D.M i (by omega), kNat (mI_row0 h.D.M i (by omega))⟩
    rw [nI_pred, rg_in (n := 12) (by omega) (by omega), h.skies.2 i (by omega), ek, nI_clamp (n := k) (by omega), show PS 0 14 = RS 15 from h.D.P.2.2.2.2.2.1.1]
    simp only [nN_1 VL VS, nN_2 VL VS]
    have hF' := HO f1 f5 f6 s10 s11 g36 g37 g39 k hk hF
    have q := cg_eq hF' ha
    have q2 : v_chances (VL 0) (PL 0) (nI a) = m_chances RA a := ch_eq h.D.P h.D.M h.D.z ha (h.D.e2 a ha)
    have q3 : ∀ x y z, m_chances (nR RA x y z) a = m_chances RA a := fun x y z => be_cg (RA := nR RA x y z) (RA' := RA) rfl rfl rfl rfl 1000000
    have q4 : ∀ x y z, va_up (va_up (va_up RA 36 x) 37 y) 39 z = nR RA x y z := fun _ _ _ => rfl
    simp only [q4]
    rw [q, q2, q3]
    have q5 : ∀ x y z, nR RA x y z 39 = z := fun _ _ _ => rfl
    rw [q5]
    split
    · exact ih (i + 1) _ _ _ _ _ _ _ _ (by omega) hF'
    · have hne : ¬ nI (i + 1) = -4 := fun e => by
        have e := congrArg Int32.toInt e
        rw [nI_toInt (by omega), show (-4 : Int32).toInt = -4 by decide] at e
        omega
      rw [L80_k hne]
      unfold oK
      rw [if_neg hne]
      by_cases c5 : v5 ≤ nI (i + 1)
      · rw [if_pos c5, if_pos c5]
      · rw [if_neg c5, if_neg c5]
theorem sim_out (h : sX ML MS PL PS VL VS RA RS RN) (v1 v2 v3 v4 v5 : Int32) : (o_out ML MS VL VS PL PS v1 v2 v3 v4 v5).1 = (m_out RA RS RN v1 v2 v3 v4 v5).1 := by
  have hr := roof_eq (PS := PS) h.D.P.1 h.D.many v1
  have h8 := h.D.many
  have h12 := mI_rowMany h.D.M
  have hb := rB_hands h.D.b
  have i1 : (1 : Int32).toInt = 1 := by decide
  have i9 : (9 : Int32).toInt = 9 := by decide
  have i100 : (100 : Int32).toInt = 100 := by decide
  have in4 := in_0 v4 1 100
  have in3 := in_0 v3 1 v4.toInt64
  have in5 := in_0 v5 0 9
  rw [show (1 : Int64).toInt = 1 by decide, show (100 : Int64).toInt = 100 by decide] at in4
  rw [show (1 : Int64).toInt = 1 by decide, Int32.toInt_toInt64] at in3
  rw [show (0 : Int64).toInt = 0 by decide, show (9 : Int64).toInt = 9 by decide] at in5
  unfold o_out m_out
  by_cases c : m_isRoof RN v1 = 0
  · rw [if_pos (hr.1.mpr c), if_pos c]
  rw [if_neg (show ¬ o_isRoof PS v1 = 0 from fun q => c (hr.1.mp q)), if_neg c]
  obtain ⟨a, ha, rfl⟩ := hr.2 c
  by_cases c2 : m_isRule v2 = 0
  · rw [if_pos ((rule_eq v2).mpr c2), if_pos c2]
  rw [if_neg (show ¬ o_isRule v2 = 0 from fun q => c2 ((rule_eq v2).mp q)), if_neg c2, nI_clamp (n := a) (by omega), h.D.stands (i := a) (by omega)]
  by_cases d : (1 ≤ v3.toInt ∧ v4.toInt ≤ 100 ∧ v3.toInt ≤ v4.toInt) ∧ 0 ≤ v5.toInt ∧ v5.toInt ≤ 9
  · rw [if_neg (show ¬ v3 < 1 by rw [ti_lt, i1]; omega), if_neg (show ¬ 100 < v4 by rw [ti_lt, i100]; omega), if_neg (show ¬ v4 < v3 by rw [ti_lt]; omega), if_neg (show ¬ v5 < 0 by rw [ti_lt, ti_0]; omega), if_pos (show v5 ≤ 9 by rw [ti_le, i9]; omega),
      if_neg (show ¬ m_in v4.toInt64 1 100 = 0 from fun q => by rcases in4.mp q with q | q <;> omega), if_neg (show ¬ m_in v3.toInt64 1 v4.toInt64 = 0 from fun q => by rcases in3.mp q with q | q <;> omega), if_neg (show ¬ m_in v5.toInt64 0 9 = 0 from fun q => by rcases in5.mp q with q | q <;> omega)]
    by_cases c3 : m_has (RS 26) (nI a) = 0
    · rw [if_pos c3, if_pos c3]
    rw [if_neg c3, if_neg c3, k80_1, h.skies.1, nI_clamp (n := RN 32) (by omega)]
    obtain ⟨q1, q2, -, -⟩ := h.D.begun (vl' := VL 3) (vs' := VS 3)
    have e0 : nV (nS (VL 3) (VL 0) (VS 0)) ((v_startFrom (VL 3) (VL 0) (VS 0)).1) ((v_startFrom (VL 3) (VL 0) (VS 0)).2.2.2.2.1) ((v_startFrom (VL 3) (VL 0) (VS 0)).2.2.2.2.2.1) = (nS (VL 3) (VL 0) (VS 0)) := nN_V.symm
    have e1 : nW (nT (VL 3) (VL 0) (VS 0) (VS 3)) ((v_startFrom (VL 3) (VL 0) (VS 0)).2.2.2.2.2.2.2.2.1) ((v_startFrom (VL 3) (VL 0) (VS 0)).2.2.2.2.2.2.2.2.2.1) = (nT (VL 3) (VL 0) (VS 0) (VS 3)) := nN_W.symm
    exact out_L h ha (ho_rule (fun _ => ⟨q2, h.D.told⟩) (hands_le (by omega))) (RN 32) 0 _ _ _ _ _ _ _ _ (by omega) (by rw [e0, e1]; exact q1)
  · have n4 : (v3.toInt < 1 ∨ 100 < v4.toInt ∨ v4.toInt < v3.toInt) ∨ v5.toInt < 0 ∨ 9 < v5.toInt := by omega
    have em : (if m_in v4.toInt64 1 100 = 0 then ((-1), (RA 36), (RA 37), (RA 39), (RS 38)) else (if m_in v3.toInt64 1 v4.toInt64 = 0 then ((-1), (RA 36), (RA 37), (RA 39), (RS 38)) else (if m_in v5.toInt64 0 9 = 0 then ((-1), (RA 36), (RA 37), (RA 39), (RS 38)) else (if m_has (RS 26) (nI a) = 0 then ((-2), (RA 36), (RA 37), (RA 39), (RS 38)) else m_out_k80 (m_out_L80 RA RS RN ((m_load RA RS).2.2.2) a v2 v3 v4 (RN 32) 0 (-4) ((m_load RA RS).1) ((m_load RA RS).2.1) ((m_load RA RS).2.2.1)).2.1 (m_out_L80 RA RS RN ((m_load RA RS).2.2.2) a v2 v3 v4 (RN 32) 0 (-4) ((m_load RA RS).1) ((m_load RA RS).2.1) ((m_load RA RS).2.2.1)).2.2.1 (m_out_L80 RA RS RN ((m_load RA RS).2.2.2) a v2 v3 v4 (RN 32) 0 (-4) ((m_load RA RS).1) ((m_load RA RS).2.1) ((m_load RA RS).2.2.1)).2.2.2 ((m_load RA RS).2.2.2) v5 (m_out_L80 RA RS RN ((m_load RA RS).2.2.2) a v2 v3 v4 (RN 32) 0 (-4) ((m_load RA RS).1) ((m_load RA RS).2.1) ((m_load RA RS).2.2.1)).1)))) = ((-1), (RA 36), (RA 37), (RA 39), (RS 38)) := by
      by_cases d4 : m_in v4.toInt64 1 100 = 0
      · rw [if_pos d4]
      rw [if_neg d4]
      by_cases d3 : m_in v3.toInt64 1 v4.toInt64 = 0
      · rw [if_pos d3]
      rw [if_neg d3]
      rw [in3] at d3
      rw [in4] at d4
      rw [if_pos (in5.mpr (by omega))]
    rw [em]
    by_cases z1 : v3 < 1
    · rw [if_pos z1]
    by_cases z2 : 100 < v4
    · rw [if_neg z1, if_pos z2]
    by_cases z3 : v4 < v3
    · rw [if_neg z1, if_neg z2, if_pos z3]
    by_cases z4 : v5 < 0
    · rw [if_neg z1, if_neg z2, if_neg z3, if_pos z4]
    rw [if_neg z1, if_neg z2, if_neg z3, if_neg z4]
    rw [ti_lt] at z1 z2 z3 z4
    rw [i1] at z1
    rw [i100] at z2
    rw [ti_0] at z4
    rw [if_neg (show ¬ v5 ≤ 9 by rw [ti_le, i9]; omega)]
end SIM9
