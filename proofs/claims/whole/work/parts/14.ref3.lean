section REF
variable {l : Launch} {dC : Nat → ClassId} {dI : Nat → Nat → Nat} {cI : ClassId} {ad : Nat → Nat} {RA : Nat → Nat → Int32} {RS : Nat → Int32} {RN : Nat → Nat} {RL : Int64}
-- X8_roof
def m_roof (RA : Nat → Nat → Int32) (RS : Nat → Int32) (RN : Nat → Nat) (v1 : Int32) (v2 : Int32) : Int32 × (Nat → Int32) × (Nat → Int32) × (Nat → Int32) × Int32 := if (m_isRoof RN v1) = 0 then ((-1), (RA 36), (RA 37), (RA 39), (RS 38)) else (if v2 = 0 then ((RA 21 ((2 * v1.toNatClampNeg) + v2.toNatClampNeg)), (m_load RA RS).1, (m_load RA RS).2.1, (m_load RA RS).2.2.1, (m_load RA RS).2.2.2) else (if v2 = 1 then ((RA 21 ((2 * v1.toNatClampNeg) + v2.toNatClampNeg)), (m_load RA RS).1, (m_load RA RS).2.1, (m_load RA RS).2.2.1, (m_load RA RS).2.2.2) else (if v2 = 2 then ((m_pressOf (va_up (va_up (va_up RA 36 ((m_load RA RS).1)) 37 ((m_load RA RS).2.1)) 39 ((m_load RA RS).2.2.1)) v1.toNatClampNeg (RA 21 (2 * v1.toNatClampNeg)) (RA 21 ((2 * v1.toNatClampNeg) + 1))), (m_load RA RS).1, (m_load RA RS).2.1, (m_load RA RS).2.2.1, (m_load RA RS).2.2.2) else (if v2 = 3 then ((m_done (va_up (va_up (va_up RA 36 ((m_load RA RS).1)) 37 ((m_load RA RS).2.1)) 39 ((m_load RA RS).2.2.1)) (va_up RS 38 ((m_load RA RS).2.2.2)) v1.toNatClampNeg), (m_load RA RS).1, (m_load RA RS).2.1, (m_load RA RS).2.2.1, (m_load RA RS).2.2.2) else (if v2 = 4 then ((RA 25 v1.toNatClampNeg), (m_load RA RS).1, (m_load RA RS).2.1, (m_load RA RS).2.2.1, (m_load RA RS).2.2.2) else (if v2 = 5 then ((((RS 26) >>> ((nI v1.toNatClampNeg) &&& 31)) &&& 1), (m_load RA RS).1, (m_load RA RS).2.1, (m_load RA RS).2.2.1, (m_load RA RS).2.2.2) else (if v2 = 6 then ((RA 23 v1.toNatClampNeg), (m_load RA RS).1, (m_load RA RS).2.1, (m_load RA RS).2.2.1, (m_load RA RS).2.2.2) else (if v2 = 7 then ((RA 9 v1.toNatClampNeg), (m_load RA RS).1, (m_load RA RS).2.1, (m_load RA RS).2.2.1, (m_load RA RS).2.2.2) else ((-1), (m_load RA RS).1, (m_load RA RS).2.1, (m_load RA RS).2.2.1, (m_load RA RS).2.2.2)))))))))
set_option maxHeartbeats 4000000 in
set_option maxRecDepth 100000 in
theorem c_m_roof (hI : kInj ad 24) (v1 : Int32) (v2 : Int32) (hM : mI RA RS RN) : Met l yX8_roof (.code yX8_roof cX8_roof 3 (some .int) :: kT) ({ frames := 2, cells := 0, slots := 0, locals := 46 } : Room) (va_Pc [.ref (ad 0), .int v1, .int v2] (kB (dC, dI) [(cI, .int)] (RWs cI ad RA RS RN RL))) (kQ (some (.int ((m_roof RA RS RN v1 v2).1))) (kB (dC, dI) [(cI, .int)] (RWs cI ad (va_up (va_up (va_up RA 36 ((m_roof RA RS RN v1 v2).2.1)) 37 ((m_roof RA RS RN v1 v2).2.2.1)) 39 ((m_roof RA RS RN v1 v2).2.2.2.1)) (va_up RS 38 ((m_roof RA RS RN v1 v2).2.2.2.2)) RN RL)) (kAA ad 24)) 0 0 (kAA ad 24) := by
  refine kMet (by decide) (fun p e s m args below meth c ls hx hb hr hml hts hown hlocks hname hargs hB hl => ?_) (Nat.le_of_ble_eq_true rfl)
  obtain ⟨hP, hK, hN⟩ := hB
  have hl : lv_has ls 3 [(0, .ref (ad 0)), (1, .int v1), (2, .int v2)] := hl
  have hS : va_S (kAA ad 24) s.heap s.heap [] := va_S.rf
  have h4 : RN 4 ≤ 8 := mI_many hM
  refine lv_aload_n hx hb dX8_roof_0 rfl (lv_at hl 0 rfl) ?_
  refine lv_iload_n hx hb dX8_roof_1 rfl (lv_at hl 1 rfl) ?_
  refine k_rV (v := .int (m_isRoof RN v1)) (As := [.int v1]) (rest := []) hx hb hml hown hts hl.1 hP hK hN (c_m_isRoof hI v1) eX8_221 (ci := 7) (q0 := 0) rfl rfl rfl rfl rfl (Nat.le_of_ble_eq_true rfl) ⟨Nat.le_of_ble_eq_true rfl, Nat.le_of_ble_eq_true rfl⟩ ⟨rfl, rfl⟩ ⟨Nat.le_of_ble_eq_true rfl, Nat.le_of_ble_eq_true rfl⟩ dX8_roof_2 ?_
  refine lv_if_ne (tgt := 10) hx hb dX8_roof_5 (by decide) (fun c_10 => ?_) (fun c_10 => ?_)
  · have hr1 := m_isRoof_t h4 c_10
    have hnat1 : v1 = (nI v1.toNatClampNeg) := kNat hr1.1
    have hl : lv_has ls 3 [(0, .ref (ad 0)), (1, .int (nI v1.toNatClampNeg)), (2, .int v2)] := by rw [← hnat1]; exact hl
    have hr1b : v1.toNatClampNeg < (RN 4) := kNat_lt hr1.2 (by omega)
    refine lv_aload_n hx hb dX8_roof_10 rfl (lv_at hl 0 rfl) ?_
    refine k_wV (r := none) (As := []) (rest := []) hx hb hml hown hts hl.1 hP hK hN hS (c_m_load hI) eX8_212 (ci := 7) (q0 := 0) rfl rfl rfl rfl rfl (Nat.le_of_ble_eq_true rfl) ⟨Nat.le_of_ble_eq_true rfl, Nat.le_of_ble_eq_true rfl⟩ ⟨rfl, rfl⟩ ⟨Nat.le_of_ble_eq_true rfl, Nat.le_of_ble_eq_true rfl⟩ dX8_roof_11 (fun H locs hP hS => ?_)
    obtain ⟨r_11, hr_11⟩ : ∃ z, z = (m_load RA RS) := ⟨_, rfl⟩
    rw [← hr_11] at hP
    have hP : va_P (dC, dI) vwCl (RWs cI ad (va_up (va_up (va_up RA 36 r_11.1) 37 r_11.2.1) 39 r_11.2.2.1) (va_up RS 38 r_11.2.2.2) RN RL) H := (RWs_conv rfl rfl rfl rfl rfl rfl rfl rfl rfl rfl rfl rfl rfl rfl rfl rfl rfl rfl rfl rfl rfl rfl rfl rfl rfl rfl rfl rfl rfl rfl rfl rfl rfl rfl rfl rfl rfl rfl rfl rfl rfl hP)
    refine lv_iload_n hx hb dX8_roof_14 rfl (lv_at hl 2 rfl) ?_
    by_cases c_12 : v2 = 0
    · refine lv_tableIn (tgt := 60) hx hb dX8_roof_15 (by rw [c_12]; decide) (by rw [c_12]; decide) (by rw [c_12]; rfl) (by decide) ?_
      have hnat2 : v2 = (nI v2.toNatClampNeg) := kNat (by first | exact kz0 (by assumption) | exact kz1 (by assumption))
      have hl : lv_has ls 3 [(0, .ref (ad 0)), (1, .int (nI v1.toNatClampNeg)), (2, .int (nI v2.toNatClampNeg))] := by rw [← hnat2]; exact hl
      have hv2 : v2.toNatClampNeg ≤ 1 := by first | exact kc0 (by assumption) | exact kc1 (by assumption)
      refine lv_aload_n hx hb dX8_roof_60 rfl (lv_at hl 0 rfl) ?_
      refine m_get (v := .ref (ad 13)) hx hb hts hown hK hP 21 (by decide) rfl kX8_46 rfl dX8_roof_61 ?_
      refine lv_iconst (v := 2) hx hb dX8_roof_64 (by decide) ?_
      refine lv_iload_n hx hb dX8_roof_65 rfl (lv_at hl 1 rfl) ?_
      refine kn_imul hx hb 2 v1.toNatClampNeg rfl rfl dX8_roof_66 ?_
      refine lv_iload_n hx hb dX8_roof_67 rfl (lv_at hl 2 rfl) ?_
      refine kn_iadd hx hb (2 * v1.toNatClampNeg) v2.toNatClampNeg rfl rfl dX8_roof_68 ?_
      refine kn_iald (f := (RA 21)) (v := (RA 21 ((2 * v1.toNatClampNeg) + v2.toNatClampNeg))) hx hb hK hP 13 rfl ((2 * v1.toNatClampNeg) + v2.toNatClampNeg) rfl (by omega) (by omega) rfl dX8_roof_69 ?_
      have hE : (m_roof RA RS RN v1 v2) = ((RA 21 ((2 * v1.toNatClampNeg) + v2.toNatClampNeg)), r_11.1, r_11.2.1, r_11.2.2.1, r_11.2.2.2) := by subst hr_11; rw [m_roof, if_neg c_10, if_pos c_12]
      exact W.iret (v := (RA 21 ((2 * v1.toNatClampNeg) + v2.toNatClampNeg))) hx hb hr (fun t ht hW => ⟨by rw [hE], by rw [hE]; exact kB.of (ws := RWs cI ad (va_up (va_up (va_up RA 36 r_11.1) 37 r_11.2.1) 39 r_11.2.2.1) (va_up RS 38 r_11.2.2.2) RN RL) hP hK hN ht hW, hS.F ht⟩) hS.2.2 dX8_roof_70 hlocks
    · by_cases c_13 : v2 = 1
      · refine lv_tableIn (tgt := 60) hx hb dX8_roof_15 (by rw [c_13]; decide) (by rw [c_13]; decide) (by rw [c_13]; rfl) (by decide) ?_
        have hnat2 : v2 = (nI v2.toNatClampNeg) := kNat (by first | exact kz0 (by assumption) | exact kz1 (by assumption))
        have hl : lv_has ls 3 [(0, .ref (ad 0)), (1, .int (nI v1.toNatClampNeg)), (2, .int (nI v2.toNatClampNeg))] := by rw [← hnat2]; exact hl
        have hv2 : v2.toNatClampNeg ≤ 1 := by first | exact kc0 (by assumption) | exact kc1 (by assumption)
        refine lv_aload_n hx hb dX8_roof_60 rfl (lv_at hl 0 rfl) ?_
        refine m_get (v := .ref (ad 13)) hx hb hts hown hK hP 21 (by decide) rfl kX8_46 rfl dX8_roof_61 ?_
        refine lv_iconst (v := 2) hx hb dX8_roof_64 (by decide) ?_
        refine lv_iload_n hx hb dX8_roof_65 rfl (lv_at hl 1 rfl) ?_
        refine kn_imul hx hb 2 v1.toNatClampNeg rfl rfl dX8_roof_66 ?_
        refine lv_iload_n hx hb dX8_roof_67 rfl (lv_at hl 2 rfl) ?_
        refine kn_iadd hx hb (2 * v1.toNatClampNeg) v2.toNatClampNeg rfl rfl dX8_roof_68 ?_
        refine kn_iald (f := (RA 21)) (v := (RA 21 ((2 * v1.toNatClampNeg) + v2.toNatClampNeg))) hx hb hK hP 13 rfl ((2 * v1.toNatClampNeg) + v2.toNatClampNeg) rfl (by omega) (by omega) rfl dX8_roof_69 ?_
        have hE : (m_roof RA RS RN v1 v2) = ((RA 21 ((2 * v1.toNatClampNeg) + v2.toNatClampNeg)), r_11.1, r_11.2.1, r_11.2.2.1, r_11.2.2.2) := by subst hr_11; rw [m_roof, if_neg c_10, if_neg c_12, if_pos c_13]
        exact W.iret (v := (RA 21 ((2 * v1.toNatClampNeg) + v2.toNatClampNeg))) hx hb hr (fun t ht hW => ⟨by rw [hE], by rw [hE]; exact kB.of (ws := RWs cI ad (va_up (va_up (va_up RA 36 r_11.1) 37 r_11.2.1) 39 r_11.2.2.1) (va_up RS 38 r_11.2.2.2) RN RL) hP hK hN ht hW, hS.F ht⟩) hS.2.2 dX8_roof_70 hlocks
      · by_cases c_14 : v2 = 2
        · refine lv_tableIn (tgt := 71) hx hb dX8_roof_15 (by rw [c_14]; decide) (by rw [c_14]; decide) (by rw [c_14]; rfl) (by decide) ?_
          refine lv_aload_n hx hb dX8_roof_71 rfl (lv_at hl 0 rfl) ?_
          refine lv_iload_n hx hb dX8_roof_72 rfl (lv_at hl 1 rfl) ?_
          refine lv_aload_n hx hb dX8_roof_73 rfl (lv_at hl 0 rfl) ?_
          refine m_get (v := .ref (ad 13)) hx hb hts hown hK hP 21 (by decide) rfl kX8_46 rfl dX8_roof_74 ?_
          refine lv_iconst (v := 2) hx hb dX8_roof_77 (by decide) ?_
          refine lv_iload_n hx hb dX8_roof_78 rfl (lv_at hl 1 rfl) ?_
          refine kn_imul hx hb 2 v1.toNatClampNeg rfl rfl dX8_roof_79 ?_
          refine kn_iald (f := (RA 21)) (v := (RA 21 (2 * v1.toNatClampNeg))) hx hb hK hP 13 rfl (2 * v1.toNatClampNeg) rfl (by omega) (by omega) rfl dX8_roof_80 ?_
          refine lv_aload_n hx hb dX8_roof_81 rfl (lv_at hl 0 rfl) ?_
          refine m_get (v := .ref (ad 13)) hx hb hts hown hK hP 21 (by decide) rfl kX8_46 rfl dX8_roof_82 ?_
          refine lv_iconst (v := 2) hx hb dX8_roof_85 (by decide) ?_
          refine lv_iload_n hx hb dX8_roof_86 rfl (lv_at hl 1 rfl) ?_
          refine kn_imul hx hb 2 v1.toNatClampNeg rfl rfl dX8_roof_87 ?_
          refine lv_iconst (v := 1) hx hb dX8_roof_88 (by decide) ?_
          refine kn_iadd hx hb (2 * v1.toNatClampNeg) 1 rfl rfl dX8_roof_89 ?_
          refine kn_iald (f := (RA 21)) (v := (RA 21 ((2 * v1.toNatClampNeg) + 1))) hx hb hK hP 13 rfl ((2 * v1.toNatClampNeg) + 1) rfl (by omega) (by omega) rfl dX8_roof_90 ?_
          refine k_rV (v := .int (m_pressOf (va_up (va_up (va_up RA 36 r_11.1) 37 r_11.2.1) 39 r_11.2.2.1) v1.toNatClampNeg (RA 21 (2 * v1.toNatClampNeg)) (RA 21 ((2 * v1.toNatClampNeg) + 1)))) (As := [.int (nI v1.toNatClampNeg), .int (RA 21 (2 * v1.toNatClampNeg)), .int (RA 21 ((2 * v1.toNatClampNeg) + 1))]) (rest := []) hx hb hml hown hts hl.1 hP hK hN (c_m_pressOf hI v1.toNatClampNeg (RA 21 (2 * v1.toNatClampNeg)) (RA 21 ((2 * v1.toNatClampNeg) + 1)) (by omega)) eX8_197 (ci := 7) (q0 := 0) rfl rfl rfl rfl rfl (Nat.le_of_ble_eq_true rfl) ⟨Nat.le_of_ble_eq_true rfl, Nat.le_of_ble_eq_true rfl⟩ ⟨rfl, rfl⟩ ⟨Nat.le_of_ble_eq_true rfl, Nat.le_of_ble_eq_true rfl⟩ dX8_roof_91 ?_
          have hE : (m_roof RA RS RN v1 v2) = ((m_pressOf (va_up (va_up (va_up RA 36 r_11.1) 37 r_11.2.1) 39 r_11.2.2.1) v1.toNatClampNeg (RA 21 (2 * v1.toNatClampNeg)) (RA 21 ((2 * v1.toNatClampNeg) + 1))), r_11.1, r_11.2.1, r_11.2.2.1, r_11.2.2.2) := by subst hr_11; rw [m_roof, if_neg c_10, if_neg c_12, if_neg c_13, if_pos c_14]
          exact W.iret (v := (m_pressOf (va_up (va_up (va_up RA 36 r_11.1) 37 r_11.2.1) 39 r_11.2.2.1) v1.toNatClampNeg (RA 21 (2 * v1.toNatClampNeg)) (RA 21 ((2 * v1.toNatClampNeg) + 1)))) hx hb hr (fun t ht hW => ⟨by rw [hE], by rw [hE]; exact kB.of (ws := RWs cI ad (va_up (va_up (va_up RA 36 r_11.1) 37 r_11.2.1) 39 r_11.2.2.1) (va_up RS 38 r_11.2.2.2) RN RL) hP hK hN ht hW, hS.F ht⟩) hS.2.2 dX8_roof_94 hlocks
        · by_cases c_15 : v2 = 3
          · refine lv_tableIn (tgt := 95) hx hb dX8_roof_15 (by rw [c_15]; decide) (by rw [c_15]; decide) (by rw [c_15]; rfl) (by decide) ?_
            refine lv_aload_n hx hb dX8_roof_95 rfl (lv_at hl 0 rfl) ?_
            refine lv_iload_n hx hb dX8_roof_96 rfl (lv_at hl 1 rfl) ?_
            refine k_rV (v := .int (m_done (va_up (va_up (va_up RA 36 r_11.1) 37 r_11.2.1) 39 r_11.2.2.1) (va_up RS 38 r_11.2.2.2) v1.toNatClampNeg)) (As := [.int (nI v1.toNatClampNeg)]) (rest := []) hx hb hml hown hts hl.1 hP hK hN (c_m_done hI v1.toNatClampNeg hM (by omega)) eX8_201 (ci := 7) (q0 := 0) rfl rfl rfl rfl rfl (Nat.le_of_ble_eq_true rfl) ⟨Nat.le_of_ble_eq_true rfl, Nat.le_of_ble_eq_true rfl⟩ ⟨rfl, rfl⟩ ⟨Nat.le_of_ble_eq_true rfl, Nat.le_of_ble_eq_true rfl⟩ dX8_roof_97 ?_
            have hE : (m_roof RA RS RN v1 v2) = ((m_done (va_up (va_up (va_up RA 36 r_11.1) 37 r_11.2.1) 39 r_11.2.2.1) (va_up RS 38 r_11.2.2.2) v1.toNatClampNeg), r_11.1, r_11.2.1, r_11.2.2.1, r_11.2.2.2) := by subst hr_11; rw [m_roof, if_neg c_10, if_neg c_12, if_neg c_13, if_neg c_14, if_pos c_15]
            exact W.iret (v := (m_done (va_up (va_up (va_up RA 36 r_11.1) 37 r_11.2.1) 39 r_11.2.2.1) (va_up RS 38 r_11.2.2.2) v1.toNatClampNeg)) hx hb hr (fun t ht hW => ⟨by rw [hE], by rw [hE]; exact kB.of (ws := RWs cI ad (va_up (va_up (va_up RA 36 r_11.1) 37 r_11.2.1) 39 r_11.2.2.1) (va_up RS 38 r_11.2.2.2) RN RL) hP hK hN ht hW, hS.F ht⟩) hS.2.2 dX8_roof_100 hlocks
          · by_cases c_16 : v2 = 4
            · refine lv_tableIn (tgt := 101) hx hb dX8_roof_15 (by rw [c_16]; decide) (by rw [c_16]; decide) (by rw [c_16]; rfl) (by decide) ?_
              refine lv_aload_n hx hb dX8_roof_101 rfl (lv_at hl 0 rfl) ?_
              refine m_get (v := .ref (ad 17)) hx hb hts hown hK hP 25 (by decide) rfl kX8_58 rfl dX8_roof_102 ?_
              refine lv_iload_n hx hb dX8_roof_105 rfl (lv_at hl 1 rfl) ?_
              refine kn_iald (f := (RA 25)) (v := (RA 25 v1.toNatClampNeg)) hx hb hK hP 17 rfl v1.toNatClampNeg rfl (by omega) (by omega) rfl dX8_roof_106 ?_
              have hE : (m_roof RA RS RN v1 v2) = ((RA 25 v1.toNatClampNeg), r_11.1, r_11.2.1, r_11.2.2.1, r_11.2.2.2) := by subst hr_11; rw [m_roof, if_neg c_10, if_neg c_12, if_neg c_13, if_neg c_14, if_neg c_15, if_pos c_16]
              exact W.iret (v := (RA 25 v1.toNatClampNeg)) hx hb hr (fun t ht hW => ⟨by rw [hE], by rw [hE]; exact kB.of (ws := RWs cI ad (va_up (va_up (va_up RA 36 r_11.1) 37 r_11.2.1) 39 r_11.2.2.1) (va_up RS 38 r_11.2.2.2) RN RL) hP hK hN ht hW, hS.F ht⟩) hS.2.2 dX8_roof_107 hlocks
            · by_cases c_17 : v2 = 5
              · refine lv_tableIn (tgt := 108) hx hb dX8_roof_15 (by rw [c_17]; decide) (by rw [c_17]; decide) (by rw [c_17]; rfl) (by decide) ?_
                refine lv_aload_n hx hb dX8_roof_108 rfl (lv_at hl 0 rfl) ?_
                refine m_get (v := .int (RS 26)) hx hb hts hown hK hP 26 (by decide) rfl kX8_163 rfl dX8_roof_109 ?_
                refine lv_iload_n hx hb dX8_roof_112 rfl (lv_at hl 1 rfl) ?_
                refine lv_ishr hx hb dX8_roof_113 ?_
                refine lv_iconst (v := 1) hx hb dX8_roof_114 (by decide) ?_
                refine lv_iand hx hb dX8_roof_115 ?_
                have hE : (m_roof RA RS RN v1 v2) = ((((RS 26) >>> ((nI v1.toNatClampNeg) &&& 31)) &&& 1), r_11.1, r_11.2.1, r_11.2.2.1, r_11.2.2.2) := by subst hr_11; rw [m_roof, if_neg c_10, if_neg c_12, if_neg c_13, if_neg c_14, if_neg c_15, if_neg c_16, if_pos c_17]
                exact W.iret (v := (((RS 26) >>> ((nI v1.toNatClampNeg) &&& 31)) &&& 1)) hx hb hr (fun t ht hW => ⟨by rw [hE], by rw [hE]; exact kB.of (ws := RWs cI ad (va_up (va_up (va_up RA 36 r_11.1) 37 r_11.2.1) 39 r_11.2.2.1) (va_up RS 38 r_11.2.2.2) RN RL) hP hK hN ht hW, hS.F ht⟩) hS.2.2 dX8_roof_116 hlocks
              · by_cases c_18 : v2 = 6
                · refine lv_tableIn (tgt := 117) hx hb dX8_roof_15 (by rw [c_18]; decide) (by rw [c_18]; decide) (by rw [c_18]; rfl) (by decide) ?_
                  refine lv_aload_n hx hb dX8_roof_117 rfl (lv_at hl 0 rfl) ?_
                  refine m_get (v := .ref (ad 15)) hx hb hts hown hK hP 23 (by decide) rfl kX8_52 rfl dX8_roof_118 ?_
                  refine lv_iload_n hx hb dX8_roof_121 rfl (lv_at hl 1 rfl) ?_
                  refine kn_iald (f := (RA 23)) (v := (RA 23 v1.toNatClampNeg)) hx hb hK hP 15 rfl v1.toNatClampNeg rfl (by omega) (by omega) rfl dX8_roof_122 ?_
                  have hE : (m_roof RA RS RN v1 v2) = ((RA 23 v1.toNatClampNeg), r_11.1, r_11.2.1, r_11.2.2.1, r_11.2.2.2) := by subst hr_11; rw [m_roof, if_neg c_10, if_neg c_12, if_neg c_13, if_neg c_14, if_neg c_15, if_neg c_16, if_neg c_17, if_pos c_18]
                  exact W.iret (v := (RA 23 v1.toNatClampNeg)) hx hb hr (fun t ht hW => ⟨by rw [hE], by rw [hE]; exact kB.of (ws := RWs cI ad (va_up (va_up (va_up RA 36 r_11.1) 37 r_11.2.1) 39 r_11.2.2.1) (va_up RS 38 r_11.2.2.2) RN RL) hP hK hN ht hW, hS.F ht⟩) hS.2.2 dX8_roof_123 hlocks
                · by_cases c_19 : v2 = 7
                  · refine lv_tableIn (tgt := 124) hx hb dX8_roof_15 (by rw [c_19]; decide) (by rw [c_19]; decide) (by rw [c_19]; rfl) (by decide) ?_
                    refine lv_aload_n hx hb dX8_roof_124 rfl (lv_at hl 0 rfl) ?_
                    refine m_get (v := .ref (ad 7)) hx hb hts hown hK hP 9 (by decide) rfl kX8_28 rfl dX8_roof_125 ?_
                    refine lv_iload_n hx hb dX8_roof_128 rfl (lv_at hl 1 rfl) ?_
                    refine kn_iald (f := (RA 9)) (v := (RA 9 v1.toNatClampNeg)) hx hb hK hP 7 rfl v1.toNatClampNeg rfl (by omega) (by omega) rfl dX8_roof_129 ?_
                    have hE : (m_roof RA RS RN v1 v2) = ((RA 9 v1.toNatClampNeg), r_11.1, r_11.2.1, r_11.2.2.1, r_11.2.2.2) := by subst hr_11; rw [m_roof, if_neg c_10, if_neg c_12, if_neg c_13, if_neg c_14, if_neg c_15, if_neg c_16, if_neg c_17, if_neg c_18, if_pos c_19]
                    exact W.iret (v := (RA 9 v1.toNatClampNeg)) hx hb hr (fun t ht hW => ⟨by rw [hE], by rw [hE]; exact kB.of (ws := RWs cI ad (va_up (va_up (va_up RA 36 r_11.1) 37 r_11.2.1) 39 r_11.2.2.1) (va_up RS 38 r_11.2.2.2) RN RL) hP hK hN ht hW, hS.F ht⟩) hS.2.2 dX8_roof_130 hlocks
                  · refine lv_tableOut (tgt := 131) hx hb dX8_roof_15 (by
                      have n0 : v2.toInt ≠ 0 := fun q => by first | exact absurd (Int32.toInt_inj.mp (q.trans (show (0 : Int) = (0 : Int32).toInt by decide))) (by assumption)
                      have n1 : v2.toInt ≠ 1 := fun q => by first | exact absurd (Int32.toInt_inj.mp (q.trans (show (1 : Int) = (1 : Int32).toInt by decide))) (by assumption)
                      have n2 : v2.toInt ≠ 2 := fun q => by first | exact absurd (Int32.toInt_inj.mp (q.trans (show (2 : Int) = (2 : Int32).toInt by decide))) (by assumption)
                      have n3 : v2.toInt ≠ 3 := fun q => by first | exact absurd (Int32.toInt_inj.mp (q.trans (show (3 : Int) = (3 : Int32).toInt by decide))) (by assumption)
                      have n4 : v2.toInt ≠ 4 := fun q => by first | exact absurd (Int32.toInt_inj.mp (q.trans (show (4 : Int) = (4 : Int32).toInt by decide))) (by assumption)
                      have n5 : v2.toInt ≠ 5 := fun q => by first | exact absurd (Int32.toInt_inj.mp (q.trans (show (5 : Int) = (5 : Int32).toInt by decide))) (by assumption)
                      have n6 : v2.toInt ≠ 6 := fun q => by first | exact absurd (Int32.toInt_inj.mp (q.trans (show (6 : Int) = (6 : Int32).toInt by decide))) (by assumption)
                      have n7 : v2.toInt ≠ 7 := fun q => by first | exact absurd (Int32.toInt_inj.mp (q.trans (show (7 : Int) = (7 : Int32).toInt by decide))) (by assumption)
                      omega) (by decide) ?_
                    refine lv_iconst (v := (-1)) hx hb dX8_roof_131 (by decide) ?_
                    have hE : (m_roof RA RS RN v1 v2) = ((-1), r_11.1, r_11.2.1, r_11.2.2.1, r_11.2.2.2) := by subst hr_11; rw [m_roof, if_neg c_10, if_neg c_12, if_neg c_13, if_neg c_14, if_neg c_15, if_neg c_16, if_neg c_17, if_neg c_18, if_neg c_19]
                    exact W.iret (v := (-1)) hx hb hr (fun t ht hW => ⟨by rw [hE], by rw [hE]; exact kB.of (ws := RWs cI ad (va_up (va_up (va_up RA 36 r_11.1) 37 r_11.2.1) 39 r_11.2.2.1) (va_up RS 38 r_11.2.2.2) RN RL) hP hK hN ht hW, hS.F ht⟩) hS.2.2 dX8_roof_132 hlocks
  · refine lv_iconst (v := (-1)) hx hb dX8_roof_8 (by decide) ?_
    have hE : (m_roof RA RS RN v1 v2) = ((-1), (RA 36), (RA 37), (RA 39), (RS 38)) := by rw [m_roof, if_pos c_10]
    exact W.iret (v := (-1)) hx hb hr (fun t ht hW => ⟨by rw [hE], by rw [hE]; exact kB.of (ws := RWs cI ad (va_up (va_up (va_up RA 36 (RA 36)) 37 (RA 37)) 39 (RA 39)) (va_up RS 38 (RS 38)) RN RL) (RWs_conv rfl rfl rfl rfl rfl rfl rfl rfl rfl rfl rfl rfl rfl rfl rfl rfl rfl rfl rfl rfl rfl rfl rfl rfl rfl rfl rfl rfl rfl rfl rfl rfl rfl rfl rfl rfl rfl rfl rfl rfl rfl hP) hK hN ht hW, hS.F ht⟩) hS.2.2 dX8_roof_9 hlocks
-- X8_thought
def m_thought (RA : Nat → Nat → Int32) (RS : Nat → Int32) (RN : Nat → Nat) (v1 : Int32) (v2 : Int32) : Int32 := if (m_isRoof RN v1) = 0 then (-1) else (if (m_in v2.toInt64 (-1) 3) = 0 then (-1) else (if (m_has (RS 26) (nI v1.toNatClampNeg)) = 0 then (-2) else (if v2 = (-1) then (m_chances RA v1.toNatClampNeg) else (if (RA 12 v1.toNatClampNeg) ≤ (nI v2.toNatClampNeg) then 0 else (if (m_has (RA 22 v1.toNatClampNeg) (nI v2.toNatClampNeg)) = 0 then 0 else (RA 11 ((4 * v1.toNatClampNeg) + v2.toNatClampNeg)))))))
set_option maxHeartbeats 4000000 in
set_option maxRecDepth 100000 in
theorem c_m_thought (hI : kInj ad 24) (v1 : Int32) (v2 : Int32) (hM : mI RA RS RN) : Met l yX8_thought (.code yX8_thought cX8_thought 3 (some .int) :: kT) ({ frames := 3, cells := 0, slots := 0, locals := 66 } : Room) (va_Pc [.ref (ad 0), .int v1, .int v2] (kB (dC, dI) [(cI, .int)] (RWs cI ad RA RS RN RL))) (kR (some (.int (m_thought RA RS RN v1 v2)))) 0 0 (fun _ => False) := by
  refine kMet (by decide) (fun p e s m args below meth c ls hx hb hr hml hts hown hlocks hname hargs hB hl => ?_) (Nat.le_of_ble_eq_true rfl)
  obtain ⟨hP, hK, hN⟩ := hB
  have hl : lv_has ls 3 [(0, .ref (ad 0)), (1, .int v1), (2, .int v2)] := hl
  have h4 : RN 4 ≤ 8 := mI_many hM
  refine lv_aload_n hx hb dX8_thought_0 rfl (lv_at hl 0 rfl) ?_
  refine lv_iload_n hx hb dX8_thought_1 rfl (lv_at hl 1 rfl) ?_
  refine k_rV (v := .int (m_isRoof RN v1)) (As := [.int v1]) (rest := []) hx hb hml hown hts hl.1 hP hK hN (c_m_isRoof hI v1) eX8_221 (ci := 7) (q0 := 0) rfl rfl rfl rfl rfl (Nat.le_of_ble_eq_true rfl) ⟨Nat.le_of_ble_eq_true rfl, Nat.le_of_ble_eq_true rfl⟩ ⟨rfl, rfl⟩ ⟨Nat.le_of_ble_eq_true rfl, Nat.le_of_ble_eq_true rfl⟩ dX8_thought_2 ?_
  refine lv_if_eq (tgt := 22) hx hb dX8_thought_5 (by decide) (fun c_7 => ?_) (fun c_7 => ?_)
  · refine lv_iconst (v := (-1)) hx hb dX8_thought_22 (by decide) ?_
    have hE : (m_thought RA RS RN v1 v2) = (-1) := by rw [m_thought, if_pos c_7]
    exact W.iret (v := (-1)) hx hb hr (fun t ht hW => ⟨by rw [hE], ht⟩) (fun _ h => absurd h List.not_mem_nil) dX8_thought_23 hlocks
  · have hr1 := m_isRoof_t h4 c_7
    have hnat1 : v1 = (nI v1.toNatClampNeg) := kNat hr1.1
    have hl : lv_has ls 3 [(0, .ref (ad 0)), (1, .int (nI v1.toNatClampNeg)), (2, .int v2)] := by rw [← hnat1]; exact hl
    have hr1b : v1.toNatClampNeg < (RN 4) := kNat_lt hr1.2 (by omega)
    refine lv_iload_n hx hb dX8_thought_8 rfl (lv_at hl 2 rfl) ?_
    refine lv_i2l (v := v2.toInt64) hx hb dX8_thought_9 rfl ?_
    refine lv_ldc2 (v := (-1)) hx hb hown (hts _ kX8_224) dX8_thought_10 ?_
    refine lv_ldc2 (v := 3) hx hb hown (hts _ kX8_226) dX8_thought_13 ?_
    refine k_rS (v := .int (m_in v2.toInt64 (-1) 3)) (As := [.long v2.toInt64, .long (-1), .long 3]) (rest := []) hx hb hml hown hts hl.1 (B := fun _ => True) (fun _ _ _ _ q => q) (fun _ _ _ => trivial) (c_m_in v2.toInt64 (-1) 3) eX8_99 rfl rfl (Nat.le_of_ble_eq_true rfl) ⟨Nat.le_of_ble_eq_true rfl, Nat.le_of_ble_eq_true rfl⟩ ⟨rfl, rfl⟩ ⟨Nat.le_of_ble_eq_true rfl, Nat.le_of_ble_eq_true rfl⟩ dX8_thought_16 ?_
    refine lv_if_ne (tgt := 24) hx hb dX8_thought_19 (by decide) (fun c_8 => ?_) (fun c_8 => ?_)
    · have hq2 := m_in_t c_8
      have hq2b : v2.toNatClampNeg ≤ 3 := kNat_le hq2.2
      refine lv_aload_n hx hb dX8_thought_24 rfl (lv_at hl 0 rfl) ?_
      refine m_get (v := .int (RS 26)) hx hb hts hown hK hP 26 (by decide) rfl kX8_163 rfl dX8_thought_25 ?_
      refine lv_iload_n hx hb dX8_thought_28 rfl (lv_at hl 1 rfl) ?_
      refine k_rS (v := .int (m_has (RS 26) (nI v1.toNatClampNeg))) (As := [.int (RS 26), .int (nI v1.toNatClampNeg)]) (rest := []) hx hb hml hown hts hl.1 (B := fun _ => True) (fun _ _ _ _ q => q) (fun _ _ _ => trivial) (c_m_has (RS 26) (nI v1.toNatClampNeg)) eX8_204 rfl rfl (Nat.le_of_ble_eq_true rfl) ⟨Nat.le_of_ble_eq_true rfl, Nat.le_of_ble_eq_true rfl⟩ ⟨rfl, rfl⟩ ⟨Nat.le_of_ble_eq_true rfl, Nat.le_of_ble_eq_true rfl⟩ dX8_thought_29 ?_
      refine lv_if_ne (tgt := 38) hx hb dX8_thought_32 (by decide) (fun c_9 => ?_) (fun c_9 => ?_)
      · refine lv_iload_n hx hb dX8_thought_38 rfl (lv_at hl 2 rfl) ?_
        refine lv_iconst (v := (-1)) hx hb dX8_thought_39 (by decide) ?_
        refine lv_icmp_ne (tgt := 51) hx hb dX8_thought_40 (by decide) (fun c_10 => ?_) (fun c_10 => ?_)
        · have hnat2 : v2 = (nI v2.toNatClampNeg) := kNat (kgem1 hq2.1 (by assumption))
          have hl : lv_has ls 3 [(0, .ref (ad 0)), (1, .int (nI v1.toNatClampNeg)), (2, .int (nI v2.toNatClampNeg))] := by rw [← hnat2]; exact hl
          have hq2b : v2.toNatClampNeg ≤ 3 := kNat_le hq2.2
          have h12 := mI_bm hM v1.toNatClampNeg (by omega)
          refine lv_iload_n hx hb dX8_thought_51 rfl (lv_at hl 2 rfl) ?_
          refine lv_aload_n hx hb dX8_thought_52 rfl (lv_at hl 0 rfl) ?_
          refine m_get (v := .ref (ad 10)) hx hb hts hown hK hP 12 (by decide) rfl kX8_37 rfl dX8_thought_53 ?_
          refine lv_iload_n hx hb dX8_thought_56 rfl (lv_at hl 1 rfl) ?_
          refine kn_iald (f := (RA 12)) (v := (RA 12 v1.toNatClampNeg)) hx hb hK hP 10 rfl v1.toNatClampNeg rfl (by omega) (by omega) rfl dX8_thought_57 ?_
          refine lv_icmp_ge (tgt := 87) hx hb dX8_thought_58 (by decide) (fun c_11 => ?_) (fun c_11 => ?_)
          · refine lv_iconst (v := 0) hx hb dX8_thought_87 (by decide) ?_
            have hE : (m_thought RA RS RN v1 v2) = 0 := by rw [m_thought, if_neg c_7, if_neg c_8, if_neg c_9, if_neg c_10, if_pos c_11]
            exact W.iret (v := 0) hx hb hr (fun t ht hW => ⟨by rw [hE], ht⟩) (fun _ h => absurd h List.not_mem_nil) dX8_thought_88 hlocks
          · refine lv_aload_n hx hb dX8_thought_61 rfl (lv_at hl 0 rfl) ?_
            refine m_get (v := .ref (ad 14)) hx hb hts hown hK hP 22 (by decide) rfl kX8_49 rfl dX8_thought_62 ?_
            refine lv_iload_n hx hb dX8_thought_65 rfl (lv_at hl 1 rfl) ?_
            refine kn_iald (f := (RA 22)) (v := (RA 22 v1.toNatClampNeg)) hx hb hK hP 14 rfl v1.toNatClampNeg rfl (by omega) (by omega) rfl dX8_thought_66 ?_
            refine lv_iload_n hx hb dX8_thought_67 rfl (lv_at hl 2 rfl) ?_
            refine k_rS (v := .int (m_has (RA 22 v1.toNatClampNeg) (nI v2.toNatClampNeg))) (As := [.int (RA 22 v1.toNatClampNeg), .int (nI v2.toNatClampNeg)]) (rest := []) hx hb hml hown hts hl.1 (B := fun _ => True) (fun _ _ _ _ q => q) (fun _ _ _ => trivial) (c_m_has (RA 22 v1.toNatClampNeg) (nI v2.toNatClampNeg)) eX8_204 rfl rfl (Nat.le_of_ble_eq_true rfl) ⟨Nat.le_of_ble_eq_true rfl, Nat.le_of_ble_eq_true rfl⟩ ⟨rfl, rfl⟩ ⟨Nat.le_of_ble_eq_true rfl, Nat.le_of_ble_eq_true rfl⟩ dX8_thought_68 ?_
            refine lv_if_eq (tgt := 87) hx hb dX8_thought_71 (by decide) (fun c_12 => ?_) (fun c_12 => ?_)
            · refine lv_iconst (v := 0) hx hb dX8_thought_87 (by decide) ?_
              have hE : (m_thought RA RS RN v1 v2) = 0 := by rw [m_thought, if_neg c_7, if_neg c_8, if_neg c_9, if_neg c_10, if_neg c_11, if_pos c_12]
              exact W.iret (v := 0) hx hb hr (fun t ht hW => ⟨by rw [hE], ht⟩) (fun _ h => absurd h List.not_mem_nil) dX8_thought_88 hlocks
            · refine lv_aload_n hx hb dX8_thought_74 rfl (lv_at hl 0 rfl) ?_
              refine m_get (v := .ref (ad 9)) hx hb hts hown hK hP 11 (by decide) rfl kX8_34 rfl dX8_thought_75 ?_
              refine lv_iconst (v := 4) hx hb dX8_thought_78 (by decide) ?_
              refine lv_iload_n hx hb dX8_thought_79 rfl (lv_at hl 1 rfl) ?_
              refine kn_imul hx hb 4 v1.toNatClampNeg rfl rfl dX8_thought_80 ?_
              refine lv_iload_n hx hb dX8_thought_81 rfl (lv_at hl 2 rfl) ?_
              refine kn_iadd hx hb (4 * v1.toNatClampNeg) v2.toNatClampNeg rfl rfl dX8_thought_82 ?_
              refine kn_iald (f := (RA 11)) (v := (RA 11 ((4 * v1.toNatClampNeg) + v2.toNatClampNeg))) hx hb hK hP 9 rfl ((4 * v1.toNatClampNeg) + v2.toNatClampNeg) rfl (by omega) (by omega) rfl dX8_thought_83 ?_
              refine lv_goto (tgt := 88) hx hb dX8_thought_84 (by decide) ?_
              have hE : (m_thought RA RS RN v1 v2) = (RA 11 ((4 * v1.toNatClampNeg) + v2.toNatClampNeg)) := by rw [m_thought, if_neg c_7, if_neg c_8, if_neg c_9, if_neg c_10, if_neg c_11, if_neg c_12]
              exact W.iret (v := (RA 11 ((4 * v1.toNatClampNeg) + v2.toNatClampNeg))) hx hb hr (fun t ht hW => ⟨by rw [hE], ht⟩) (fun _ h => absurd h List.not_mem_nil) dX8_thought_88 hlocks
        · refine lv_aload_n hx hb dX8_thought_43 rfl (lv_at hl 0 rfl) ?_
          refine lv_iload_n hx hb dX8_thought_44 rfl (lv_at hl 1 rfl) ?_
          refine k_rV (v := .int (m_chances RA v1.toNatClampNeg)) (As := [.int (nI v1.toNatClampNeg)]) (rest := []) hx hb hml hown hts hl.1 hP hK hN (c_m_chances hI v1.toNatClampNeg hM (by omega)) eX8_218 (ci := 7) (q0 := 0) rfl rfl rfl rfl rfl (Nat.le_of_ble_eq_true rfl) ⟨Nat.le_of_ble_eq_true rfl, Nat.le_of_ble_eq_true rfl⟩ ⟨rfl, rfl⟩ ⟨Nat.le_of_ble_eq_true rfl, Nat.le_of_ble_eq_true rfl⟩ dX8_thought_45 ?_
          refine lv_goto (tgt := 88) hx hb dX8_thought_48 (by decide) ?_
          have hE : (m_thought RA RS RN v1 v2) = (m_chances RA v1.toNatClampNeg) := by rw [m_thought, if_neg c_7, if_neg c_8, if_neg c_9, if_pos c_10]
          exact W.iret (v := (m_chances RA v1.toNatClampNeg)) hx hb hr (fun t ht hW => ⟨by rw [hE], ht⟩) (fun _ h => absurd h List.not_mem_nil) dX8_thought_88 hlocks
      · refine lv_bipush (v := (-2)) hx hb dX8_thought_35 (by decide) ?_
        have hE : (m_thought RA RS RN v1 v2) = (-2) := by rw [m_thought, if_neg c_7, if_neg c_8, if_pos c_9]
        exact W.iret (v := (-2)) hx hb hr (fun t ht hW => ⟨by rw [hE], ht⟩) (fun _ h => absurd h List.not_mem_nil) dX8_thought_37 hlocks
    · refine lv_iconst (v := (-1)) hx hb dX8_thought_22 (by decide) ?_
      have hE : (m_thought RA RS RN v1 v2) = (-1) := by rw [m_thought, if_neg c_7, if_pos c_8]
      exact W.iret (v := (-1)) hx hb hr (fun t ht hW => ⟨by rw [hE], ht⟩) (fun _ h => absurd h List.not_mem_nil) dX8_thought_23 hlocks
-- X8_now
def m_now (RS : Nat → Int32) (RN : Nat → Nat) (v1 : Int32) : Int32 := if v1 = 0 then (RS 27) else (if v1 = 1 then (nI (RN 28)) else (if v1 = 2 then (RS 15) else (if v1 = 3 then (RS 26) else (-1))))
set_option maxHeartbeats 4000000 in
set_option maxRecDepth 100000 in
theorem c_m_now (hI : kInj ad 24) (v1 : Int32) : Met l yX8_now (.code yX8_now cX8_now 2 (some .int) :: kT) ({ frames := 0, cells := 0, slots := 0, locals := 0 } : Room) (va_Pc [.ref (ad 0), .int v1] (kB (dC, dI) [(cI, .int)] (RWs cI ad RA RS RN RL))) (kR (some (.int (m_now RS RN v1)))) 0 0 (fun _ => False) := by
  refine kMet (by decide) (fun p e s m args below meth c ls hx hb hr hml hts hown hlocks hname hargs hB hl => ?_) (Nat.le_of_ble_eq_true rfl)
  obtain ⟨hP, hK, hN⟩ := hB
  have hl : lv_has ls 2 [(0, .ref (ad 0)), (1, .int v1)] := hl
  refine lv_iload_n hx hb dX8_now_0 rfl (lv_at hl 1 rfl) ?_
  by_cases c_5 : v1 = 0
  · refine lv_tableIn (tgt := 32) hx hb dX8_now_1 (by rw [c_5]; decide) (by rw [c_5]; decide) (by rw [c_5]; rfl) (by decide) ?_
    refine lv_aload_n hx hb dX8_now_32 rfl (lv_at hl 0 rfl) ?_
    refine m_get (v := .int (RS 27)) hx hb hts hown hK hP 27 (by decide) rfl kX8_166 rfl dX8_now_33 ?_
    have hE : (m_now RS RN v1) = (RS 27) := by rw [m_now, if_pos c_5]
    exact W.iret (v := (RS 27)) hx hb hr (fun t ht hW => ⟨by rw [hE], ht⟩) (fun _ h => absurd h List.not_mem_nil) dX8_now_36 hlocks
  · by_cases c_6 : v1 = 1
    · refine lv_tableIn (tgt := 37) hx hb dX8_now_1 (by rw [c_6]; decide) (by rw [c_6]; decide) (by rw [c_6]; rfl) (by decide) ?_
      refine lv_aload_n hx hb dX8_now_37 rfl (lv_at hl 0 rfl) ?_
      refine m_get (v := .int (nI (RN 28))) hx hb hts hown hK hP 28 (by decide) rfl kX8_160 rfl dX8_now_38 ?_
      have hE : (m_now RS RN v1) = (nI (RN 28)) := by rw [m_now, if_neg c_5, if_pos c_6]
      exact W.iret (v := (nI (RN 28))) hx hb hr (fun t ht hW => ⟨by rw [hE], ht⟩) (fun _ h => absurd h List.not_mem_nil) dX8_now_41 hlocks
    · by_cases c_7 : v1 = 2
      · refine lv_tableIn (tgt := 42) hx hb dX8_now_1 (by rw [c_7]; decide) (by rw [c_7]; decide) (by rw [c_7]; rfl) (by decide) ?_
        refine lv_aload_n hx hb dX8_now_42 rfl (lv_at hl 0 rfl) ?_
        refine m_get (v := .int (RS 15)) hx hb hts hown hK hP 15 (by decide) rfl kX8_142 rfl dX8_now_43 ?_
        have hE : (m_now RS RN v1) = (RS 15) := by rw [m_now, if_neg c_5, if_neg c_6, if_pos c_7]
        exact W.iret (v := (RS 15)) hx hb hr (fun t ht hW => ⟨by rw [hE], ht⟩) (fun _ h => absurd h List.not_mem_nil) dX8_now_46 hlocks
      · by_cases c_8 : v1 = 3
        · refine lv_tableIn (tgt := 47) hx hb dX8_now_1 (by rw [c_8]; decide) (by rw [c_8]; decide) (by rw [c_8]; rfl) (by decide) ?_
          refine lv_aload_n hx hb dX8_now_47 rfl (lv_at hl 0 rfl) ?_
          refine m_get (v := .int (RS 26)) hx hb hts hown hK hP 26 (by decide) rfl kX8_163 rfl dX8_now_48 ?_
          have hE : (m_now RS RN v1) = (RS 26) := by rw [m_now, if_neg c_5, if_neg c_6, if_neg c_7, if_pos c_8]
          exact W.iret (v := (RS 26)) hx hb hr (fun t ht hW => ⟨by rw [hE], ht⟩) (fun _ h => absurd h List.not_mem_nil) dX8_now_51 hlocks
        · refine lv_tableOut (tgt := 52) hx hb dX8_now_1 (by
            have n0 : v1.toInt ≠ 0 := fun q => by first | exact absurd (Int32.toInt_inj.mp (q.trans (show (0 : Int) = (0 : Int32).toInt by decide))) (by assumption)
            have n1 : v1.toInt ≠ 1 := fun q => by first | exact absurd (Int32.toInt_inj.mp (q.trans (show (1 : Int) = (1 : Int32).toInt by decide))) (by assumption)
            have n2 : v1.toInt ≠ 2 := fun q => by first | exact absurd (Int32.toInt_inj.mp (q.trans (show (2 : Int) = (2 : Int32).toInt by decide))) (by assumption)
            have n3 : v1.toInt ≠ 3 := fun q => by first | exact absurd (Int32.toInt_inj.mp (q.trans (show (3 : Int) = (3 : Int32).toInt by decide))) (by assumption)
            omega) (by decide) ?_
          refine lv_iconst (v := (-1)) hx hb dX8_now_52 (by decide) ?_
          have hE : (m_now RS RN v1) = (-1) := by rw [m_now, if_neg c_5, if_neg c_6, if_neg c_7, if_neg c_8]
          exact W.iret (v := (-1)) hx hb hr (fun t ht hW => ⟨by rw [hE], ht⟩) (fun _ h => absurd h List.not_mem_nil) dX8_now_53 hlocks
-- X8_lies
def m_lies (RA : Nat → Nat → Int32) (RS : Nat → Int32) (v1 : Nat) : Int32 := if (m_has (RS 38) (nI (v1 / 2))) = 0 then 0 else (if (RA 36 v1) ≤ 0 then 0 else 1)
set_option maxHeartbeats 4000000 in
set_option maxRecDepth 100000 in
theorem c_m_lies (hI : kInj ad 24) (v1 : Nat) (hs : v1 < 16) : Met l yX8_lies (.code yX8_lies cX8_lies 2 (some .boolean) :: kT) ({ frames := 1, cells := 0, slots := 0, locals := 21 } : Room) (va_Pc [.ref (ad 0), .int (nI v1)] (kB (dC, dI) [(cI, .int)] (RWs cI ad RA RS RN RL))) (kR (some (.int (m_lies RA RS v1)))) 0 0 (fun _ => False) := by
  refine kMet (by decide) (fun p e s m args below meth c ls hx hb hr hml hts hown hlocks hname hargs hB hl => ?_) (Nat.le_of_ble_eq_true rfl)
  obtain ⟨hP, hK, hN⟩ := hB
  have hl : lv_has ls 2 [(0, .ref (ad 0)), (1, .int (nI v1))] := hl
  refine lv_aload_n hx hb dX8_lies_0 rfl (lv_at hl 0 rfl) ?_
  refine m_get (v := .int (RS 38)) hx hb hts hown hK hP 38 (by decide) rfl kX8_194 rfl dX8_lies_1 ?_
  refine lv_iload_n hx hb dX8_lies_4 rfl (lv_at hl 1 rfl) ?_
  refine lv_iconst (v := 2) hx hb dX8_lies_5 (by decide) ?_
  refine lv_idiv hx hb dX8_lies_6 (by decide) ?_
  refine kn_top (x' := (nI (v1 / 2))) (pk_div (a := v1) (d := 2) (by omega) (by omega) (by omega)) ?_
  refine k_rS (v := .int (m_has (RS 38) (nI (v1 / 2)))) (As := [.int (RS 38), .int (nI (v1 / 2))]) (rest := []) hx hb hml hown hts hl.1 (B := fun _ => True) (fun _ _ _ _ q => q) (fun _ _ _ => trivial) (c_m_has (RS 38) (nI (v1 / 2))) eX8_204 rfl rfl (Nat.le_of_ble_eq_true rfl) ⟨Nat.le_of_ble_eq_true rfl, Nat.le_of_ble_eq_true rfl⟩ ⟨rfl, rfl⟩ ⟨Nat.le_of_ble_eq_true rfl, Nat.le_of_ble_eq_true rfl⟩ dX8_lies_7 ?_
  refine lv_if_eq (tgt := 26) hx hb dX8_lies_10 (by decide) (fun c_3 => ?_) (fun c_3 => ?_)
  · refine lv_iconst (v := 0) hx hb dX8_lies_26 (by decide) ?_
    have hE : (m_lies RA RS v1) = 0 := by rw [m_lies, if_pos c_3]
    exact W.zret (v := 0) hx hb hr rfl (fun t ht hW => ⟨by rw [hE], ht⟩) (fun _ h => absurd h List.not_mem_nil) dX8_lies_27 hlocks
  · refine lv_aload_n hx hb dX8_lies_13 rfl (lv_at hl 0 rfl) ?_
    refine m_get (v := .ref (ad 20)) hx hb hts hown hK hP 36 (by decide) rfl kX8_67 rfl dX8_lies_14 ?_
    refine lv_iload_n hx hb dX8_lies_17 rfl (lv_at hl 1 rfl) ?_
    refine kn_iald (f := (RA 36)) (v := (RA 36 v1)) hx hb hK hP 20 rfl v1 rfl (by omega) (by omega) rfl dX8_lies_18 ?_
    refine lv_if_le (tgt := 26) hx hb dX8_lies_19 (by decide) (fun c_4 => ?_) (fun c_4 => ?_)
    · refine lv_iconst (v := 0) hx hb dX8_lies_26 (by decide) ?_
      have hE : (m_lies RA RS v1) = 0 := by rw [m_lies, if_neg c_3, if_pos c_4]
      exact W.zret (v := 0) hx hb hr rfl (fun t ht hW => ⟨by rw [hE], ht⟩) (fun _ h => absurd h List.not_mem_nil) dX8_lies_27 hlocks
    · refine lv_iconst (v := 1) hx hb dX8_lies_22 (by decide) ?_
      refine lv_goto (tgt := 27) hx hb dX8_lies_23 (by decide) ?_
      have hE : (m_lies RA RS v1) = 1 := by rw [m_lies, if_neg c_3, if_neg c_4]
      exact W.zret (v := 1) hx hb hr rfl (fun t ht hW => ⟨by rw [hE], ht⟩) (fun _ h => absurd h List.not_mem_nil) dX8_lies_27 hlocks
-- X8_deepest
def m_deepest_k5 (v1 : Nat) : Nat := v1
def m_deepest_L5 (RA : Nat → Nat → Int32) (RS : Nat → Int32) : Nat → Nat → Nat → Nat
  | 0, i, v1 => v1
  | n + 1, i, v1 => if (m_lies RA RS i) = 0 then m_deepest_L5 RA RS n (i + 1) v1 else (if (nI v1) = 16 then m_deepest_L5 RA RS n (i + 1) i else (if (RA 36 i) ≤ (RA 36 v1) then m_deepest_L5 RA RS n (i + 1) v1 else m_deepest_L5 RA RS n (i + 1) i))
def m_deepest (RA : Nat → Nat → Int32) (RS : Nat → Int32) : Nat := m_deepest_k5 (m_deepest_L5 RA RS 16 0 16)
set_option maxHeartbeats 4000000 in
set_option maxRecDepth 100000 in
theorem c_m_deepest (hI : kInj ad 24)  : Met l yX8_deepest (.code yX8_deepest cX8_deepest 3 (some .int) :: kT) ({ frames := 2, cells := 0, slots := 0, locals := 42 } : Room) (va_Pc [.ref (ad 0)] (kB (dC, dI) [(cI, .int)] (RWs cI ad RA RS RN RL))) (kR (some (.int (nI (m_deepest RA RS))))) 0 0 (fun _ => False) := by
  refine kMet (by decide) (fun p e s m args below meth c ls hx hb hr hml hts hown hlocks hname hargs hB hl => ?_) (Nat.le_of_ble_eq_true rfl)
  obtain ⟨hP, hK, hN⟩ := hB
  have hl : lv_has ls 3 [(0, .ref (ad 0))] := hl
  refine lv_bipush (v := 16) hx hb dX8_deepest_0 (by decide) ?_
  refine lv_istore_n (lv' := [(1, .int 16), (0, .ref (ad 0))]) hx hb dX8_deepest_2 rfl hl (by decide) rfl (fun ls hl => ?_)
  refine lv_iconst (v := 0) hx hb dX8_deepest_3 (by decide) ?_
  refine lv_istore_n (lv' := [(2, .int 0), (1, .int 16), (0, .ref (ad 0))]) hx hb dX8_deepest_4 rfl hl (by decide) rfl (fun ls hl => ?_)
  have rest_5 : ∀ (x1_5 : Nat), ∀ (ls : Array Slot), lv_has ls 3 [(1, .int (nI x1_5))] → (m_deepest RA RS) = m_deepest_k5 x1_5 → W p l e ({ frames := 2, cells := 0, slots := 0, locals := 42 } : Room) s m args below meth c s.heap [] 0 0 (MQ below (kR (some (.int (nI (m_deepest RA RS))))) args s 0 0 (fun _ => False)) (F0 m 52 ls []) := by
    intro x1_5 ls hl  hF_5
    refine lv_iload_n hx hb dX8_deepest_52 rfl (lv_at hl 0 rfl) ?_
    have hE : (m_deepest RA RS) = x1_5 := hF_5.trans (by rw [m_deepest_k5])
    exact W.iret (v := (nI x1_5)) hx hb hr (fun t ht hW => ⟨by first | (rw [hE]; done) | (rw [hE]; rfl), ht⟩) (fun _ h => absurd h List.not_mem_nil) dX8_deepest_53 hlocks
  have loop_5 : ∀ (n_5 i_5 : Nat) (x1_5 : Nat), i_5 + n_5 = 16 → ∀ (ls : Array Slot), lv_has ls 3 [(0, .ref (ad 0)), (1, .int (nI x1_5)), (2, .int (nI i_5))] → (x1_5 ≤ 16) → (∀ (ls : Array Slot), lv_has ls 3 [(1, .int (nI (m_deepest_L5 RA RS n_5 i_5 x1_5)))] → W p l e ({ frames := 2, cells := 0, slots := 0, locals := 42 } : Room) s m args below meth c s.heap [] 0 0 (MQ below (kR (some (.int (nI (m_deepest RA RS))))) args s 0 0 (fun _ => False)) (F0 m 52 ls [])) → W p l e ({ frames := 2, cells := 0, slots := 0, locals := 42 } : Room) s m args below meth c s.heap [] 0 0 (MQ below (kR (some (.int (nI (m_deepest RA RS))))) args s 0 0 (fun _ => False)) (F0 m 5 ls []) := by
    intro n_5
    induction n_5 with
    | zero =>
      intro i_5 x1_5 hin_5 ls hl hinv_5a hk_5
      refine lv_iload_n hx hb dX8_deepest_5 rfl (lv_at hl 2 rfl) ?_
      refine lv_bipush (v := 16) hx hb dX8_deepest_6 (by decide) ?_
      refine lv_icmp_ge (tgt := 52) hx hb dX8_deepest_8 (by decide) (fun _ => ?_) (fun c_5 => absurd (kct_ge (N := 16) rfl (by omega) (by omega)) c_5)
      have hL_5 : (m_deepest_L5 RA RS 0 i_5 x1_5) = x1_5 := by rw [m_deepest_L5.eq_1]
      try rw [hL_5] at hk_5
      exact hk_5 _ (lv_sub hl [1] rfl) 
    | succ n_5 ih_5 =>
      intro i_5 x1_5 hin_5 ls hl hinv_5a hk_5
      refine lv_iload_n hx hb dX8_deepest_5 rfl (lv_at hl 2 rfl) ?_
      refine lv_bipush (v := 16) hx hb dX8_deepest_6 (by decide) ?_
      refine lv_icmp_ge (tgt := 52) hx hb dX8_deepest_8 (by decide) (fun c_6 => absurd c_6 (kct_lt (N := 16) rfl (by omega))) (fun _ => ?_)
      refine lv_aload_n hx hb dX8_deepest_11 rfl (lv_at hl 0 rfl) ?_
      refine lv_iload_n hx hb dX8_deepest_12 rfl (lv_at hl 2 rfl) ?_
      refine k_rV (v := .int (m_lies RA RS i_5)) (As := [.int (nI i_5)]) (rest := []) hx hb hml hown hts hl.1 hP hK hN (c_m_lies hI i_5 (by omega)) eX8_234 (ci := 7) (q0 := 0) rfl rfl rfl rfl rfl (Nat.le_of_ble_eq_true rfl) ⟨Nat.le_of_ble_eq_true rfl, Nat.le_of_ble_eq_true rfl⟩ ⟨rfl, rfl⟩ ⟨Nat.le_of_ble_eq_true rfl, Nat.le_of_ble_eq_true rfl⟩ dX8_deepest_13 ?_
      refine lv_if_eq (tgt := 44) hx hb dX8_deepest_16 (by decide) (fun c_7 => ?_) (fun c_7 => ?_)
      · refine lv_iload_n hx hb dX8_deepest_44 rfl (lv_at hl 1 rfl) ?_
        refine lv_istore_n (lv' := [(1, .int (nI x1_5)), (0, .ref (ad 0)), (2, .int (nI i_5))]) hx hb dX8_deepest_45 rfl hl (by decide) rfl (fun ls hl => ?_)
        refine lv_iinc (v := (nI (i_5 + 1))) (lv' := [(2, .int (nI (i_5 + 1))), (1, .int (nI x1_5)), (0, .ref (ad 0))]) hx hb dX8_deepest_46 hl (k := 2) rfl (nI_add _ _) (by decide) rfl (fun ls hl => ?_)
        refine lv_goto (tgt := 5) hx hb dX8_deepest_49 (by decide) ?_
        have hL_5 : (m_deepest_L5 RA RS (n_5 + 1) i_5 x1_5) = (m_deepest_L5 RA RS n_5 (i_5 + 1) x1_5) := by rw [m_deepest_L5.eq_2, if_pos c_7]
        try rw [hL_5] at hk_5
        exact ih_5 (i_5 + 1) x1_5 (by omega) _ (lv_sub hl [2, 1, 0] rfl) (by omega) hk_5
      · refine lv_iload_n hx hb dX8_deepest_19 rfl (lv_at hl 1 rfl) ?_
        refine lv_bipush (v := 16) hx hb dX8_deepest_20 (by decide) ?_
        refine lv_icmp_eq (tgt := 40) hx hb dX8_deepest_22 (by decide) (fun c_8 => ?_) (fun c_8 => ?_)
        · refine lv_iload_n hx hb dX8_deepest_40 rfl (lv_at hl 2 rfl) ?_
          refine lv_goto (tgt := 45) hx hb dX8_deepest_41 (by decide) ?_
          refine lv_istore_n (lv' := [(1, .int (nI i_5)), (0, .ref (ad 0)), (2, .int (nI i_5))]) hx hb dX8_deepest_45 rfl hl (by decide) rfl (fun ls hl => ?_)
          refine lv_iinc (v := (nI (i_5 + 1))) (lv' := [(2, .int (nI (i_5 + 1))), (1, .int (nI i_5)), (0, .ref (ad 0))]) hx hb dX8_deepest_46 hl (k := 2) rfl (nI_add _ _) (by decide) rfl (fun ls hl => ?_)
          refine lv_goto (tgt := 5) hx hb dX8_deepest_49 (by decide) ?_
          have hL_5 : (m_deepest_L5 RA RS (n_5 + 1) i_5 x1_5) = (m_deepest_L5 RA RS n_5 (i_5 + 1) i_5) := by rw [m_deepest_L5.eq_2, if_neg c_7, if_pos c_8]
          try rw [hL_5] at hk_5
          exact ih_5 (i_5 + 1) i_5 (by omega) _ (lv_sub hl [2, 1, 0] rfl) (by omega) hk_5
        · refine lv_aload_n hx hb dX8_deepest_25 rfl (lv_at hl 0 rfl) ?_
          refine m_get (v := .ref (ad 20)) hx hb hts hown hK hP 36 (by decide) rfl kX8_67 rfl dX8_deepest_26 ?_
          refine lv_iload_n hx hb dX8_deepest_29 rfl (lv_at hl 2 rfl) ?_
          refine kn_iald (f := (RA 36)) (v := (RA 36 i_5)) hx hb hK hP 20 rfl i_5 rfl (by omega) (by omega) rfl dX8_deepest_30 ?_
          refine lv_aload_n hx hb dX8_deepest_31 rfl (lv_at hl 0 rfl) ?_
          refine m_get (v := .ref (ad 20)) hx hb hts hown hK hP 36 (by decide) rfl kX8_67 rfl dX8_deepest_32 ?_
          refine lv_iload_n hx hb dX8_deepest_35 rfl (lv_at hl 1 rfl) ?_
          refine kn_iald (f := (RA 36)) (v := (RA 36 x1_5)) hx hb hK hP 20 rfl x1_5 rfl (by have := knI_ne (a := x1_5) (b := 16) (by assumption); omega) (by omega) rfl dX8_deepest_36 ?_
          refine lv_icmp_le (tgt := 44) hx hb dX8_deepest_37 (by decide) (fun c_9 => ?_) (fun c_9 => ?_)
          · refine lv_iload_n hx hb dX8_deepest_44 rfl (lv_at hl 1 rfl) ?_
            refine lv_istore_n (lv' := [(1, .int (nI x1_5)), (0, .ref (ad 0)), (2, .int (nI i_5))]) hx hb dX8_deepest_45 rfl hl (by decide) rfl (fun ls hl => ?_)
            refine lv_iinc (v := (nI (i_5 + 1))) (lv' := [(2, .int (nI (i_5 + 1))), (1, .int (nI x1_5)), (0, .ref (ad 0))]) hx hb dX8_deepest_46 hl (k := 2) rfl (nI_add _ _) (by decide) rfl (fun ls hl => ?_)
            refine lv_goto (tgt := 5) hx hb dX8_deepest_49 (by decide) ?_
            have hL_5 : (m_deepest_L5 RA RS (n_5 + 1) i_5 x1_5) = (m_deepest_L5 RA RS n_5 (i_5 + 1) x1_5) := by rw [m_deepest_L5.eq_2, if_neg c_7, if_neg c_8, if_pos c_9]
            try rw [hL_5] at hk_5
            exact ih_5 (i_5 + 1) x1_5 (by omega) _ (lv_sub hl [2, 1, 0] rfl) (by omega) hk_5
          · refine lv_iload_n hx hb dX8_deepest_40 rfl (lv_at hl 2 rfl) ?_
            refine lv_goto (tgt := 45) hx hb dX8_deepest_41 (by decide) ?_
            refine lv_istore_n (lv' := [(1, .int (nI i_5)), (0, .ref (ad 0)), (2, .int (nI i_5))]) hx hb dX8_deepest_45 rfl hl (by decide) rfl (fun ls hl => ?_)
            refine lv_iinc (v := (nI (i_5 + 1))) (lv' := [(2, .int (nI (i_5 + 1))), (1, .int (nI i_5)), (0, .ref (ad 0))]) hx hb dX8_deepest_46 hl (k := 2) rfl (nI_add _ _) (by decide) rfl (fun ls hl => ?_)
            refine lv_goto (tgt := 5) hx hb dX8_deepest_49 (by decide) ?_
            have hL_5 : (m_deepest_L5 RA RS (n_5 + 1) i_5 x1_5) = (m_deepest_L5 RA RS n_5 (i_5 + 1) i_5) := by rw [m_deepest_L5.eq_2, if_neg c_7, if_neg c_8, if_neg c_9]
            try rw [hL_5] at hk_5
            exact ih_5 (i_5 + 1) i_5 (by omega) _ (lv_sub hl [2, 1, 0] rfl) (by omega) hk_5
  exact loop_5 16 0 16 (by omega) _ (lv_sub hl [2, 1, 0] rfl) (by omega) (fun ls hl  => rest_5 (m_deepest_L5 RA RS 16 0 16) _ hl  (by rw [m_deepest]))
-- X8_sideOf
def m_sideOf (RA : Nat → Nat → Int32) (v1 : Nat) : Nat := if (RA 36 ((2 * v1) + 1)) ≤ (RA 36 (2 * v1)) then 2 * v1 else (2 * v1) + 1
set_option maxHeartbeats 4000000 in
set_option maxRecDepth 100000 in
theorem c_m_sideOf (hI : kInj ad 24) (v1 : Nat) (hi : v1 < 8) : Met l yX8_sideOf (.code yX8_sideOf cX8_sideOf 2 (some .int) :: kT) ({ frames := 0, cells := 0, slots := 0, locals := 0 } : Room) (va_Pc [.ref (ad 0), .int (nI v1)] (kB (dC, dI) [(cI, .int)] (RWs cI ad RA RS RN RL))) (kR (some (.int (nI (m_sideOf RA v1))))) 0 0 (fun _ => False) := by
  refine kMet (by decide) (fun p e s m args below meth c ls hx hb hr hml hts hown hlocks hname hargs hB hl => ?_) (Nat.le_of_ble_eq_true rfl)
  obtain ⟨hP, hK, hN⟩ := hB
  have hl : lv_has ls 2 [(0, .ref (ad 0)), (1, .int (nI v1))] := hl
  refine lv_aload_n hx hb dX8_sideOf_0 rfl (lv_at hl 0 rfl) ?_
  refine m_get (v := .ref (ad 20)) hx hb hts hown hK hP 36 (by decide) rfl kX8_67 rfl dX8_sideOf_1 ?_
  refine lv_iconst (v := 2) hx hb dX8_sideOf_4 (by decide) ?_
  refine lv_iload_n hx hb dX8_sideOf_5 rfl (lv_at hl 1 rfl) ?_
  refine kn_imul hx hb 2 v1 rfl rfl dX8_sideOf_6 ?_
  refine lv_iconst (v := 1) hx hb dX8_sideOf_7 (by decide) ?_
  refine kn_iadd hx hb (2 * v1) 1 rfl rfl dX8_sideOf_8 ?_
  refine kn_iald (f := (RA 36)) (v := (RA 36 ((2 * v1) + 1))) hx hb hK hP 20 rfl ((2 * v1) + 1) rfl (by omega) (by omega) rfl dX8_sideOf_9 ?_
  refine lv_aload_n hx hb dX8_sideOf_10 rfl (lv_at hl 0 rfl) ?_
  refine m_get (v := .ref (ad 20)) hx hb hts hown hK hP 36 (by decide) rfl kX8_67 rfl dX8_sideOf_11 ?_
  refine lv_iconst (v := 2) hx hb dX8_sideOf_14 (by decide) ?_
  refine lv_iload_n hx hb dX8_sideOf_15 rfl (lv_at hl 1 rfl) ?_
  refine kn_imul hx hb 2 v1 rfl rfl dX8_sideOf_16 ?_
  refine kn_iald (f := (RA 36)) (v := (RA 36 (2 * v1))) hx hb hK hP 20 rfl (2 * v1) rfl (by omega) (by omega) rfl dX8_sideOf_17 ?_
  refine lv_icmp_le (tgt := 29) hx hb dX8_sideOf_18 (by decide) (fun c_2 => ?_) (fun c_2 => ?_)
  · refine lv_iconst (v := 2) hx hb dX8_sideOf_29 (by decide) ?_
    refine lv_iload_n hx hb dX8_sideOf_30 rfl (lv_at hl 1 rfl) ?_
    refine kn_imul hx hb 2 v1 rfl rfl dX8_sideOf_31 ?_
    have hE : (m_sideOf RA v1) = 2 * v1 := by rw [m_sideOf, if_pos c_2]
    exact W.iret (v := (nI (2 * v1))) hx hb hr (fun t ht hW => ⟨by first | (rw [hE]; done) | (rw [hE]; rfl), ht⟩) (fun _ h => absurd h List.not_mem_nil) dX8_sideOf_32 hlocks
  · refine lv_iconst (v := 2) hx hb dX8_sideOf_21 (by decide) ?_
    refine lv_iload_n hx hb dX8_sideOf_22 rfl (lv_at hl 1 rfl) ?_
    refine kn_imul hx hb 2 v1 rfl rfl dX8_sideOf_23 ?_
    refine lv_iconst (v := 1) hx hb dX8_sideOf_24 (by decide) ?_
    refine kn_iadd hx hb (2 * v1) 1 rfl rfl dX8_sideOf_25 ?_
    refine lv_goto (tgt := 32) hx hb dX8_sideOf_26 (by decide) ?_
    have hE : (m_sideOf RA v1) = (2 * v1) + 1 := by rw [m_sideOf, if_neg c_2]
    exact W.iret (v := (nI ((2 * v1) + 1))) hx hb hr (fun t ht hW => ⟨by first | (rw [hE]; done) | (rw [hE]; rfl), ht⟩) (fun _ h => absurd h List.not_mem_nil) dX8_sideOf_32 hlocks
-- X8_isLaden
def m_isLaden (RA : Nat → Nat → Int32) (RS : Nat → Int32) (v1 : Nat) : Int32 := if (m_lies RA RS (2 * v1)) = 0 then (if (m_lies RA RS ((2 * v1) + 1)) = 0 then 0 else 1) else 1
set_option maxHeartbeats 4000000 in
set_option maxRecDepth 100000 in
theorem c_m_isLaden (hI : kInj ad 24) (v1 : Nat) (hi : v1 < 8) : Met l yX8_isLaden (.code yX8_isLaden cX8_isLaden 2 (some .boolean) :: kT) ({ frames := 2, cells := 0, slots := 0, locals := 42 } : Room) (va_Pc [.ref (ad 0), .int (nI v1)] (kB (dC, dI) [(cI, .int)] (RWs cI ad RA RS RN RL))) (kR (some (.int (m_isLaden RA RS v1)))) 0 0 (fun _ => False) := by
  refine kMet (by decide) (fun p e s m args below meth c ls hx hb hr hml hts hown hlocks hname hargs hB hl => ?_) (Nat.le_of_ble_eq_true rfl)
  obtain ⟨hP, hK, hN⟩ := hB
  have hl : lv_has ls 2 [(0, .ref (ad 0)), (1, .int (nI v1))] := hl
  refine lv_aload_n hx hb dX8_isLaden_0 rfl (lv_at hl 0 rfl) ?_
  refine lv_iconst (v := 2) hx hb dX8_isLaden_1 (by decide) ?_
  refine lv_iload_n hx hb dX8_isLaden_2 rfl (lv_at hl 1 rfl) ?_
  refine kn_imul hx hb 2 v1 rfl rfl dX8_isLaden_3 ?_
  refine k_rV (v := .int (m_lies RA RS (2 * v1))) (As := [.int (nI (2 * v1))]) (rest := []) hx hb hml hown hts hl.1 hP hK hN (c_m_lies hI (2 * v1) (by omega)) eX8_234 (ci := 7) (q0 := 0) rfl rfl rfl rfl rfl (Nat.le_of_ble_eq_true rfl) ⟨Nat.le_of_ble_eq_true rfl, Nat.le_of_ble_eq_true rfl⟩ ⟨rfl, rfl⟩ ⟨Nat.le_of_ble_eq_true rfl, Nat.le_of_ble_eq_true rfl⟩ dX8_isLaden_4 ?_
  refine lv_if_ne (tgt := 22) hx hb dX8_isLaden_7 (by decide) (fun c_3 => ?_) (fun c_3 => ?_)
  · refine lv_iconst (v := 1) hx hb dX8_isLaden_22 (by decide) ?_
    refine lv_goto (tgt := 27) hx hb dX8_isLaden_23 (by decide) ?_
    have hE : (m_isLaden RA RS v1) = 1 := by rw [m_isLaden, if_neg c_3]
    exact W.zret (v := 1) hx hb hr rfl (fun t ht hW => ⟨by rw [hE], ht⟩) (fun _ h => absurd h List.not_mem_nil) dX8_isLaden_27 hlocks
  · refine lv_aload_n hx hb dX8_isLaden_10 rfl (lv_at hl 0 rfl) ?_
    refine lv_iconst (v := 2) hx hb dX8_isLaden_11 (by decide) ?_
    refine lv_iload_n hx hb dX8_isLaden_12 rfl (lv_at hl 1 rfl) ?_
    refine kn_imul hx hb 2 v1 rfl rfl dX8_isLaden_13 ?_
    refine lv_iconst (v := 1) hx hb dX8_isLaden_14 (by decide) ?_
    refine kn_iadd hx hb (2 * v1) 1 rfl rfl dX8_isLaden_15 ?_
    refine k_rV (v := .int (m_lies RA RS ((2 * v1) + 1))) (As := [.int (nI ((2 * v1) + 1))]) (rest := []) hx hb hml hown hts hl.1 hP hK hN (c_m_lies hI ((2 * v1) + 1) (by omega)) eX8_234 (ci := 7) (q0 := 0) rfl rfl rfl rfl rfl (Nat.le_of_ble_eq_true rfl) ⟨Nat.le_of_ble_eq_true rfl, Nat.le_of_ble_eq_true rfl⟩ ⟨rfl, rfl⟩ ⟨Nat.le_of_ble_eq_true rfl, Nat.le_of_ble_eq_true rfl⟩ dX8_isLaden_16 ?_
    refine lv_if_eq (tgt := 26) hx hb dX8_isLaden_19 (by decide) (fun c_4 => ?_) (fun c_4 => ?_)
    · refine lv_iconst (v := 0) hx hb dX8_isLaden_26 (by decide) ?_
      have hE : (m_isLaden RA RS v1) = 0 := by rw [m_isLaden, if_pos c_3, if_pos c_4]
      exact W.zret (v := 0) hx hb hr rfl (fun t ht hW => ⟨by rw [hE], ht⟩) (fun _ h => absurd h List.not_mem_nil) dX8_isLaden_27 hlocks
    · refine lv_iconst (v := 1) hx hb dX8_isLaden_22 (by decide) ?_
      refine lv_goto (tgt := 27) hx hb dX8_isLaden_23 (by decide) ?_
      have hE : (m_isLaden RA RS v1) = 1 := by rw [m_isLaden, if_pos c_3, if_neg c_4]
      exact W.zret (v := 1) hx hb hr rfl (fun t ht hW => ⟨by rw [hE], ht⟩) (fun _ h => absurd h List.not_mem_nil) dX8_isLaden_27 hlocks
-- X8_weakest
def m_weakest_k11 (RA : Nat → Nat → Int32) (v2 : Int32) : Nat := if v2 = (-4) then 16 else (m_sideOf RA v2.toNatClampNeg)
def m_weakest_L11 (RA : Nat → Nat → Int32) (RS : Nat → Int32) (v1 : Nat) : Nat → Nat → Int32 → Int32 → Int32 → Int32 × Int32 × Int32
  | 0, i, v2, v3, v4 => (v2, v3, v4)
  | n + 1, i, v2, v3, v4 => if (m_isLaden RA RS i) = 0 then m_weakest_L11 RA RS v1 n (i + 1) v2 v3 v4 else (if v2 = (-4) then m_weakest_L11 RA RS v1 n (i + 1) (nI i) (m_below RA i (m_felt RA RS i (RA 13 (3 * v1)) (RA 13 ((3 * v1) + 1)))) (m_chances RA i) else (if ((m_below RA i (m_felt RA RS i (RA 13 (3 * v1)) (RA 13 ((3 * v1) + 1)))) * v4) ≤ (v3 * (m_chances RA i)) then m_weakest_L11 RA RS v1 n (i + 1) v2 v3 v4 else m_weakest_L11 RA RS v1 n (i + 1) (nI i) (m_below RA i (m_felt RA RS i (RA 13 (3 * v1)) (RA 13 ((3 * v1) + 1)))) (m_chances RA i)))
def m_weakest (RA : Nat → Nat → Int32) (RS : Nat → Int32) (RN : Nat → Nat) (v1 : Nat) : Nat := m_weakest_k11 RA (m_weakest_L11 RA RS v1 (RN 4) 0 (-4) 0 1).1
set_option maxHeartbeats 4000000 in
set_option maxRecDepth 100000 in
theorem c_m_weakest (hI : kInj ad 24) (v1 : Nat) (hM : mI RA RS RN) (hk : v1 < 3) : Met l yX8_weakest (.code yX8_weakest cX8_weakest 8 (some .int) :: kT) ({ frames := 3, cells := 0, slots := 0, locals := 66 } : Room) (va_Pc [.ref (ad 0), .int (nI v1)] (kB (dC, dI) [(cI, .int)] (RWs cI ad RA RS RN RL))) (kR (some (.int (nI (m_weakest RA RS RN v1))))) 0 0 (fun _ => False) := by
  refine kMet (by decide) (fun p e s m args below meth c ls hx hb hr hml hts hown hlocks hname hargs hB hl => ?_) (Nat.le_of_ble_eq_true rfl)
  obtain ⟨hP, hK, hN⟩ := hB
  have hl : lv_has ls 8 [(0, .ref (ad 0)), (1, .int (nI v1))] := hl
  have h4 : RN 4 ≤ 8 := mI_many hM
  refine lv_bipush (v := (-4)) hx hb dX8_weakest_0 (by decide) ?_
  refine lv_istore_n (lv' := [(2, .int (-4)), (0, .ref (ad 0)), (1, .int (nI v1))]) hx hb dX8_weakest_2 rfl hl (by decide) rfl (fun ls hl => ?_)
  refine lv_iconst (v := 0) hx hb dX8_weakest_3 (by decide) ?_
  refine lv_istore_n (lv' := [(3, .int 0), (2, .int (-4)), (0, .ref (ad 0)), (1, .int (nI v1))]) hx hb dX8_weakest_4 rfl hl (by decide) rfl (fun ls hl => ?_)
  refine lv_iconst (v := 1) hx hb dX8_weakest_5 (by decide) ?_
  refine lv_istore (lv' := [(4, .int 1), (3, .int 0), (2, .int (-4)), (0, .ref (ad 0)), (1, .int (nI v1))]) hx hb dX8_weakest_6 hl (by decide) rfl (fun ls hl => ?_)
  refine lv_iconst (v := 0) hx hb dX8_weakest_8 (by decide) ?_
  refine lv_istore (lv' := [(5, .int 0), (4, .int 1), (3, .int 0), (2, .int (-4)), (0, .ref (ad 0)), (1, .int (nI v1))]) hx hb dX8_weakest_9 hl (by decide) rfl (fun ls hl => ?_)
  have rest_11 : ∀ (x2_11 : Int32) (x3_11 : Int32) (x4_11 : Int32), ∀ (ls : Array Slot), lv_has ls 8 [(0, .ref (ad 0)), (2, .int x2_11)] → (x2_11 = -4 ∨ (0 ≤ (x2_11).toInt ∧ (x2_11).toInt < 8)) → (m_weakest RA RS RN v1) = m_weakest_k11 RA x2_11 → W p l e ({ frames := 3, cells := 0, slots := 0, locals := 66 } : Room) s m args below meth c s.heap [] 0 0 (MQ below (kR (some (.int (nI (m_weakest RA RS RN v1))))) args s 0 0 (fun _ => False)) (F0 m 138 ls []) := by
    intro x2_11 x3_11 x4_11 ls hl hx_11a hF_11
    refine lv_iload_n hx hb dX8_weakest_138 rfl (lv_at hl 1 rfl) ?_
    refine lv_bipush (v := (-4)) hx hb dX8_weakest_139 (by decide) ?_
    refine lv_icmp_ne (tgt := 149) hx hb dX8_weakest_141 (by decide) (fun c_15 => ?_) (fun c_15 => ?_)
    · have hnat2 : x2_11 = (nI x2_11.toNatClampNeg) := kNat (k48 (by assumption) hx_11a).1
      have hl : lv_has ls 8 [(0, .ref (ad 0)), (2, .int (nI x2_11.toNatClampNeg))] := by rw [← hnat2]; exact hl
      have hb48 : x2_11.toNatClampNeg < 8 := kNat_lt (n := 8) (k48 (by assumption) hx_11a).2 (by omega)
      refine lv_aload_n hx hb dX8_weakest_149 rfl (lv_at hl 0 rfl) ?_
      refine lv_iload_n hx hb dX8_weakest_150 rfl (lv_at hl 1 rfl) ?_
      refine k_rV (v := .int (nI (m_sideOf RA x2_11.toNatClampNeg))) (As := [.int (nI x2_11.toNatClampNeg)]) (rest := []) hx hb hml hown hts hl.1 hP hK hN (c_m_sideOf hI x2_11.toNatClampNeg (by omega)) eX8_240 (ci := 7) (q0 := 0) rfl rfl rfl rfl rfl (Nat.le_of_ble_eq_true rfl) ⟨Nat.le_of_ble_eq_true rfl, Nat.le_of_ble_eq_true rfl⟩ ⟨rfl, rfl⟩ ⟨Nat.le_of_ble_eq_true rfl, Nat.le_of_ble_eq_true rfl⟩ dX8_weakest_151 ?_
      have hE : (m_weakest RA RS RN v1) = (m_sideOf RA x2_11.toNatClampNeg) := hF_11.trans (by rw [m_weakest_k11, if_neg c_15])
      exact W.iret (v := (nI (m_sideOf RA x2_11.toNatClampNeg))) hx hb hr (fun t ht hW => ⟨by first | (rw [hE]; done) | (rw [hE]; rfl), ht⟩) (fun _ h => absurd h List.not_mem_nil) dX8_weakest_154 hlocks
    · refine lv_bipush (v := 16) hx hb dX8_weakest_144 (by decide) ?_
      refine lv_goto (tgt := 154) hx hb dX8_weakest_146 (by decide) ?_
      have hE : (m_weakest RA RS RN v1) = 16 := hF_11.trans (by rw [m_weakest_k11, if_pos c_15])
      exact W.iret (v := 16) hx hb hr (fun t ht hW => ⟨by first | (rw [hE]; done) | (rw [hE]; rfl), ht⟩) (fun _ h => absurd h List.not_mem_nil) dX8_weakest_154 hlocks
  have loop_11 : ∀ (n_11 i_11 : Nat) (x2_11 : Int32) (x3_11 : Int32) (x4_11 : Int32), i_11 + n_11 = (RN 4) → ∀ (ls : Array Slot), lv_has ls 8 [(0, .ref (ad 0)), (1, .int (nI v1)), (2, .int x2_11), (3, .int x3_11), (4, .int x4_11), (5, .int (nI i_11))] → (x2_11 = -4 ∨ (0 ≤ (x2_11).toInt ∧ (x2_11).toInt < 8)) → (∀ (ls : Array Slot), lv_has ls 8 [(0, .ref (ad 0)), (2, .int ((m_weakest_L11 RA RS v1 n_11 i_11 x2_11 x3_11 x4_11).1))] → ((m_weakest_L11 RA RS v1 n_11 i_11 x2_11 x3_11 x4_11).1 = -4 ∨ (0 ≤ ((m_weakest_L11 RA RS v1 n_11 i_11 x2_11 x3_11 x4_11).1).toInt ∧ ((m_weakest_L11 RA RS v1 n_11 i_11 x2_11 x3_11 x4_11).1).toInt < 8)) → W p l e ({ frames := 3, cells := 0, slots := 0, locals := 66 } : Room) s m args below meth c s.heap [] 0 0 (MQ below (kR (some (.int (nI (m_weakest RA RS RN v1))))) args s 0 0 (fun _ => False)) (F0 m 138 ls [])) → W p l e ({ frames := 3, cells := 0, slots := 0, locals := 66 } : Room) s m args below meth c s.heap [] 0 0 (MQ below (kR (some (.int (nI (m_weakest RA RS RN v1))))) args s 0 0 (fun _ => False)) (F0 m 11 ls []) := by
    intro n_11
    induction n_11 with
    | zero =>
      intro i_11 x2_11 x3_11 x4_11 hin_11 ls hl hinv_11a hk_11
      refine lv_iload hx hb dX8_weakest_11 (lv_at hl 5 rfl) ?_
      refine lv_aload_n hx hb dX8_weakest_13 rfl (lv_at hl 0 rfl) ?_
      refine m_get (v := .int (nI (RN 4))) hx hb hts hown hK hP 4 (by decide) rfl kX8_82 rfl dX8_weakest_14 ?_
      refine lv_icmp_ge (tgt := 138) hx hb dX8_weakest_17 (by decide) (fun _ => ?_) (fun c_16 => absurd (kct_ge (N := (RN 4)) (nI_clamp (by omega)) (by omega) (by omega)) c_16)
      have hL_11 : (m_weakest_L11 RA RS v1 0 i_11 x2_11 x3_11 x4_11) = (x2_11, x3_11, x4_11) := by rw [m_weakest_L11.eq_1]
      try rw [hL_11] at hk_11
      exact hk_11 _ (lv_sub hl [0, 2] rfl) (hinv_11a)
    | succ n_11 ih_11 =>
      intro i_11 x2_11 x3_11 x4_11 hin_11 ls hl hinv_11a hk_11
      refine lv_iload hx hb dX8_weakest_11 (lv_at hl 5 rfl) ?_
      refine lv_aload_n hx hb dX8_weakest_13 rfl (lv_at hl 0 rfl) ?_
      refine m_get (v := .int (nI (RN 4))) hx hb hts hown hK hP 4 (by decide) rfl kX8_82 rfl dX8_weakest_14 ?_
      refine lv_icmp_ge (tgt := 138) hx hb dX8_weakest_17 (by decide) (fun c_17 => absurd c_17 (kct_lt (N := (RN 4)) (nI_clamp (by omega)) (by omega))) (fun _ => ?_)
      refine lv_aload_n hx hb dX8_weakest_20 rfl (lv_at hl 0 rfl) ?_
      refine lv_iload hx hb dX8_weakest_21 (lv_at hl 5 rfl) ?_
      refine k_rV (v := .int (m_isLaden RA RS i_11)) (As := [.int (nI i_11)]) (rest := []) hx hb hml hown hts hl.1 hP hK hN (c_m_isLaden hI i_11 (by omega)) eX8_237 (ci := 7) (q0 := 0) rfl rfl rfl rfl rfl (Nat.le_of_ble_eq_true rfl) ⟨Nat.le_of_ble_eq_true rfl, Nat.le_of_ble_eq_true rfl⟩ ⟨rfl, rfl⟩ ⟨Nat.le_of_ble_eq_true rfl, Nat.le_of_ble_eq_true rfl⟩ dX8_weakest_23 ?_
      refine lv_if_eq (tgt := 132) hx hb dX8_weakest_26 (by decide) (fun c_18 => ?_) (fun c_18 => ?_)
      · refine lv_iinc (v := (nI (i_11 + 1))) (lv' := [(5, .int (nI (i_11 + 1))), (0, .ref (ad 0)), (1, .int (nI v1)), (2, .int x2_11), (3, .int x3_11), (4, .int x4_11)]) hx hb dX8_weakest_132 hl (k := 5) rfl (nI_add _ _) (by decide) rfl (fun ls hl => ?_)
        refine lv_goto (tgt := 11) hx hb dX8_weakest_135 (by decide) ?_
        have hL_11 : (m_weakest_L11 RA RS v1 (n_11 + 1) i_11 x2_11 x3_11 x4_11) = (m_weakest_L11 RA RS v1 n_11 (i_11 + 1) x2_11 x3_11 x4_11) := by rw [m_weakest_L11.eq_2, if_pos c_18]
        try rw [hL_11] at hk_11
        exact ih_11 (i_11 + 1) x2_11 x3_11 x4_11 (by omega) _ (lv_sub hl [1, 2, 3, 4, 5, 0] rfl) (by first | exact hinv_11a | exact Or.inr (k48r (by omega))) hk_11
      · refine lv_aload_n hx hb dX8_weakest_29 rfl (lv_at hl 0 rfl) ?_
        refine lv_iload hx hb dX8_weakest_30 (lv_at hl 5 rfl) ?_
        refine lv_aload_n hx hb dX8_weakest_32 rfl (lv_at hl 0 rfl) ?_
        refine lv_iload hx hb dX8_weakest_33 (lv_at hl 5 rfl) ?_
        refine lv_aload_n hx hb dX8_weakest_35 rfl (lv_at hl 0 rfl) ?_
        refine m_get (v := .ref (ad 11)) hx hb hts hown hK hP 13 (by decide) rfl kX8_40 rfl dX8_weakest_36 ?_
        refine lv_iconst (v := 3) hx hb dX8_weakest_39 (by decide) ?_
        refine lv_iload_n hx hb dX8_weakest_40 rfl (lv_at hl 1 rfl) ?_
        refine kn_imul hx hb 3 v1 rfl rfl dX8_weakest_41 ?_
        refine kn_iald (f := (RA 13)) (v := (RA 13 (3 * v1))) hx hb hK hP 11 rfl (3 * v1) rfl (by omega) (by omega) rfl dX8_weakest_42 ?_
        refine lv_aload_n hx hb dX8_weakest_43 rfl (lv_at hl 0 rfl) ?_
        refine m_get (v := .ref (ad 11)) hx hb hts hown hK hP 13 (by decide) rfl kX8_40 rfl dX8_weakest_44 ?_
        refine lv_iconst (v := 3) hx hb dX8_weakest_47 (by decide) ?_
        refine lv_iload_n hx hb dX8_weakest_48 rfl (lv_at hl 1 rfl) ?_
        refine kn_imul hx hb 3 v1 rfl rfl dX8_weakest_49 ?_
        refine lv_iconst (v := 1) hx hb dX8_weakest_50 (by decide) ?_
        refine kn_iadd hx hb (3 * v1) 1 rfl rfl dX8_weakest_51 ?_
        refine kn_iald (f := (RA 13)) (v := (RA 13 ((3 * v1) + 1))) hx hb hK hP 11 rfl ((3 * v1) + 1) rfl (by omega) (by omega) rfl dX8_weakest_52 ?_
        refine k_rV (v := .int (m_felt RA RS i_11 (RA 13 (3 * v1)) (RA 13 ((3 * v1) + 1)))) (As := [.int (nI i_11), .int (RA 13 (3 * v1)), .int (RA 13 ((3 * v1) + 1))]) (rest := [.int (nI i_11), .ref (ad 0)]) hx hb hml hown hts hl.1 hP hK hN (c_m_felt hI i_11 (RA 13 (3 * v1)) (RA 13 ((3 * v1) + 1)) hM (by omega)) eX8_215 (ci := 7) (q0 := 0) rfl rfl rfl rfl rfl (Nat.le_of_ble_eq_true rfl) ⟨Nat.le_of_ble_eq_true rfl, Nat.le_of_ble_eq_true rfl⟩ ⟨rfl, rfl⟩ ⟨Nat.le_of_ble_eq_true rfl, Nat.le_of_ble_eq_true rfl⟩ dX8_weakest_53 ?_
        refine k_rV (v := .int (m_below RA i_11 (m_felt RA RS i_11 (RA 13 (3 * v1)) (RA 13 ((3 * v1) + 1))))) (As := [.int (nI i_11), .int (m_felt RA RS i_11 (RA 13 (3 * v1)) (RA 13 ((3 * v1) + 1)))]) (rest := []) hx hb hml hown hts hl.1 hP hK hN (c_m_below hI i_11 (m_felt RA RS i_11 (RA 13 (3 * v1)) (RA 13 ((3 * v1) + 1))) hM (by omega)) eX8_209 (ci := 7) (q0 := 0) rfl rfl rfl rfl rfl (Nat.le_of_ble_eq_true rfl) ⟨Nat.le_of_ble_eq_true rfl, Nat.le_of_ble_eq_true rfl⟩ ⟨rfl, rfl⟩ ⟨Nat.le_of_ble_eq_true rfl, Nat.le_of_ble_eq_true rfl⟩ dX8_weakest_56 ?_
        refine lv_istore (lv' := [(6, .int (m_below RA i_11 (m_felt RA RS i_11 (RA 13 (3 * v1)) (RA 13 ((3 * v1) + 1))))), (0, .ref (ad 0)), (1, .int (nI v1)), (2, .int x2_11), (3, .int x3_11), (4, .int x4_11), (5, .int (nI i_11))]) hx hb dX8_weakest_59 hl (by decide) rfl (fun ls hl => ?_)
        refine lv_iload_n hx hb dX8_weakest_61 rfl (lv_at hl 3 rfl) ?_
        refine lv_bipush (v := (-4)) hx hb dX8_weakest_62 (by decide) ?_
        refine lv_icmp_eq (tgt := 83) hx hb dX8_weakest_64 (by decide) (fun c_19 => ?_) (fun c_19 => ?_)
        · refine lv_iconst (v := 1) hx hb dX8_weakest_83 (by decide) ?_
          refine lv_goto (tgt := 88) hx hb dX8_weakest_84 (by decide) ?_
          refine lv_istore (lv' := [(7, .int 1), (6, .int (m_below RA i_11 (m_felt RA RS i_11 (RA 13 (3 * v1)) (RA 13 ((3 * v1) + 1))))), (0, .ref (ad 0)), (1, .int (nI v1)), (2, .int x2_11), (3, .int x3_11), (4, .int x4_11), (5, .int (nI i_11))]) hx hb dX8_weakest_88 hl (by decide) rfl (fun ls hl => ?_)
          refine lv_iload hx hb dX8_weakest_90 (lv_at hl 0 rfl) ?_
          refine lv_if_eq (tgt := 100) hx hb dX8_weakest_92 (by decide) (fun c_20 => absurd c_20 (by decide)) (fun _ => ?_)
          refine lv_iload hx hb dX8_weakest_95 (lv_at hl 7 rfl) ?_
          refine lv_goto (tgt := 101) hx hb dX8_weakest_97 (by decide) ?_
          refine lv_istore_n (lv' := [(2, .int (nI i_11)), (7, .int 1), (6, .int (m_below RA i_11 (m_felt RA RS i_11 (RA 13 (3 * v1)) (RA 13 ((3 * v1) + 1))))), (0, .ref (ad 0)), (1, .int (nI v1)), (3, .int x3_11), (4, .int x4_11), (5, .int (nI i_11))]) hx hb dX8_weakest_101 rfl hl (by decide) rfl (fun ls hl => ?_)
          refine lv_iload hx hb dX8_weakest_102 (lv_at hl 1 rfl) ?_
          refine lv_if_eq (tgt := 112) hx hb dX8_weakest_104 (by decide) (fun c_21 => absurd c_21 (by decide)) (fun _ => ?_)
          refine lv_iload hx hb dX8_weakest_107 (lv_at hl 2 rfl) ?_
          refine lv_goto (tgt := 113) hx hb dX8_weakest_109 (by decide) ?_
          refine lv_istore_n (lv' := [(3, .int (m_below RA i_11 (m_felt RA RS i_11 (RA 13 (3 * v1)) (RA 13 ((3 * v1) + 1))))), (2, .int (nI i_11)), (7, .int 1), (6, .int (m_below RA i_11 (m_felt RA RS i_11 (RA 13 (3 * v1)) (RA 13 ((3 * v1) + 1))))), (0, .ref (ad 0)), (1, .int (nI v1)), (4, .int x4_11), (5, .int (nI i_11))]) hx hb dX8_weakest_113 rfl hl (by decide) rfl (fun ls hl => ?_)
          refine lv_iload hx hb dX8_weakest_114 (lv_at hl 2 rfl) ?_
          refine lv_if_eq (tgt := 128) hx hb dX8_weakest_116 (by decide) (fun c_22 => absurd c_22 (by decide)) (fun _ => ?_)
          refine lv_aload_n hx hb dX8_weakest_119 rfl (lv_at hl 4 rfl) ?_
          refine lv_iload hx hb dX8_weakest_120 (lv_at hl 7 rfl) ?_
          refine k_rV (v := .int (m_chances RA i_11)) (As := [.int (nI i_11)]) (rest := []) hx hb hml hown hts hl.1 hP hK hN (c_m_chances hI i_11 hM (by omega)) eX8_218 (ci := 7) (q0 := 0) rfl rfl rfl rfl rfl (Nat.le_of_ble_eq_true rfl) ⟨Nat.le_of_ble_eq_true rfl, Nat.le_of_ble_eq_true rfl⟩ ⟨rfl, rfl⟩ ⟨Nat.le_of_ble_eq_true rfl, Nat.le_of_ble_eq_true rfl⟩ dX8_weakest_122 ?_
          refine lv_goto (tgt := 130) hx hb dX8_weakest_125 (by decide) ?_
          refine lv_istore (lv' := [(4, .int (m_chances RA i_11)), (3, .int (m_below RA i_11 (m_felt RA RS i_11 (RA 13 (3 * v1)) (RA 13 ((3 * v1) + 1))))), (2, .int (nI i_11)), (7, .int 1), (6, .int (m_below RA i_11 (m_felt RA RS i_11 (RA 13 (3 * v1)) (RA 13 ((3 * v1) + 1))))), (0, .ref (ad 0)), (1, .int (nI v1)), (5, .int (nI i_11))]) hx hb dX8_weakest_130 hl (by decide) rfl (fun ls hl => ?_)
          refine lv_iinc (v := (nI (i_11 + 1))) (lv' := [(5, .int (nI (i_11 + 1))), (4, .int (m_chances RA i_11)), (3, .int (m_below RA i_11 (m_felt RA RS i_11 (RA 13 (3 * v1)) (RA 13 ((3 * v1) + 1))))), (2, .int (nI i_11)), (7, .int 1), (6, .int (m_below RA i_11 (m_felt RA RS i_11 (RA 13 (3 * v1)) (RA 13 ((3 * v1) + 1))))), (0, .ref (ad 0)), (1, .int (nI v1))]) hx hb dX8_weakest_132 hl (k := 7) rfl (nI_add _ _) (by decide) rfl (fun ls hl => ?_)
          refine lv_goto (tgt := 11) hx hb dX8_weakest_135 (by decide) ?_
          have hL_11 : (m_weakest_L11 RA RS v1 (n_11 + 1) i_11 x2_11 x3_11 x4_11) = (m_weakest_L11 RA RS v1 n_11 (i_11 + 1) (nI i_11) (m_below RA i_11 (m_felt RA RS i_11 (RA 13 (3 * v1)) (RA 13 ((3 * v1) + 1)))) (m_chances RA i_11)) := by rw [m_weakest_L11.eq_2, if_neg c_18, if_pos c_19]
          try rw [hL_11] at hk_11
          exact ih_11 (i_11 + 1) (nI i_11) (m_below RA i_11 (m_felt RA RS i_11 (RA 13 (3 * v1)) (RA 13 ((3 * v1) + 1)))) (m_chances RA i_11) (by omega) _ (lv_sub hl [6, 7, 3, 2, 1, 0] rfl) (by first | exact hinv_11a | exact Or.inr (k48r (by omega))) hk_11
        · refine lv_iload hx hb dX8_weakest_67 (lv_at hl 0 rfl) ?_
          refine lv_iload hx hb dX8_weakest_69 (lv_at hl 5 rfl) ?_
          refine lv_imul hx hb dX8_weakest_71 ?_
          refine lv_iload_n hx hb dX8_weakest_72 rfl (lv_at hl 4 rfl) ?_
          refine lv_aload_n hx hb dX8_weakest_73 rfl (lv_at hl 1 rfl) ?_
          refine lv_iload hx hb dX8_weakest_74 (lv_at hl 6 rfl) ?_
          refine k_rV (v := .int (m_chances RA i_11)) (As := [.int (nI i_11)]) (rest := [.int x3_11, .int ((m_below RA i_11 (m_felt RA RS i_11 (RA 13 (3 * v1)) (RA 13 ((3 * v1) + 1)))) * x4_11)]) hx hb hml hown hts hl.1 hP hK hN (c_m_chances hI i_11 hM (by omega)) eX8_218 (ci := 7) (q0 := 0) rfl rfl rfl rfl rfl (Nat.le_of_ble_eq_true rfl) ⟨Nat.le_of_ble_eq_true rfl, Nat.le_of_ble_eq_true rfl⟩ ⟨rfl, rfl⟩ ⟨Nat.le_of_ble_eq_true rfl, Nat.le_of_ble_eq_true rfl⟩ dX8_weakest_76 ?_
          refine lv_imul hx hb dX8_weakest_79 ?_
          refine lv_icmp_le (tgt := 87) hx hb dX8_weakest_80 (by decide) (fun c_23 => ?_) (fun c_23 => ?_)
          · refine lv_iconst (v := 0) hx hb dX8_weakest_87 (by decide) ?_
            refine lv_istore (lv' := [(7, .int 0), (6, .int (m_below RA i_11 (m_felt RA RS i_11 (RA 13 (3 * v1)) (RA 13 ((3 * v1) + 1))))), (0, .ref (ad 0)), (1, .int (nI v1)), (2, .int x2_11), (3, .int x3_11), (4, .int x4_11), (5, .int (nI i_11))]) hx hb dX8_weakest_88 hl (by decide) rfl (fun ls hl => ?_)
            refine lv_iload hx hb dX8_weakest_90 (lv_at hl 0 rfl) ?_
            refine lv_if_eq (tgt := 100) hx hb dX8_weakest_92 (by decide) (fun _ => ?_) (fun c_24 => absurd (by decide) c_24)
            refine lv_iload_n hx hb dX8_weakest_100 rfl (lv_at hl 4 rfl) ?_
            refine lv_istore_n (lv' := [(2, .int x2_11), (7, .int 0), (6, .int (m_below RA i_11 (m_felt RA RS i_11 (RA 13 (3 * v1)) (RA 13 ((3 * v1) + 1))))), (0, .ref (ad 0)), (1, .int (nI v1)), (3, .int x3_11), (4, .int x4_11), (5, .int (nI i_11))]) hx hb dX8_weakest_101 rfl hl (by decide) rfl (fun ls hl => ?_)
            refine lv_iload hx hb dX8_weakest_102 (lv_at hl 1 rfl) ?_
            refine lv_if_eq (tgt := 112) hx hb dX8_weakest_104 (by decide) (fun _ => ?_) (fun c_25 => absurd (by decide) c_25)
            refine lv_iload_n hx hb dX8_weakest_112 rfl (lv_at hl 5 rfl) ?_
            refine lv_istore_n (lv' := [(3, .int x3_11), (2, .int x2_11), (7, .int 0), (6, .int (m_below RA i_11 (m_felt RA RS i_11 (RA 13 (3 * v1)) (RA 13 ((3 * v1) + 1))))), (0, .ref (ad 0)), (1, .int (nI v1)), (4, .int x4_11), (5, .int (nI i_11))]) hx hb dX8_weakest_113 rfl hl (by decide) rfl (fun ls hl => ?_)
            refine lv_iload hx hb dX8_weakest_114 (lv_at hl 2 rfl) ?_
            refine lv_if_eq (tgt := 128) hx hb dX8_weakest_116 (by decide) (fun _ => ?_) (fun c_26 => absurd (by decide) c_26)
            refine lv_iload hx hb dX8_weakest_128 (lv_at hl 6 rfl) ?_
            refine lv_istore (lv' := [(4, .int x4_11), (3, .int x3_11), (2, .int x2_11), (7, .int 0), (6, .int (m_below RA i_11 (m_felt RA RS i_11 (RA 13 (3 * v1)) (RA 13 ((3 * v1) + 1))))), (0, .ref (ad 0)), (1, .int (nI v1)), (5, .int (nI i_11))]) hx hb dX8_weakest_130 hl (by decide) rfl (fun ls hl => ?_)
            refine lv_iinc (v := (nI (i_11 + 1))) (lv' := [(5, .int (nI (i_11 + 1))), (4, .int x4_11), (3, .int x3_11), (2, .int x2_11), (7, .int 0), (6, .int (m_below RA i_11 (m_felt RA RS i_11 (RA 13 (3 * v1)) (RA 13 ((3 * v1) + 1))))), (0, .ref (ad 0)), (1, .int (nI v1))]) hx hb dX8_weakest_132 hl (k := 7) rfl (nI_add _ _) (by decide) rfl (fun ls hl => ?_)
            refine lv_goto (tgt := 11) hx hb dX8_weakest_135 (by decide) ?_
            have hL_11 : (m_weakest_L11 RA RS v1 (n_11 + 1) i_11 x2_11 x3_11 x4_11) = (m_weakest_L11 RA RS v1 n_11 (i_11 + 1) x2_11 x3_11 x4_11) := by rw [m_weakest_L11.eq_2, if_neg c_18, if_neg c_19, if_pos c_23]
            try rw [hL_11] at hk_11
            exact ih_11 (i_11 + 1) x2_11 x3_11 x4_11 (by omega) _ (lv_sub hl [6, 7, 3, 2, 1, 0] rfl) (by first | exact hinv_11a | exact Or.inr (k48r (by omega))) hk_11
          · refine lv_iconst (v := 1) hx hb dX8_weakest_83 (by decide) ?_
            refine lv_goto (tgt := 88) hx hb dX8_weakest_84 (by decide) ?_
            refine lv_istore (lv' := [(7, .int 1), (6, .int (m_below RA i_11 (m_felt RA RS i_11 (RA 13 (3 * v1)) (RA 13 ((3 * v1) + 1))))), (0, .ref (ad 0)), (1, .int (nI v1)), (2, .int x2_11), (3, .int x3_11), (4, .int x4_11), (5, .int (nI i_11))]) hx hb dX8_weakest_88 hl (by decide) rfl (fun ls hl => ?_)
            refine lv_iload hx hb dX8_weakest_90 (lv_at hl 0 rfl) ?_
            refine lv_if_eq (tgt := 100) hx hb dX8_weakest_92 (by decide) (fun c_27 => absurd c_27 (by decide)) (fun _ => ?_)
            refine lv_iload hx hb dX8_weakest_95 (lv_at hl 7 rfl) ?_
            refine lv_goto (tgt := 101) hx hb dX8_weakest_97 (by decide) ?_
            refine lv_istore_n (lv' := [(2, .int (nI i_11)), (7, .int 1), (6, .int (m_below RA i_11 (m_felt RA RS i_11 (RA 13 (3 * v1)) (RA 13 ((3 * v1) + 1))))), (0, .ref (ad 0)), (1, .int (nI v1)), (3, .int x3_11), (4, .int x4_11), (5, .int (nI i_11))]) hx hb dX8_weakest_101 rfl hl (by decide) rfl (fun ls hl => ?_)
            refine lv_iload hx hb dX8_weakest_102 (lv_at hl 1 rfl) ?_
            refine lv_if_eq (tgt := 112) hx hb dX8_weakest_104 (by decide) (fun c_28 => absurd c_28 (by decide)) (fun _ => ?_)
            refine lv_iload hx hb dX8_weakest_107 (lv_at hl 2 rfl) ?_
            refine lv_goto (tgt := 113) hx hb dX8_weakest_109 (by decide) ?_
            refine lv_istore_n (lv' := [(3, .int (m_below RA i_11 (m_felt RA RS i_11 (RA 13 (3 * v1)) (RA 13 ((3 * v1) + 1))))), (2, .int (nI i_11)), (7, .int 1), (6, .int (m_below RA i_11 (m_felt RA RS i_11 (RA 13 (3 * v1)) (RA 13 ((3 * v1) + 1))))), (0, .ref (ad 0)), (1, .int (nI v1)), (4, .int x4_11), (5, .int (nI i_11))]) hx hb dX8_weakest_113 rfl hl (by decide) rfl (fun ls hl => ?_)
            refine lv_iload hx hb dX8_weakest_114 (lv_at hl 2 rfl) ?_
            refine lv_if_eq (tgt := 128) hx hb dX8_weakest_116 (by decide) (fun c_29 => absurd c_29 (by decide)) (fun _ => ?_)
            refine lv_aload_n hx hb dX8_weakest_119 rfl (lv_at hl 4 rfl) ?_
            refine lv_iload hx hb dX8_weakest_120 (lv_at hl 7 rfl) ?_
            refine k_rV (v := .int (m_chances RA i_11)) (As := [.int (nI i_11)]) (rest := []) hx hb hml hown hts hl.1 hP hK hN (c_m_chances hI i_11 hM (by omega)) eX8_218 (ci := 7) (q0 := 0) rfl rfl rfl rfl rfl (Nat.le_of_ble_eq_true rfl) ⟨Nat.le_of_ble_eq_true rfl, Nat.le_of_ble_eq_true rfl⟩ ⟨rfl, rfl⟩ ⟨Nat.le_of_ble_eq_true rfl, Nat.le_of_ble_eq_true rfl⟩ dX8_weakest_122 ?_
            refine lv_goto (tgt := 130) hx hb dX8_weakest_125 (by decide) ?_
            refine lv_istore (lv' := [(4, .int (m_chances RA i_11)), (3, .int (m_below RA i_11 (m_felt RA RS i_11 (RA 13 (3 * v1)) (RA 13 ((3 * v1) + 1))))), (2, .int (nI i_11)), (7, .int 1), (6, .int (m_below RA i_11 (m_felt RA RS i_11 (RA 13 (3 * v1)) (RA 13 ((3 * v1) + 1))))), (0, .ref (ad 0)), (1, .int (nI v1)), (5, .int (nI i_11))]) hx hb dX8_weakest_130 hl (by decide) rfl (fun ls hl => ?_)
            refine lv_iinc (v := (nI (i_11 + 1))) (lv' := [(5, .int (nI (i_11 + 1))), (4, .int (m_chances RA i_11)), (3, .int (m_below RA i_11 (m_felt RA RS i_11 (RA 13 (3 * v1)) (RA 13 ((3 * v1) + 1))))), (2, .int (nI i_11)), (7, .int 1), (6, .int (m_below RA i_11 (m_felt RA RS i_11 (RA 13 (3 * v1)) (RA 13 ((3 * v1) + 1))))), (0, .ref (ad 0)), (1, .int (nI v1))]) hx hb dX8_weakest_132 hl (k := 7) rfl (nI_add _ _) (by decide) rfl (fun ls hl => ?_)
            refine lv_goto (tgt := 11) hx hb dX8_weakest_135 (by decide) ?_
            have hL_11 : (m_weakest_L11 RA RS v1 (n_11 + 1) i_11 x2_11 x3_11 x4_11) = (m_weakest_L11 RA RS v1 n_11 (i_11 + 1) (nI i_11) (m_below RA i_11 (m_felt RA RS i_11 (RA 13 (3 * v1)) (RA 13 ((3 * v1) + 1)))) (m_chances RA i_11)) := by rw [m_weakest_L11.eq_2, if_neg c_18, if_neg c_19, if_neg c_23]
            try rw [hL_11] at hk_11
            exact ih_11 (i_11 + 1) (nI i_11) (m_below RA i_11 (m_felt RA RS i_11 (RA 13 (3 * v1)) (RA 13 ((3 * v1) + 1)))) (m_chances RA i_11) (by omega) _ (lv_sub hl [6, 7, 3, 2, 1, 0] rfl) (by first | exact hinv_11a | exact Or.inr (k48r (by omega))) hk_11
  exact loop_11 (RN 4) 0 (-4) 0 1 (by omega) _ (lv_sub hl [4, 5, 3, 2, 1, 0] rfl) (Or.inl rfl) (fun ls hl hx_11a => rest_11 (m_weakest_L11 RA RS v1 (RN 4) 0 (-4) 0 1).1 (m_weakest_L11 RA RS v1 (RN 4) 0 (-4) 0 1).2.1 (m_weakest_L11 RA RS v1 (RN 4) 0 (-4) 0 1).2.2 _ hl hx_11a (by rw [m_weakest]))
-- X8_fullest
def m_fullest_k5 (RA : Nat → Nat → Int32) (v1 : Int32) : Nat := if v1 = (-4) then 16 else (m_sideOf RA v1.toNatClampNeg)
def m_fullest_L5 (RA : Nat → Nat → Int32) (RS : Nat → Int32) : Nat → Nat → Int32 → Int32
  | 0, i, v1 => v1
  | n + 1, i, v1 => if (m_isLaden RA RS i) = 0 then m_fullest_L5 RA RS n (i + 1) v1 else (if v1 = (-4) then m_fullest_L5 RA RS n (i + 1) (nI i) else (if (RA 9 i) ≤ (RA 9 v1.toNatClampNeg) then m_fullest_L5 RA RS n (i + 1) (nI v1.toNatClampNeg) else m_fullest_L5 RA RS n (i + 1) (nI i)))
def m_fullest (RA : Nat → Nat → Int32) (RS : Nat → Int32) (RN : Nat → Nat) : Nat := m_fullest_k5 RA (m_fullest_L5 RA RS (RN 4) 0 (-4))
set_option maxHeartbeats 4000000 in
set_option maxRecDepth 100000 in
theorem c_m_fullest (hI : kInj ad 24) (hM : mI RA RS RN) : Met l yX8_fullest (.code yX8_fullest cX8_fullest 3 (some .int) :: kT) ({ frames := 3, cells := 0, slots := 0, locals := 63 } : Room) (va_Pc [.ref (ad 0)] (kB (dC, dI) [(cI, .int)] (RWs cI ad RA RS RN RL))) (kR (some (.int (nI (m_fullest RA RS RN))))) 0 0 (fun _ => False) := by
  refine kMet (by decide) (fun p e s m args below meth c ls hx hb hr hml hts hown hlocks hname hargs hB hl => ?_) (Nat.le_of_ble_eq_true rfl)
  obtain ⟨hP, hK, hN⟩ := hB
  have hl : lv_has ls 3 [(0, .ref (ad 0))] := hl
  have h4 : RN 4 ≤ 8 := mI_many hM
  refine lv_bipush (v := (-4)) hx hb dX8_fullest_0 (by decide) ?_
  refine lv_istore_n (lv' := [(1, .int (-4)), (0, .ref (ad 0))]) hx hb dX8_fullest_2 rfl hl (by decide) rfl (fun ls hl => ?_)
  refine lv_iconst (v := 0) hx hb dX8_fullest_3 (by decide) ?_
  refine lv_istore_n (lv' := [(2, .int 0), (1, .int (-4)), (0, .ref (ad 0))]) hx hb dX8_fullest_4 rfl hl (by decide) rfl (fun ls hl => ?_)
  have rest_5 : ∀ (x1_5 : Int32), ∀ (ls : Array Slot), lv_has ls 3 [(0, .ref (ad 0)), (1, .int x1_5)] → (x1_5 = -4 ∨ (0 ≤ (x1_5).toInt ∧ (x1_5).toInt < 8)) → (m_fullest RA RS RN) = m_fullest_k5 RA x1_5 → W p l e ({ frames := 3, cells := 0, slots := 0, locals := 63 } : Room) s m args below meth c s.heap [] 0 0 (MQ below (kR (some (.int (nI (m_fullest RA RS RN))))) args s 0 0 (fun _ => False)) (F0 m 54 ls []) := by
    intro x1_5 ls hl hx_5a hF_5
    refine lv_iload_n hx hb dX8_fullest_54 rfl (lv_at hl 1 rfl) ?_
    refine lv_bipush (v := (-4)) hx hb dX8_fullest_55 (by decide) ?_
    refine lv_icmp_ne (tgt := 65) hx hb dX8_fullest_57 (by decide) (fun c_6 => ?_) (fun c_6 => ?_)
    · have hnat1 : x1_5 = (nI x1_5.toNatClampNeg) := kNat (k48 (by assumption) hx_5a).1
      have hl : lv_has ls 3 [(0, .ref (ad 0)), (1, .int (nI x1_5.toNatClampNeg))] := by rw [← hnat1]; exact hl
      have hb48 : x1_5.toNatClampNeg < 8 := kNat_lt (n := 8) (k48 (by assumption) hx_5a).2 (by omega)
      refine lv_aload_n hx hb dX8_fullest_65 rfl (lv_at hl 0 rfl) ?_
      refine lv_iload_n hx hb dX8_fullest_66 rfl (lv_at hl 1 rfl) ?_
      refine k_rV (v := .int (nI (m_sideOf RA x1_5.toNatClampNeg))) (As := [.int (nI x1_5.toNatClampNeg)]) (rest := []) hx hb hml hown hts hl.1 hP hK hN (c_m_sideOf hI x1_5.toNatClampNeg (by omega)) eX8_240 (ci := 7) (q0 := 0) rfl rfl rfl rfl rfl (Nat.le_of_ble_eq_true rfl) ⟨Nat.le_of_ble_eq_true rfl, Nat.le_of_ble_eq_true rfl⟩ ⟨rfl, rfl⟩ ⟨Nat.le_of_ble_eq_true rfl, Nat.le_of_ble_eq_true rfl⟩ dX8_fullest_67 ?_
      have hE : (m_fullest RA RS RN) = (m_sideOf RA x1_5.toNatClampNeg) := hF_5.trans (by rw [m_fullest_k5, if_neg c_6])
      exact W.iret (v := (nI (m_sideOf RA x1_5.toNatClampNeg))) hx hb hr (fun t ht hW => ⟨by first | (rw [hE]; done) | (rw [hE]; rfl), ht⟩) (fun _ h => absurd h List.not_mem_nil) dX8_fullest_70 hlocks
    · refine lv_bipush (v := 16) hx hb dX8_fullest_60 (by decide) ?_
      refine lv_goto (tgt := 70) hx hb dX8_fullest_62 (by decide) ?_
      have hE : (m_fullest RA RS RN) = 16 := hF_5.trans (by rw [m_fullest_k5, if_pos c_6])
      exact W.iret (v := 16) hx hb hr (fun t ht hW => ⟨by first | (rw [hE]; done) | (rw [hE]; rfl), ht⟩) (fun _ h => absurd h List.not_mem_nil) dX8_fullest_70 hlocks
  have loop_5 : ∀ (n_5 i_5 : Nat) (x1_5 : Int32), i_5 + n_5 = (RN 4) → ∀ (ls : Array Slot), lv_has ls 3 [(0, .ref (ad 0)), (1, .int x1_5), (2, .int (nI i_5))] → (x1_5 = -4 ∨ (0 ≤ (x1_5).toInt ∧ (x1_5).toInt < 8)) → (∀ (ls : Array Slot), lv_has ls 3 [(0, .ref (ad 0)), (1, .int (m_fullest_L5 RA RS n_5 i_5 x1_5))] → ((m_fullest_L5 RA RS n_5 i_5 x1_5) = -4 ∨ (0 ≤ ((m_fullest_L5 RA RS n_5 i_5 x1_5)).toInt ∧ ((m_fullest_L5 RA RS n_5 i_5 x1_5)).toInt < 8)) → W p l e ({ frames := 3, cells := 0, slots := 0, locals := 63 } : Room) s m args below meth c s.heap [] 0 0 (MQ below (kR (some (.int (nI (m_fullest RA RS RN))))) args s 0 0 (fun _ => False)) (F0 m 54 ls [])) → W p l e ({ frames := 3, cells := 0, slots := 0, locals := 63 } : Room) s m args below meth c s.heap [] 0 0 (MQ below (kR (some (.int (nI (m_fullest RA RS RN))))) args s 0 0 (fun _ => False)) (F0 m 5 ls []) := by
    intro n_5
    induction n_5 with
    | zero =>
      intro i_5 x1_5 hin_5 ls hl hinv_5a hk_5
      refine lv_iload_n hx hb dX8_fullest_5 rfl (lv_at hl 2 rfl) ?_
      refine lv_aload_n hx hb dX8_fullest_6 rfl (lv_at hl 0 rfl) ?_
      refine m_get (v := .int (nI (RN 4))) hx hb hts hown hK hP 4 (by decide) rfl kX8_82 rfl dX8_fullest_7 ?_
      refine lv_icmp_ge (tgt := 54) hx hb dX8_fullest_10 (by decide) (fun _ => ?_) (fun c_7 => absurd (kct_ge (N := (RN 4)) (nI_clamp (by omega)) (by omega) (by omega)) c_7)
      have hL_5 : (m_fullest_L5 RA RS 0 i_5 x1_5) = x1_5 := by rw [m_fullest_L5.eq_1]
      try rw [hL_5] at hk_5
      exact hk_5 _ (lv_sub hl [0, 1] rfl) (hinv_5a)
    | succ n_5 ih_5 =>
      intro i_5 x1_5 hin_5 ls hl hinv_5a hk_5
      refine lv_iload_n hx hb dX8_fullest_5 rfl (lv_at hl 2 rfl) ?_
      refine lv_aload_n hx hb dX8_fullest_6 rfl (lv_at hl 0 rfl) ?_
      refine m_get (v := .int (nI (RN 4))) hx hb hts hown hK hP 4 (by decide) rfl kX8_82 rfl dX8_fullest_7 ?_
      refine lv_icmp_ge (tgt := 54) hx hb dX8_fullest_10 (by decide) (fun c_8 => absurd c_8 (kct_lt (N := (RN 4)) (nI_clamp (by omega)) (by omega))) (fun _ => ?_)
      refine lv_aload_n hx hb dX8_fullest_13 rfl (lv_at hl 0 rfl) ?_
      refine lv_iload_n hx hb dX8_fullest_14 rfl (lv_at hl 2 rfl) ?_
      refine k_rV (v := .int (m_isLaden RA RS i_5)) (As := [.int (nI i_5)]) (rest := []) hx hb hml hown hts hl.1 hP hK hN (c_m_isLaden hI i_5 (by omega)) eX8_237 (ci := 7) (q0 := 0) rfl rfl rfl rfl rfl (Nat.le_of_ble_eq_true rfl) ⟨Nat.le_of_ble_eq_true rfl, Nat.le_of_ble_eq_true rfl⟩ ⟨rfl, rfl⟩ ⟨Nat.le_of_ble_eq_true rfl, Nat.le_of_ble_eq_true rfl⟩ dX8_fullest_15 ?_
      refine lv_if_eq (tgt := 46) hx hb dX8_fullest_18 (by decide) (fun c_9 => ?_) (fun c_9 => ?_)
      · refine lv_iload_n hx hb dX8_fullest_46 rfl (lv_at hl 1 rfl) ?_
        refine lv_istore_n (lv' := [(1, .int x1_5), (0, .ref (ad 0)), (2, .int (nI i_5))]) hx hb dX8_fullest_47 rfl hl (by decide) rfl (fun ls hl => ?_)
        refine lv_iinc (v := (nI (i_5 + 1))) (lv' := [(2, .int (nI (i_5 + 1))), (1, .int x1_5), (0, .ref (ad 0))]) hx hb dX8_fullest_48 hl (k := 2) rfl (nI_add _ _) (by decide) rfl (fun ls hl => ?_)
        refine lv_goto (tgt := 5) hx hb dX8_fullest_51 (by decide) ?_
        have hL_5 : (m_fullest_L5 RA RS (n_5 + 1) i_5 x1_5) = (m_fullest_L5 RA RS n_5 (i_5 + 1) x1_5) := by rw [m_fullest_L5.eq_2, if_pos c_9]
        try rw [hL_5] at hk_5
        exact ih_5 (i_5 + 1) x1_5 (by omega) _ (lv_sub hl [2, 1, 0] rfl) (by first | exact hinv_5a | exact Or.inr (k48r (by omega))) hk_5
      · refine lv_iload_n hx hb dX8_fullest_21 rfl (lv_at hl 1 rfl) ?_
        refine lv_bipush (v := (-4)) hx hb dX8_fullest_22 (by decide) ?_
        refine lv_icmp_eq (tgt := 42) hx hb dX8_fullest_24 (by decide) (fun c_10 => ?_) (fun c_10 => ?_)
        · refine lv_iload_n hx hb dX8_fullest_42 rfl (lv_at hl 2 rfl) ?_
          refine lv_goto (tgt := 47) hx hb dX8_fullest_43 (by decide) ?_
          refine lv_istore_n (lv' := [(1, .int (nI i_5)), (0, .ref (ad 0)), (2, .int (nI i_5))]) hx hb dX8_fullest_47 rfl hl (by decide) rfl (fun ls hl => ?_)
          refine lv_iinc (v := (nI (i_5 + 1))) (lv' := [(2, .int (nI (i_5 + 1))), (1, .int (nI i_5)), (0, .ref (ad 0))]) hx hb dX8_fullest_48 hl (k := 2) rfl (nI_add _ _) (by decide) rfl (fun ls hl => ?_)
          refine lv_goto (tgt := 5) hx hb dX8_fullest_51 (by decide) ?_
          have hL_5 : (m_fullest_L5 RA RS (n_5 + 1) i_5 x1_5) = (m_fullest_L5 RA RS n_5 (i_5 + 1) (nI i_5)) := by rw [m_fullest_L5.eq_2, if_neg c_9, if_pos c_10]
          try rw [hL_5] at hk_5
          exact ih_5 (i_5 + 1) (nI i_5) (by omega) _ (lv_sub hl [2, 1, 0] rfl) (by first | exact hinv_5a | exact Or.inr (k48r (by omega))) hk_5
        · refine lv_aload_n hx hb dX8_fullest_27 rfl (lv_at hl 0 rfl) ?_
          refine m_get (v := .ref (ad 7)) hx hb hts hown hK hP 9 (by decide) rfl kX8_28 rfl dX8_fullest_28 ?_
          refine lv_iload_n hx hb dX8_fullest_31 rfl (lv_at hl 2 rfl) ?_
          refine kn_iald (f := (RA 9)) (v := (RA 9 i_5)) hx hb hK hP 7 rfl i_5 rfl (by omega) (by omega) rfl dX8_fullest_32 ?_
          refine lv_aload_n hx hb dX8_fullest_33 rfl (lv_at hl 0 rfl) ?_
          refine m_get (v := .ref (ad 7)) hx hb hts hown hK hP 9 (by decide) rfl kX8_28 rfl dX8_fullest_34 ?_
          have hnat1 : x1_5 = (nI x1_5.toNatClampNeg) := kNat (k48 (by assumption) hinv_5a).1
          have hl : lv_has ls 3 [(0, .ref (ad 0)), (1, .int (nI x1_5.toNatClampNeg)), (2, .int (nI i_5))] := by rw [← hnat1]; exact hl
          have hb48 : x1_5.toNatClampNeg < 8 := kNat_lt (n := 8) (k48 (by assumption) hinv_5a).2 (by omega)
          refine lv_iload_n hx hb dX8_fullest_37 rfl (lv_at hl 1 rfl) ?_
          refine kn_iald (f := (RA 9)) (v := (RA 9 x1_5.toNatClampNeg)) hx hb hK hP 7 rfl x1_5.toNatClampNeg rfl (by omega) (by omega) rfl dX8_fullest_38 ?_
          refine lv_icmp_le (tgt := 46) hx hb dX8_fullest_39 (by decide) (fun c_11 => ?_) (fun c_11 => ?_)
          · refine lv_iload_n hx hb dX8_fullest_46 rfl (lv_at hl 1 rfl) ?_
            refine lv_istore_n (lv' := [(1, .int (nI x1_5.toNatClampNeg)), (0, .ref (ad 0)), (2, .int (nI i_5))]) hx hb dX8_fullest_47 rfl hl (by decide) rfl (fun ls hl => ?_)
            refine lv_iinc (v := (nI (i_5 + 1))) (lv' := [(2, .int (nI (i_5 + 1))), (1, .int (nI x1_5.toNatClampNeg)), (0, .ref (ad 0))]) hx hb dX8_fullest_48 hl (k := 2) rfl (nI_add _ _) (by decide) rfl (fun ls hl => ?_)
            refine lv_goto (tgt := 5) hx hb dX8_fullest_51 (by decide) ?_
            have hL_5 : (m_fullest_L5 RA RS (n_5 + 1) i_5 x1_5) = (m_fullest_L5 RA RS n_5 (i_5 + 1) (nI x1_5.toNatClampNeg)) := by rw [m_fullest_L5.eq_2, if_neg c_9, if_neg c_10, if_pos c_11]
            try rw [hL_5] at hk_5
            exact ih_5 (i_5 + 1) (nI x1_5.toNatClampNeg) (by omega) _ (lv_sub hl [2, 1, 0] rfl) (by first | exact hinv_5a | exact Or.inr (k48r (by omega))) hk_5
          · refine lv_iload_n hx hb dX8_fullest_42 rfl (lv_at hl 2 rfl) ?_
            refine lv_goto (tgt := 47) hx hb dX8_fullest_43 (by decide) ?_
            refine lv_istore_n (lv' := [(1, .int (nI i_5)), (0, .ref (ad 0)), (2, .int (nI i_5))]) hx hb dX8_fullest_47 rfl hl (by decide) rfl (fun ls hl => ?_)
            refine lv_iinc (v := (nI (i_5 + 1))) (lv' := [(2, .int (nI (i_5 + 1))), (1, .int (nI i_5)), (0, .ref (ad 0))]) hx hb dX8_fullest_48 hl (k := 2) rfl (nI_add _ _) (by decide) rfl (fun ls hl => ?_)
            refine lv_goto (tgt := 5) hx hb dX8_fullest_51 (by decide) ?_
            have hL_5 : (m_fullest_L5 RA RS (n_5 + 1) i_5 x1_5) = (m_fullest_L5 RA RS n_5 (i_5 + 1) (nI i_5)) := by rw [m_fullest_L5.eq_2, if_neg c_9, if_neg c_10, if_neg c_11]
            try rw [hL_5] at hk_5
            exact ih_5 (i_5 + 1) (nI i_5) (by omega) _ (lv_sub hl [2, 1, 0] rfl) (by first | exact hinv_5a | exact Or.inr (k48r (by omega))) hk_5
  exact loop_5 (RN 4) 0 (-4) (by omega) _ (lv_sub hl [2, 1, 0] rfl) (Or.inl rfl) (fun ls hl hx_5a => rest_5 (m_fullest_L5 RA RS (RN 4) 0 (-4)) _ hl hx_5a (by rw [m_fullest]))
-- X8_chosen
def m_chosen (RA : Nat → Nat → Int32) (RS : Nat → Int32) (RN : Nat → Nat) (v1 : Int32) (v2 : Nat) : Nat := if v1 = 0 then (m_deepest RA RS) else (if v1 = 1 then (m_weakest RA RS RN v2) else (if v1 = 2 then (m_fullest RA RS RN) else (if v1 = 3 then (if (m_lies RA RS (RN 29)) = 0 then 16 else (RN 29)) else 16)))
set_option maxHeartbeats 4000000 in
set_option maxRecDepth 100000 in
theorem c_m_chosen (hI : kInj ad 24) (v1 : Int32) (v2 : Nat) (hM : mI RA RS RN) (hk : v2 < 3) : Met l yX8_chosen (.code yX8_chosen cX8_chosen 3 (some .int) :: kT) ({ frames := 4, cells := 0, slots := 0, locals := 93 } : Room) (va_Pc [.ref (ad 0), .int v1, .int (nI v2)] (kB (dC, dI) [(cI, .int)] (RWs cI ad RA RS RN RL))) (kR (some (.int (nI (m_chosen RA RS RN v1 v2))))) 0 0 (fun _ => False) := by
  refine kMet (by decide) (fun p e s m args below meth c ls hx hb hr hml hts hown hlocks hname hargs hB hl => ?_) (Nat.le_of_ble_eq_true rfl)
  obtain ⟨hP, hK, hN⟩ := hB
  have hl : lv_has ls 3 [(0, .ref (ad 0)), (1, .int v1), (2, .int (nI v2))] := hl
  have h29 := mI_told hM
  refine lv_iload_n hx hb dX8_chosen_0 rfl (lv_at hl 1 rfl) ?_
  by_cases c_6 : v1 = 0
  · refine lv_tableIn (tgt := 32) hx hb dX8_chosen_1 (by rw [c_6]; decide) (by rw [c_6]; decide) (by rw [c_6]; rfl) (by decide) ?_
    refine lv_aload_n hx hb dX8_chosen_32 rfl (lv_at hl 0 rfl) ?_
    refine k_rV (v := .int (nI (m_deepest RA RS))) (As := []) (rest := []) hx hb hml hown hts hl.1 hP hK hN (c_m_deepest hI) eX8_243 (ci := 7) (q0 := 0) rfl rfl rfl rfl rfl (Nat.le_of_ble_eq_true rfl) ⟨Nat.le_of_ble_eq_true rfl, Nat.le_of_ble_eq_true rfl⟩ ⟨rfl, rfl⟩ ⟨Nat.le_of_ble_eq_true rfl, Nat.le_of_ble_eq_true rfl⟩ dX8_chosen_33 ?_
    have hE : (m_chosen RA RS RN v1 v2) = (m_deepest RA RS) := by rw [m_chosen, if_pos c_6]
    exact W.iret (v := (nI (m_deepest RA RS))) hx hb hr (fun t ht hW => ⟨by first | (rw [hE]; done) | (rw [hE]; rfl), ht⟩) (fun _ h => absurd h List.not_mem_nil) dX8_chosen_36 hlocks
  · by_cases c_7 : v1 = 1
    · refine lv_tableIn (tgt := 37) hx hb dX8_chosen_1 (by rw [c_7]; decide) (by rw [c_7]; decide) (by rw [c_7]; rfl) (by decide) ?_
      refine lv_aload_n hx hb dX8_chosen_37 rfl (lv_at hl 0 rfl) ?_
      refine lv_iload_n hx hb dX8_chosen_38 rfl (lv_at hl 2 rfl) ?_
      refine k_rV (v := .int (nI (m_weakest RA RS RN v2))) (As := [.int (nI v2)]) (rest := []) hx hb hml hown hts hl.1 hP hK hN (c_m_weakest hI v2 hM (by omega)) eX8_246 (ci := 7) (q0 := 0) rfl rfl rfl rfl rfl (Nat.le_of_ble_eq_true rfl) ⟨Nat.le_of_ble_eq_true rfl, Nat.le_of_ble_eq_true rfl⟩ ⟨rfl, rfl⟩ ⟨Nat.le_of_ble_eq_true rfl, Nat.le_of_ble_eq_true rfl⟩ dX8_chosen_39 ?_
      have hE : (m_chosen RA RS RN v1 v2) = (m_weakest RA RS RN v2) := by rw [m_chosen, if_neg c_6, if_pos c_7]
      exact W.iret (v := (nI (m_weakest RA RS RN v2))) hx hb hr (fun t ht hW => ⟨by first | (rw [hE]; done) | (rw [hE]; rfl), ht⟩) (fun _ h => absurd h List.not_mem_nil) dX8_chosen_42 hlocks
    · by_cases c_8 : v1 = 2
      · refine lv_tableIn (tgt := 43) hx hb dX8_chosen_1 (by rw [c_8]; decide) (by rw [c_8]; decide) (by rw [c_8]; rfl) (by decide) ?_
        refine lv_aload_n hx hb dX8_chosen_43 rfl (lv_at hl 0 rfl) ?_
        refine k_rV (v := .int (nI (m_fullest RA RS RN))) (As := []) (rest := []) hx hb hml hown hts hl.1 hP hK hN (c_m_fullest hI hM) eX8_249 (ci := 7) (q0 := 0) rfl rfl rfl rfl rfl (Nat.le_of_ble_eq_true rfl) ⟨Nat.le_of_ble_eq_true rfl, Nat.le_of_ble_eq_true rfl⟩ ⟨rfl, rfl⟩ ⟨Nat.le_of_ble_eq_true rfl, Nat.le_of_ble_eq_true rfl⟩ dX8_chosen_44 ?_
        have hE : (m_chosen RA RS RN v1 v2) = (m_fullest RA RS RN) := by rw [m_chosen, if_neg c_6, if_neg c_7, if_pos c_8]
        exact W.iret (v := (nI (m_fullest RA RS RN))) hx hb hr (fun t ht hW => ⟨by first | (rw [hE]; done) | (rw [hE]; rfl), ht⟩) (fun _ h => absurd h List.not_mem_nil) dX8_chosen_47 hlocks
      · by_cases c_9 : v1 = 3
        · refine lv_tableIn (tgt := 48) hx hb dX8_chosen_1 (by rw [c_9]; decide) (by rw [c_9]; decide) (by rw [c_9]; rfl) (by decide) ?_
          refine lv_aload_n hx hb dX8_chosen_48 rfl (lv_at hl 0 rfl) ?_
          refine lv_aload_n hx hb dX8_chosen_49 rfl (lv_at hl 0 rfl) ?_
          refine m_get (v := .int (nI (RN 29))) hx hb hts hown hK hP 29 (by decide) rfl kX8_169 rfl dX8_chosen_50 ?_
          refine k_rV (v := .int (m_lies RA RS (RN 29))) (As := [.int (nI (RN 29))]) (rest := []) hx hb hml hown hts hl.1 hP hK hN (c_m_lies hI (RN 29) (by omega)) eX8_234 (ci := 7) (q0 := 0) rfl rfl rfl rfl rfl (Nat.le_of_ble_eq_true rfl) ⟨Nat.le_of_ble_eq_true rfl, Nat.le_of_ble_eq_true rfl⟩ ⟨rfl, rfl⟩ ⟨Nat.le_of_ble_eq_true rfl, Nat.le_of_ble_eq_true rfl⟩ dX8_chosen_53 ?_
          refine lv_if_eq (tgt := 66) hx hb dX8_chosen_56 (by decide) (fun c_10 => ?_) (fun c_10 => ?_)
          · refine lv_bipush (v := 16) hx hb dX8_chosen_66 (by decide) ?_
            have hE : (m_chosen RA RS RN v1 v2) = 16 := by rw [m_chosen, if_neg c_6, if_neg c_7, if_neg c_8, if_pos c_9, if_pos c_10]
            exact W.iret (v := 16) hx hb hr (fun t ht hW => ⟨by first | (rw [hE]; done) | (rw [hE]; rfl), ht⟩) (fun _ h => absurd h List.not_mem_nil) dX8_chosen_68 hlocks
          · refine lv_aload_n hx hb dX8_chosen_59 rfl (lv_at hl 0 rfl) ?_
            refine m_get (v := .int (nI (RN 29))) hx hb hts hown hK hP 29 (by decide) rfl kX8_169 rfl dX8_chosen_60 ?_
            refine lv_goto (tgt := 68) hx hb dX8_chosen_63 (by decide) ?_
            have hE : (m_chosen RA RS RN v1 v2) = (RN 29) := by rw [m_chosen, if_neg c_6, if_neg c_7, if_neg c_8, if_pos c_9, if_neg c_10]
            exact W.iret (v := (nI (RN 29))) hx hb hr (fun t ht hW => ⟨by first | (rw [hE]; done) | (rw [hE]; rfl), ht⟩) (fun _ h => absurd h List.not_mem_nil) dX8_chosen_68 hlocks
        · refine lv_tableOut (tgt := 69) hx hb dX8_chosen_1 (by
            have n0 : v1.toInt ≠ 0 := fun q => by first | exact absurd (Int32.toInt_inj.mp (q.trans (show (0 : Int) = (0 : Int32).toInt by decide))) (by assumption)
            have n1 : v1.toInt ≠ 1 := fun q => by first | exact absurd (Int32.toInt_inj.mp (q.trans (show (1 : Int) = (1 : Int32).toInt by decide))) (by assumption)
            have n2 : v1.toInt ≠ 2 := fun q => by first | exact absurd (Int32.toInt_inj.mp (q.trans (show (2 : Int) = (2 : Int32).toInt by decide))) (by assumption)
            have n3 : v1.toInt ≠ 3 := fun q => by first | exact absurd (Int32.toInt_inj.mp (q.trans (show (3 : Int) = (3 : Int32).toInt by decide))) (by assumption)
            omega) (by decide) ?_
          refine lv_bipush (v := 16) hx hb dX8_chosen_69 (by decide) ?_
          have hE : (m_chosen RA RS RN v1 v2) = 16 := by rw [m_chosen, if_neg c_6, if_neg c_7, if_neg c_8, if_neg c_9]
          exact W.iret (v := 16) hx hb hr (fun t ht hW => ⟨by first | (rw [hE]; done) | (rw [hE]; rfl), ht⟩) (fun _ h => absurd h List.not_mem_nil) dX8_chosen_71 hlocks
-- X8_clear
def m_clear (RA : Nat → Nat → Int32) (RS : Nat → Int32) (v1 : Nat) : (Nat → Int32) := if 16 ≤ (nI v1) then (RA 36) else (if (m_has (RS 38) (nI (v1 / 2))) = 0 then (RA 36) else (if (RS 16) ≤ (RA 36 v1) then (if 8 ≤ (RA 8 (v1 / 2)) then (upd (RA 36) v1 ((RA 36 v1) - (RS 16))) else (if (m_has (RS 38) (nI ((RA 8 (v1 / 2)).toNatClampNeg))) = 0 then (upd (RA 36) v1 ((RA 36 v1) - (RS 16))) else (upd (upd (RA 36) v1 ((RA 36 v1) - (RS 16))) (2 * ((RA 8 (v1 / 2)).toNatClampNeg)) (((upd (RA 36) v1 ((RA 36 v1) - (RS 16))) (2 * ((RA 8 (v1 / 2)).toNatClampNeg))) + (RS 16))))) else (if 8 ≤ (RA 8 (v1 / 2)) then (upd (RA 36) v1 ((RA 36 v1) - (RA 36 v1))) else (if (m_has (RS 38) (nI ((RA 8 (v1 / 2)).toNatClampNeg))) = 0 then (upd (RA 36) v1 ((RA 36 v1) - (RA 36 v1))) else (upd (upd (RA 36) v1 ((RA 36 v1) - (RA 36 v1))) (2 * ((RA 8 (v1 / 2)).toNatClampNeg)) (((upd (RA 36) v1 ((RA 36 v1) - (RA 36 v1))) (2 * ((RA 8 (v1 / 2)).toNatClampNeg))) + (RA 36 v1)))))))
set_option maxHeartbeats 4000000 in
set_option maxRecDepth 100000 in
theorem c_m_clear (hI : kInj ad 24) (v1 : Nat) (hM : mI RA RS RN) (hs : v1 ≤ 16) : Met l yX8_clear (.code yX8_clear cX8_clear 4 none :: kT) ({ frames := 1, cells := 0, slots := 0, locals := 21 } : Room) (va_Pc [.ref (ad 0), .int (nI v1)] (kB (dC, dI) [(cI, .int)] (RWs cI ad RA RS RN RL))) (kQ none (kB (dC, dI) [(cI, .int)] (RWs cI ad (va_up RA 36 (m_clear RA RS v1)) RS RN RL)) (kAA ad 24)) 0 0 (kAA ad 24) := by
  refine kMet (by decide) (fun p e s m args below meth c ls hx hb hr hml hts hown hlocks hname hargs hB hl => ?_) (Nat.le_of_ble_eq_true rfl)
  obtain ⟨hP, hK, hN⟩ := hB
  have hl : lv_has ls 4 [(0, .ref (ad 0)), (1, .int (nI v1))] := hl
  have hS : va_S (kAA ad 24) s.heap s.heap [] := va_S.rf
  refine lv_iload_n hx hb dX8_clear_0 rfl (lv_at hl 1 rfl) ?_
  refine lv_bipush (v := 16) hx hb dX8_clear_1 (by decide) ?_
  refine lv_icmp_ge (tgt := 94) hx hb dX8_clear_3 (by decide) (fun c_8 => ?_) (fun c_8 => ?_)
  · have hE : (m_clear RA RS v1) = (RA 36) := by rw [m_clear, if_pos c_8]
    exact W.vret hx hb hr (fun t ht hW => ⟨rfl, by rw [hE]; exact kB.of (ws := RWs cI ad (va_up RA 36 (RA 36)) RS RN RL) (RWs_conv rfl rfl rfl rfl rfl rfl rfl rfl rfl rfl rfl rfl rfl rfl rfl rfl rfl rfl rfl rfl rfl rfl rfl rfl rfl rfl rfl rfl rfl rfl rfl rfl rfl rfl rfl rfl rfl rfl rfl rfl rfl hP) hK hN ht hW, hS.F ht⟩) hS.2.2 dX8_clear_94 hlocks
  · have hs2 : v1 < 16 := knI_nle (b := 16) (by assumption) (by omega) (by omega)
    refine lv_aload_n hx hb dX8_clear_6 rfl (lv_at hl 0 rfl) ?_
    refine m_get (v := .int (RS 38)) hx hb hts hown hK hP 38 (by decide) rfl kX8_194 rfl dX8_clear_7 ?_
    refine lv_iload_n hx hb dX8_clear_10 rfl (lv_at hl 1 rfl) ?_
    refine lv_iconst (v := 2) hx hb dX8_clear_11 (by decide) ?_
    refine lv_idiv hx hb dX8_clear_12 (by decide) ?_
    refine kn_top (x' := (nI (v1 / 2))) (pk_div (a := v1) (d := 2) (by omega) (by omega) (by omega)) ?_
    refine k_rS (v := .int (m_has (RS 38) (nI (v1 / 2)))) (As := [.int (RS 38), .int (nI (v1 / 2))]) (rest := []) hx hb hml hown hts hl.1 (B := fun _ => True) (fun _ _ _ _ q => q) (fun _ _ _ => trivial) (c_m_has (RS 38) (nI (v1 / 2))) eX8_204 rfl rfl (Nat.le_of_ble_eq_true rfl) ⟨Nat.le_of_ble_eq_true rfl, Nat.le_of_ble_eq_true rfl⟩ ⟨rfl, rfl⟩ ⟨Nat.le_of_ble_eq_true rfl, Nat.le_of_ble_eq_true rfl⟩ dX8_clear_13 ?_
    refine lv_if_eq (tgt := 94) hx hb dX8_clear_16 (by decide) (fun c_9 => ?_) (fun c_9 => ?_)
    · have hE : (m_clear RA RS v1) = (RA 36) := by rw [m_clear, if_neg c_8, if_pos c_9]
      exact W.vret hx hb hr (fun t ht hW => ⟨rfl, by rw [hE]; exact kB.of (ws := RWs cI ad (va_up RA 36 (RA 36)) RS RN RL) (RWs_conv rfl rfl rfl rfl rfl rfl rfl rfl rfl rfl rfl rfl rfl rfl rfl rfl rfl rfl rfl rfl rfl rfl rfl rfl rfl rfl rfl rfl rfl rfl rfl rfl rfl rfl rfl rfl rfl rfl rfl rfl rfl hP) hK hN ht hW, hS.F ht⟩) hS.2.2 dX8_clear_94 hlocks
    · refine lv_aload_n hx hb dX8_clear_19 rfl (lv_at hl 0 rfl) ?_
      refine m_get (v := .ref (ad 20)) hx hb hts hown hK hP 36 (by decide) rfl kX8_67 rfl dX8_clear_20 ?_
      refine lv_iload_n hx hb dX8_clear_23 rfl (lv_at hl 1 rfl) ?_
      refine kn_iald (f := (RA 36)) (v := (RA 36 v1)) hx hb hK hP 20 rfl v1 rfl (by omega) (by omega) rfl dX8_clear_24 ?_
      refine lv_aload_n hx hb dX8_clear_25 rfl (lv_at hl 0 rfl) ?_
      refine m_get (v := .int (RS 16)) hx hb hts hown hK hP 16 (by decide) rfl kX8_145 rfl dX8_clear_26 ?_
      refine lv_icmp_ge (tgt := 41) hx hb dX8_clear_29 (by decide) (fun c_10 => ?_) (fun c_10 => ?_)
      · refine lv_aload_n hx hb dX8_clear_41 rfl (lv_at hl 0 rfl) ?_
        refine m_get (v := .int (RS 16)) hx hb hts hown hK hP 16 (by decide) rfl kX8_145 rfl dX8_clear_42 ?_
        refine lv_istore_n (lv' := [(2, .int (RS 16)), (0, .ref (ad 0)), (1, .int (nI v1))]) hx hb dX8_clear_45 rfl hl (by decide) rfl (fun ls hl => ?_)
        refine lv_aload_n hx hb dX8_clear_46 rfl (lv_at hl 1 rfl) ?_
        refine m_get (v := .ref (ad 20)) hx hb hts hown hK hP 36 (by decide) rfl kX8_67 rfl dX8_clear_47 ?_
        refine lv_iload_n hx hb dX8_clear_50 rfl (lv_at hl 2 rfl) ?_
        refine lv_dup2_11 hx hb dX8_clear_51 rfl rfl ?_
        refine kn_iald (f := (RA 36)) (v := (RA 36 v1)) hx hb hK hP 20 rfl v1 rfl (by omega) (by omega) rfl dX8_clear_52 ?_
        refine lv_iload_n hx hb dX8_clear_53 rfl (lv_at hl 0 rfl) ?_
        refine lv_isub hx hb dX8_clear_54 ?_
        refine kn_iast (f := (RA 36)) (ws' := RWs cI ad (va_up RA 36 (upd (RA 36) v1 ((RA 36 v1) - (RS 16)))) RS RN RL) hx hb hK hP (RWsD hI) hS 20 rfl v1 rfl (by omega) (by omega) rfl dX8_clear_55 (fun H locs hP hS => ?_)
        refine lv_aload_n hx hb dX8_clear_56 rfl (lv_at hl 1 rfl) ?_
        refine m_get (v := .ref (ad 6)) hx hb hts hown hK hP 8 (by decide) rfl kX8_25 rfl dX8_clear_57 ?_
        refine lv_iload_n hx hb dX8_clear_60 rfl (lv_at hl 2 rfl) ?_
        refine lv_iconst (v := 2) hx hb dX8_clear_61 (by decide) ?_
        refine lv_idiv hx hb dX8_clear_62 (by decide) ?_
        refine kn_top (x' := (nI (v1 / 2))) (pk_div (a := v1) (d := 2) (by omega) (by omega) (by omega)) ?_
        refine kn_iald (f := (RA 8)) (v := (RA 8 (v1 / 2))) hx hb hK hP 6 rfl (v1 / 2) rfl (by omega) (by omega) rfl dX8_clear_63 ?_
        refine lv_istore_n (lv' := [(3, .int (RA 8 (v1 / 2))), (2, .int (RS 16)), (0, .ref (ad 0)), (1, .int (nI v1))]) hx hb dX8_clear_64 rfl hl (by decide) rfl (fun ls hl => ?_)
        have ht8 := mI_thr hM (v1 / 2) (by omega)
        refine lv_iload_n hx hb dX8_clear_65 rfl (lv_at hl 0 rfl) ?_
        refine lv_bipush (v := 8) hx hb dX8_clear_66 (by decide) ?_
        refine lv_icmp_ge (tgt := 94) hx hb dX8_clear_68 (by decide) (fun c_11 => ?_) (fun c_11 => ?_)
        · have hE : (m_clear RA RS v1) = (upd (RA 36) v1 ((RA 36 v1) - (RS 16))) := by rw [m_clear, if_neg c_8, if_neg c_9, if_pos c_10, if_pos c_11]
          exact W.vret hx hb hr (fun t ht hW => ⟨rfl, by rw [hE]; exact kB.of (ws := RWs cI ad (va_up RA 36 (upd (RA 36) v1 ((RA 36 v1) - (RS 16)))) RS RN RL) hP hK hN ht hW, hS.F ht⟩) hS.2.2 dX8_clear_94 hlocks
        · have hnat3 : (RA 8 (v1 / 2)) = (nI ((RA 8 (v1 / 2)).toNatClampNeg)) := kNat ht8
          have hl : lv_has ls 4 [(3, .int (nI ((RA 8 (v1 / 2)).toNatClampNeg))), (2, .int (RS 16)), (0, .ref (ad 0)), (1, .int (nI v1))] := by rw [← hnat3]; exact hl
          have ht9 : ((RA 8 (v1 / 2)).toNatClampNeg) < 8 := kNat_lt (kI_ltN (n := 8) (by assumption) (by omega)) (by omega)
          refine lv_aload_n hx hb dX8_clear_71 rfl (lv_at hl 2 rfl) ?_
          refine m_get (v := .int (RS 38)) hx hb hts hown hK hP 38 (by decide) rfl kX8_194 rfl dX8_clear_72 ?_
          refine lv_iload_n hx hb dX8_clear_75 rfl (lv_at hl 0 rfl) ?_
          refine k_rS (v := .int (m_has (RS 38) (nI ((RA 8 (v1 / 2)).toNatClampNeg)))) (As := [.int (RS 38), .int (nI ((RA 8 (v1 / 2)).toNatClampNeg))]) (rest := []) hx hb hml hown hts hl.1 (B := fun _ => True) (fun _ _ _ _ q => q) (fun _ _ _ => trivial) (c_m_has (RS 38) (nI ((RA 8 (v1 / 2)).toNatClampNeg))) eX8_204 rfl rfl (Nat.le_of_ble_eq_true rfl) ⟨Nat.le_of_ble_eq_true rfl, Nat.le_of_ble_eq_true rfl⟩ ⟨rfl, rfl⟩ ⟨Nat.le_of_ble_eq_true rfl, Nat.le_of_ble_eq_true rfl⟩ dX8_clear_76 ?_
          refine lv_if_eq (tgt := 94) hx hb dX8_clear_79 (by decide) (fun c_12 => ?_) (fun c_12 => ?_)
          · have hE : (m_clear RA RS v1) = (upd (RA 36) v1 ((RA 36 v1) - (RS 16))) := by rw [m_clear, if_neg c_8, if_neg c_9, if_pos c_10, if_neg c_11, if_pos c_12]
            exact W.vret hx hb hr (fun t ht hW => ⟨rfl, by rw [hE]; exact kB.of (ws := RWs cI ad (va_up RA 36 (upd (RA 36) v1 ((RA 36 v1) - (RS 16)))) RS RN RL) hP hK hN ht hW, hS.F ht⟩) hS.2.2 dX8_clear_94 hlocks
          · refine lv_aload_n hx hb dX8_clear_82 rfl (lv_at hl 2 rfl) ?_
            refine m_get (v := .ref (ad 20)) hx hb hts hown hK hP 36 (by decide) rfl kX8_67 rfl dX8_clear_83 ?_
            refine lv_iconst (v := 2) hx hb dX8_clear_86 (by decide) ?_
            refine lv_iload_n hx hb dX8_clear_87 rfl (lv_at hl 0 rfl) ?_
            refine kn_imul hx hb 2 ((RA 8 (v1 / 2)).toNatClampNeg) rfl rfl dX8_clear_88 ?_
            refine lv_dup2_11 hx hb dX8_clear_89 rfl rfl ?_
            refine kn_iald (f := (upd (RA 36) v1 ((RA 36 v1) - (RS 16)))) (v := ((upd (RA 36) v1 ((RA 36 v1) - (RS 16))) (2 * ((RA 8 (v1 / 2)).toNatClampNeg)))) hx hb hK hP 20 rfl (2 * ((RA 8 (v1 / 2)).toNatClampNeg)) rfl (by omega) (by omega) rfl dX8_clear_90 ?_
            refine lv_iload_n hx hb dX8_clear_91 rfl (lv_at hl 1 rfl) ?_
            refine lv_iadd hx hb dX8_clear_92 ?_
            refine kn_iast (f := (upd (RA 36) v1 ((RA 36 v1) - (RS 16)))) (ws' := RWs cI ad (va_up RA 36 (upd (upd (RA 36) v1 ((RA 36 v1) - (RS 16))) (2 * ((RA 8 (v1 / 2)).toNatClampNeg)) (((upd (RA 36) v1 ((RA 36 v1) - (RS 16))) (2 * ((RA 8 (v1 / 2)).toNatClampNeg))) + (RS 16)))) RS RN RL) hx hb hK hP (RWsD hI) hS 20 rfl (2 * ((RA 8 (v1 / 2)).toNatClampNeg)) rfl (by omega) (by omega) rfl dX8_clear_93 (fun H locs hP hS => ?_)
            have hE : (m_clear RA RS v1) = (upd (upd (RA 36) v1 ((RA 36 v1) - (RS 16))) (2 * ((RA 8 (v1 / 2)).toNatClampNeg)) (((upd (RA 36) v1 ((RA 36 v1) - (RS 16))) (2 * ((RA 8 (v1 / 2)).toNatClampNeg))) + (RS 16))) := by rw [m_clear, if_neg c_8, if_neg c_9, if_pos c_10, if_neg c_11, if_neg c_12]
            exact W.vret hx hb hr (fun t ht hW => ⟨rfl, by rw [hE]; exact kB.of (ws := RWs cI ad (va_up RA 36 (upd (upd (RA 36) v1 ((RA 36 v1) - (RS 16))) (2 * ((RA 8 (v1 / 2)).toNatClampNeg)) (((upd (RA 36) v1 ((RA 36 v1) - (RS 16))) (2 * ((RA 8 (v1 / 2)).toNatClampNeg))) + (RS 16)))) RS RN RL) hP hK hN ht hW, hS.F ht⟩) hS.2.2 dX8_clear_94 hlocks
      · refine lv_aload_n hx hb dX8_clear_32 rfl (lv_at hl 0 rfl) ?_
        refine m_get (v := .ref (ad 20)) hx hb hts hown hK hP 36 (by decide) rfl kX8_67 rfl dX8_clear_33 ?_
        refine lv_iload_n hx hb dX8_clear_36 rfl (lv_at hl 1 rfl) ?_
        refine kn_iald (f := (RA 36)) (v := (RA 36 v1)) hx hb hK hP 20 rfl v1 rfl (by omega) (by omega) rfl dX8_clear_37 ?_
        refine lv_goto (tgt := 45) hx hb dX8_clear_38 (by decide) ?_
        refine lv_istore_n (lv' := [(2, .int (RA 36 v1)), (0, .ref (ad 0)), (1, .int (nI v1))]) hx hb dX8_clear_45 rfl hl (by decide) rfl (fun ls hl => ?_)
        refine lv_aload_n hx hb dX8_clear_46 rfl (lv_at hl 1 rfl) ?_
        refine m_get (v := .ref (ad 20)) hx hb hts hown hK hP 36 (by decide) rfl kX8_67 rfl dX8_clear_47 ?_
        refine lv_iload_n hx hb dX8_clear_50 rfl (lv_at hl 2 rfl) ?_
        refine lv_dup2_11 hx hb dX8_clear_51 rfl rfl ?_
        refine kn_iald (f := (RA 36)) (v := (RA 36 v1)) hx hb hK hP 20 rfl v1 rfl (by omega) (by omega) rfl dX8_clear_52 ?_
        refine lv_iload_n hx hb dX8_clear_53 rfl (lv_at hl 0 rfl) ?_
        refine lv_isub hx hb dX8_clear_54 ?_
        refine kn_iast (f := (RA 36)) (ws' := RWs cI ad (va_up RA 36 (upd (RA 36) v1 ((RA 36 v1) - (RA 36 v1)))) RS RN RL) hx hb hK hP (RWsD hI) hS 20 rfl v1 rfl (by omega) (by omega) rfl dX8_clear_55 (fun H locs hP hS => ?_)
        refine lv_aload_n hx hb dX8_clear_56 rfl (lv_at hl 1 rfl) ?_
        refine m_get (v := .ref (ad 6)) hx hb hts hown hK hP 8 (by decide) rfl kX8_25 rfl dX8_clear_57 ?_
        refine lv_iload_n hx hb dX8_clear_60 rfl (lv_at hl 2 rfl) ?_
        refine lv_iconst (v := 2) hx hb dX8_clear_61 (by decide) ?_
        refine lv_idiv hx hb dX8_clear_62 (by decide) ?_
        refine kn_top (x' := (nI (v1 / 2))) (pk_div (a := v1) (d := 2) (by omega) (by omega) (by omega)) ?_
        refine kn_iald (f := (RA 8)) (v := (RA 8 (v1 / 2))) hx hb hK hP 6 rfl (v1 / 2) rfl (by omega) (by omega) rfl dX8_clear_63 ?_
        refine lv_istore_n (lv' := [(3, .int (RA 8 (v1 / 2))), (2, .int (RA 36 v1)), (0, .ref (ad 0)), (1, .int (nI v1))]) hx hb dX8_clear_64 rfl hl (by decide) rfl (fun ls hl => ?_)
        have ht8 := mI_thr hM (v1 / 2) (by omega)
        refine lv_iload_n hx hb dX8_clear_65 rfl (lv_at hl 0 rfl) ?_
        refine lv_bipush (v := 8) hx hb dX8_clear_66 (by decide) ?_
        refine lv_icmp_ge (tgt := 94) hx hb dX8_clear_68 (by decide) (fun c_13 => ?_) (fun c_13 => ?_)
        · have hE : (m_clear RA RS v1) = (upd (RA 36) v1 ((RA 36 v1) - (RA 36 v1))) := by rw [m_clear, if_neg c_8, if_neg c_9, if_neg c_10, if_pos c_13]
          exact W.vret hx hb hr (fun t ht hW => ⟨rfl, by rw [hE]; exact kB.of (ws := RWs cI ad (va_up RA 36 (upd (RA 36) v1 ((RA 36 v1) - (RA 36 v1)))) RS RN RL) hP hK hN ht hW, hS.F ht⟩) hS.2.2 dX8_clear_94 hlocks
        · have hnat3 : (RA 8 (v1 / 2)) = (nI ((RA 8 (v1 / 2)).toNatClampNeg)) := kNat ht8
          have hl : lv_has ls 4 [(3, .int (nI ((RA 8 (v1 / 2)).toNatClampNeg))), (2, .int (RA 36 v1)), (0, .ref (ad 0)), (1, .int (nI v1))] := by rw [← hnat3]; exact hl
          have ht9 : ((RA 8 (v1 / 2)).toNatClampNeg) < 8 := kNat_lt (kI_ltN (n := 8) (by assumption) (by omega)) (by omega)
          refine lv_aload_n hx hb dX8_clear_71 rfl (lv_at hl 2 rfl) ?_
          refine m_get (v := .int (RS 38)) hx hb hts hown hK hP 38 (by decide) rfl kX8_194 rfl dX8_clear_72 ?_
          refine lv_iload_n hx hb dX8_clear_75 rfl (lv_at hl 0 rfl) ?_
          refine k_rS (v := .int (m_has (RS 38) (nI ((RA 8 (v1 / 2)).toNatClampNeg)))) (As := [.int (RS 38), .int (nI ((RA 8 (v1 / 2)).toNatClampNeg))]) (rest := []) hx hb hml hown hts hl.1 (B := fun _ => True) (fun _ _ _ _ q => q) (fun _ _ _ => trivial) (c_m_has (RS 38) (nI ((RA 8 (v1 / 2)).toNatClampNeg))) eX8_204 rfl rfl (Nat.le_of_ble_eq_true rfl) ⟨Nat.le_of_ble_eq_true rfl, Nat.le_of_ble_eq_true rfl⟩ ⟨rfl, rfl⟩ ⟨Nat.le_of_ble_eq_true rfl, Nat.le_of_ble_eq_true rfl⟩ dX8_clear_76 ?_
          refine lv_if_eq (tgt := 94) hx hb dX8_clear_79 (by decide) (fun c_14 => ?_) (fun c_14 => ?_)
          · have hE : (m_clear RA RS v1) = (upd (RA 36) v1 ((RA 36 v1) - (RA 36 v1))) := by rw [m_clear, if_neg c_8, if_neg c_9, if_neg c_10, if_neg c_13, if_pos c_14]
            exact W.vret hx hb hr (fun t ht hW => ⟨rfl, by rw [hE]; exact kB.of (ws := RWs cI ad (va_up RA 36 (upd (RA 36) v1 ((RA 36 v1) - (RA 36 v1)))) RS RN RL) hP hK hN ht hW, hS.F ht⟩) hS.2.2 dX8_clear_94 hlocks
          · refine lv_aload_n hx hb dX8_clear_82 rfl (lv_at hl 2 rfl) ?_
            refine m_get (v := .ref (ad 20)) hx hb hts hown hK hP 36 (by decide) rfl kX8_67 rfl dX8_clear_83 ?_
            refine lv_iconst (v := 2) hx hb dX8_clear_86 (by decide) ?_
            refine lv_iload_n hx hb dX8_clear_87 rfl (lv_at hl 0 rfl) ?_
            refine kn_imul hx hb 2 ((RA 8 (v1 / 2)).toNatClampNeg) rfl rfl dX8_clear_88 ?_
            refine lv_dup2_11 hx hb dX8_clear_89 rfl rfl ?_
            refine kn_iald (f := (upd (RA 36) v1 ((RA 36 v1) - (RA 36 v1)))) (v := ((upd (RA 36) v1 ((RA 36 v1) - (RA 36 v1))) (2 * ((RA 8 (v1 / 2)).toNatClampNeg)))) hx hb hK hP 20 rfl (2 * ((RA 8 (v1 / 2)).toNatClampNeg)) rfl (by omega) (by omega) rfl dX8_clear_90 ?_
            refine lv_iload_n hx hb dX8_clear_91 rfl (lv_at hl 1 rfl) ?_
            refine lv_iadd hx hb dX8_clear_92 ?_
            refine kn_iast (f := (upd (RA 36) v1 ((RA 36 v1) - (RA 36 v1)))) (ws' := RWs cI ad (va_up RA 36 (upd (upd (RA 36) v1 ((RA 36 v1) - (RA 36 v1))) (2 * ((RA 8 (v1 / 2)).toNatClampNeg)) (((upd (RA 36) v1 ((RA 36 v1) - (RA 36 v1))) (2 * ((RA 8 (v1 / 2)).toNatClampNeg))) + (RA 36 v1)))) RS RN RL) hx hb hK hP (RWsD hI) hS 20 rfl (2 * ((RA 8 (v1 / 2)).toNatClampNeg)) rfl (by omega) (by omega) rfl dX8_clear_93 (fun H locs hP hS => ?_)
            have hE : (m_clear RA RS v1) = (upd (upd (RA 36) v1 ((RA 36 v1) - (RA 36 v1))) (2 * ((RA 8 (v1 / 2)).toNatClampNeg)) (((upd (RA 36) v1 ((RA 36 v1) - (RA 36 v1))) (2 * ((RA 8 (v1 / 2)).toNatClampNeg))) + (RA 36 v1))) := by rw [m_clear, if_neg c_8, if_neg c_9, if_neg c_10, if_neg c_13, if_neg c_14]
            exact W.vret hx hb hr (fun t ht hW => ⟨rfl, by rw [hE]; exact kB.of (ws := RWs cI ad (va_up RA 36 (upd (upd (RA 36) v1 ((RA 36 v1) - (RA 36 v1))) (2 * ((RA 8 (v1 / 2)).toNatClampNeg)) (((upd (RA 36) v1 ((RA 36 v1) - (RA 36 v1))) (2 * ((RA 8 (v1 / 2)).toNatClampNeg))) + (RA 36 v1)))) RS RN RL) hP hK hN ht hW, hS.F ht⟩) hS.2.2 dX8_clear_94 hlocks

end REF
