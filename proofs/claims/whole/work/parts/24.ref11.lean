section REF
variable {l : Launch} {dC : Nat → ClassId} {dI : Nat → Nat → Nat} {cI : ClassId} {ad : Nat → Nat} {RA : Nat → Nat → Int32} {RS : Nat → Int32} {RN : Nat → Nat} {RL : Int64}
-- X8_goes
def m_goes (RA : Nat → Nat → Int32) (RS : Nat → Int32) (RN : Nat → Nat) (v1 : Int32) (v2 : Int32) (v3 : Int32) : Int32 × (Nat → Int32) × (Nat → Int32) × (Nat → Int32) × Int32 := if (m_isRoof RN v1) = 0 then ((-1), (RA 36), (RA 37), (RA 39), (RS 38)) else (if (m_in v2.toInt64 0 200) = 0 then ((-1), (RA 36), (RA 37), (RA 39), (RS 38)) else (if (m_in v3.toInt64 0 1) = 0 then ((-1), (RA 36), (RA 37), (RA 39), (RS 38)) else (if (m_has (RS 26) (nI v1.toNatClampNeg)) = 0 then ((-2), (RA 36), (RA 37), (RA 39), (RS 38)) else (if v3 = 0 then (((m_below (va_up (va_up (va_up RA 36 ((m_load RA RS).1)) 37 ((m_load RA RS).2.1)) 39 ((m_load RA RS).2.2.1)) v1.toNatClampNeg (m_felt (va_up (va_up (va_up RA 36 ((m_load RA RS).1)) 37 ((m_load RA RS).2.1)) 39 ((m_load RA RS).2.2.1)) (va_up RS 38 ((m_load RA RS).2.2.2)) v1.toNatClampNeg v2 v2)) / ((m_divisor ((m_below (va_up (va_up (va_up RA 36 ((m_load RA RS).1)) 37 ((m_load RA RS).2.1)) 39 ((m_load RA RS).2.2.1)) v1.toNatClampNeg (m_felt (va_up (va_up (va_up RA 36 ((m_load RA RS).1)) 37 ((m_load RA RS).2.1)) 39 ((m_load RA RS).2.2.1)) (va_up RS 38 ((m_load RA RS).2.2.2)) v1.toNatClampNeg v2 v2)).toInt64) ((m_chances (va_up (va_up (va_up RA 36 ((m_load RA RS).1)) 37 ((m_load RA RS).2.1)) 39 ((m_load RA RS).2.2.1)) v1.toNatClampNeg).toInt64)).toInt32)), (m_load RA RS).1, (m_load RA RS).2.1, (m_load RA RS).2.2.1, (m_load RA RS).2.2.2) else (((m_chances (va_up (va_up (va_up RA 36 ((m_load RA RS).1)) 37 ((m_load RA RS).2.1)) 39 ((m_load RA RS).2.2.1)) v1.toNatClampNeg) / ((m_divisor ((m_below (va_up (va_up (va_up RA 36 ((m_load RA RS).1)) 37 ((m_load RA RS).2.1)) 39 ((m_load RA RS).2.2.1)) v1.toNatClampNeg (m_felt (va_up (va_up (va_up RA 36 ((m_load RA RS).1)) 37 ((m_load RA RS).2.1)) 39 ((m_load RA RS).2.2.1)) (va_up RS 38 ((m_load RA RS).2.2.2)) v1.toNatClampNeg v2 v2)).toInt64) ((m_chances (va_up (va_up (va_up RA 36 ((m_load RA RS).1)) 37 ((m_load RA RS).2.1)) 39 ((m_load RA RS).2.2.1)) v1.toNatClampNeg).toInt64)).toInt32)), (m_load RA RS).1, (m_load RA RS).2.1, (m_load RA RS).2.2.1, (m_load RA RS).2.2.2)))))
set_option maxHeartbeats 4000000 in
set_option maxRecDepth 100000 in
theorem c_m_goes (hI : kInj ad 24) (v1 : Int32) (v2 : Int32) (v3 : Int32) (hM : mI RA RS RN) (hC : mC RA RS RN) : Met l yX8_goes (.code yX8_goes cX8_goes 7 (some .int) :: kT) ({ frames := 3, cells := 0, slots := 0, locals := 66 } : Room) (va_Pc [.ref (ad 0), .int v1, .int v2, .int v3] (kB (dC, dI) [(cI, .int)] (RWs cI ad RA RS RN RL))) (kQ (some (.int ((m_goes RA RS RN v1 v2 v3).1))) (kB (dC, dI) [(cI, .int)] (RWs cI ad (va_up (va_up (va_up RA 36 ((m_goes RA RS RN v1 v2 v3).2.1)) 37 ((m_goes RA RS RN v1 v2 v3).2.2.1)) 39 ((m_goes RA RS RN v1 v2 v3).2.2.2.1)) (va_up RS 38 ((m_goes RA RS RN v1 v2 v3).2.2.2.2)) RN RL)) (kAA ad 24)) 0 0 (kAA ad 24) := by
  refine kMet (by decide) (fun p e s m args below meth c ls hx hb hr hml hts hown hlocks hname hargs hB hl => ?_) (Nat.le_of_ble_eq_true rfl)
  obtain ⟨hP, hK, hN⟩ := hB
  have hl : lv_has ls 7 [(0, .ref (ad 0)), (1, .int v1), (2, .int v2), (3, .int v3)] := hl
  have hS : va_S (kAA ad 24) s.heap s.heap [] := va_S.rf
  have h4 : RN 4 ≤ 8 := mI_many hM
  refine lv_aload_n hx hb dX8_goes_0 rfl (lv_at hl 0 rfl) ?_
  refine lv_iload_n hx hb dX8_goes_1 rfl (lv_at hl 1 rfl) ?_
  refine k_rV (v := .int (m_isRoof RN v1)) (As := [.int v1]) (rest := []) hx hb hml hown hts hl.1 hP hK hN (c_m_isRoof hI v1) eX8_221 (ci := 7) (q0 := 0) rfl rfl rfl rfl rfl (Nat.le_of_ble_eq_true rfl) ⟨Nat.le_of_ble_eq_true rfl, Nat.le_of_ble_eq_true rfl⟩ ⟨rfl, rfl⟩ ⟨Nat.le_of_ble_eq_true rfl, Nat.le_of_ble_eq_true rfl⟩ dX8_goes_2 ?_
  refine lv_if_eq (tgt := 30) hx hb dX8_goes_5 (by decide) (fun c_6 => ?_) (fun c_6 => ?_)
  · refine lv_iconst (v := (-1)) hx hb dX8_goes_30 (by decide) ?_
    have hE : (m_goes RA RS RN v1 v2 v3) = ((-1), (RA 36), (RA 37), (RA 39), (RS 38)) := by rw [m_goes, if_pos c_6]
    exact W.iret (v := (-1)) hx hb hr (fun t ht hW => ⟨by rw [hE], by rw [hE]; exact kB.of (ws := RWs cI ad (va_up (va_up (va_up RA 36 (RA 36)) 37 (RA 37)) 39 (RA 39)) (va_up RS 38 (RS 38)) RN RL) (RWs_conv rfl rfl rfl rfl rfl rfl rfl rfl rfl rfl rfl rfl rfl rfl rfl rfl rfl rfl rfl rfl rfl rfl rfl rfl rfl rfl rfl rfl rfl rfl rfl rfl rfl rfl rfl rfl rfl rfl rfl rfl rfl hP) hK hN ht hW, hS.F ht⟩) hS.2.2 dX8_goes_31 hlocks
  · have hr1 := m_isRoof_t h4 c_6
    have hnat1 : v1 = (nI v1.toNatClampNeg) := kNat hr1.1
    have hl : lv_has ls 7 [(0, .ref (ad 0)), (1, .int (nI v1.toNatClampNeg)), (2, .int v2), (3, .int v3)] := by rw [← hnat1]; exact hl
    have hr1b : v1.toNatClampNeg < (RN 4) := kNat_lt hr1.2 (by omega)
    refine lv_iload_n hx hb dX8_goes_8 rfl (lv_at hl 2 rfl) ?_
    refine lv_i2l (v := v2.toInt64) hx hb dX8_goes_9 rfl ?_
    refine lv_lconst (v := 0) hx hb dX8_goes_10 (by decide) ?_
    refine lv_ldc2 (v := 200) hx hb hown (hts _ kX8_228) dX8_goes_11 ?_
    refine k_rS (v := .int (m_in v2.toInt64 0 200)) (As := [.long v2.toInt64, .long 0, .long 200]) (rest := []) hx hb hml hown hts hl.1 (B := fun _ => True) (fun _ _ _ _ q => q) (fun _ _ _ => trivial) (c_m_in v2.toInt64 0 200) eX8_99 rfl rfl (Nat.le_of_ble_eq_true rfl) ⟨Nat.le_of_ble_eq_true rfl, Nat.le_of_ble_eq_true rfl⟩ ⟨rfl, rfl⟩ ⟨Nat.le_of_ble_eq_true rfl, Nat.le_of_ble_eq_true rfl⟩ dX8_goes_14 ?_
    refine lv_if_eq (tgt := 30) hx hb dX8_goes_17 (by decide) (fun c_7 => ?_) (fun c_7 => ?_)
    · refine lv_iconst (v := (-1)) hx hb dX8_goes_30 (by decide) ?_
      have hE : (m_goes RA RS RN v1 v2 v3) = ((-1), (RA 36), (RA 37), (RA 39), (RS 38)) := by rw [m_goes, if_neg c_6, if_pos c_7]
      exact W.iret (v := (-1)) hx hb hr (fun t ht hW => ⟨by rw [hE], by rw [hE]; exact kB.of (ws := RWs cI ad (va_up (va_up (va_up RA 36 (RA 36)) 37 (RA 37)) 39 (RA 39)) (va_up RS 38 (RS 38)) RN RL) (RWs_conv rfl rfl rfl rfl rfl rfl rfl rfl rfl rfl rfl rfl rfl rfl rfl rfl rfl rfl rfl rfl rfl rfl rfl rfl rfl rfl rfl rfl rfl rfl rfl rfl rfl rfl rfl rfl rfl rfl rfl rfl rfl hP) hK hN ht hW, hS.F ht⟩) hS.2.2 dX8_goes_31 hlocks
    · have hq2 := m_in_t c_7
      have hq2b : v2.toNatClampNeg ≤ 200 := kNat_le hq2.2
      refine lv_iload_n hx hb dX8_goes_20 rfl (lv_at hl 3 rfl) ?_
      refine lv_i2l (v := v3.toInt64) hx hb dX8_goes_21 rfl ?_
      refine lv_lconst (v := 0) hx hb dX8_goes_22 (by decide) ?_
      refine lv_lconst (v := 1) hx hb dX8_goes_23 (by decide) ?_
      refine k_rS (v := .int (m_in v3.toInt64 0 1)) (As := [.long v3.toInt64, .long 0, .long 1]) (rest := []) hx hb hml hown hts hl.1 (B := fun _ => True) (fun _ _ _ _ q => q) (fun _ _ _ => trivial) (c_m_in v3.toInt64 0 1) eX8_99 rfl rfl (Nat.le_of_ble_eq_true rfl) ⟨Nat.le_of_ble_eq_true rfl, Nat.le_of_ble_eq_true rfl⟩ ⟨rfl, rfl⟩ ⟨Nat.le_of_ble_eq_true rfl, Nat.le_of_ble_eq_true rfl⟩ dX8_goes_24 ?_
      refine lv_if_ne (tgt := 32) hx hb dX8_goes_27 (by decide) (fun c_8 => ?_) (fun c_8 => ?_)
      · have hq3 := m_in_t c_8
        have hq3b : v3.toNatClampNeg ≤ 1 := kNat_le hq3.2
        refine lv_aload_n hx hb dX8_goes_32 rfl (lv_at hl 0 rfl) ?_
        refine m_get (v := .int (RS 26)) hx hb hts hown hK hP 26 (by decide) rfl kX8_163 rfl dX8_goes_33 ?_
        refine lv_iload_n hx hb dX8_goes_36 rfl (lv_at hl 1 rfl) ?_
        refine k_rS (v := .int (m_has (RS 26) (nI v1.toNatClampNeg))) (As := [.int (RS 26), .int (nI v1.toNatClampNeg)]) (rest := []) hx hb hml hown hts hl.1 (B := fun _ => True) (fun _ _ _ _ q => q) (fun _ _ _ => trivial) (c_m_has (RS 26) (nI v1.toNatClampNeg)) eX8_204 rfl rfl (Nat.le_of_ble_eq_true rfl) ⟨Nat.le_of_ble_eq_true rfl, Nat.le_of_ble_eq_true rfl⟩ ⟨rfl, rfl⟩ ⟨Nat.le_of_ble_eq_true rfl, Nat.le_of_ble_eq_true rfl⟩ dX8_goes_37 ?_
        refine lv_if_ne (tgt := 46) hx hb dX8_goes_40 (by decide) (fun c_9 => ?_) (fun c_9 => ?_)
        · refine lv_aload_n hx hb dX8_goes_46 rfl (lv_at hl 0 rfl) ?_
          refine k_wV (r := none) (As := []) (rest := []) hx hb hml hown hts hl.1 hP hK hN hS (c_m_load hI) eX8_212 (ci := 7) (q0 := 0) rfl rfl rfl rfl rfl (Nat.le_of_ble_eq_true rfl) ⟨Nat.le_of_ble_eq_true rfl, Nat.le_of_ble_eq_true rfl⟩ ⟨rfl, rfl⟩ ⟨Nat.le_of_ble_eq_true rfl, Nat.le_of_ble_eq_true rfl⟩ dX8_goes_47 (fun H locs hP hS => ?_)
          obtain ⟨r_10, hr_10⟩ : ∃ z, z = (m_load RA RS) := ⟨_, rfl⟩
          rw [← hr_10] at hP
          have hP : va_P (dC, dI) vwCl (RWs cI ad (va_up (va_up (va_up RA 36 r_10.1) 37 r_10.2.1) 39 r_10.2.2.1) (va_up RS 38 r_10.2.2.2) RN RL) H := (RWs_conv rfl rfl rfl rfl rfl rfl rfl rfl rfl rfl rfl rfl rfl rfl rfl rfl rfl rfl rfl rfl rfl rfl rfl rfl rfl rfl rfl rfl rfl rfl rfl rfl rfl rfl rfl rfl rfl rfl rfl rfl rfl hP)
          refine lv_aload_n hx hb dX8_goes_50 rfl (lv_at hl 0 rfl) ?_
          refine lv_iload_n hx hb dX8_goes_51 rfl (lv_at hl 1 rfl) ?_
          refine lv_aload_n hx hb dX8_goes_52 rfl (lv_at hl 0 rfl) ?_
          refine lv_iload_n hx hb dX8_goes_53 rfl (lv_at hl 1 rfl) ?_
          refine lv_iload_n hx hb dX8_goes_54 rfl (lv_at hl 2 rfl) ?_
          refine lv_iload_n hx hb dX8_goes_55 rfl (lv_at hl 2 rfl) ?_
          refine k_rV (v := .int (m_felt (va_up (va_up (va_up RA 36 r_10.1) 37 r_10.2.1) 39 r_10.2.2.1) (va_up RS 38 r_10.2.2.2) v1.toNatClampNeg v2 v2)) (As := [.int (nI v1.toNatClampNeg), .int v2, .int v2]) (rest := [.int (nI v1.toNatClampNeg), .ref (ad 0)]) hx hb hml hown hts hl.1 hP hK hN (c_m_felt hI v1.toNatClampNeg v2 v2 hM (by omega)) eX8_215 (ci := 7) (q0 := 0) rfl rfl rfl rfl rfl (Nat.le_of_ble_eq_true rfl) ⟨Nat.le_of_ble_eq_true rfl, Nat.le_of_ble_eq_true rfl⟩ ⟨rfl, rfl⟩ ⟨Nat.le_of_ble_eq_true rfl, Nat.le_of_ble_eq_true rfl⟩ dX8_goes_56 ?_
          refine k_rV (v := .int (m_below (va_up (va_up (va_up RA 36 r_10.1) 37 r_10.2.1) 39 r_10.2.2.1) v1.toNatClampNeg (m_felt (va_up (va_up (va_up RA 36 r_10.1) 37 r_10.2.1) 39 r_10.2.2.1) (va_up RS 38 r_10.2.2.2) v1.toNatClampNeg v2 v2))) (As := [.int (nI v1.toNatClampNeg), .int (m_felt (va_up (va_up (va_up RA 36 r_10.1) 37 r_10.2.1) 39 r_10.2.2.1) (va_up RS 38 r_10.2.2.2) v1.toNatClampNeg v2 v2)]) (rest := []) hx hb hml hown hts hl.1 hP hK hN (c_m_below hI v1.toNatClampNeg (m_felt (va_up (va_up (va_up RA 36 r_10.1) 37 r_10.2.1) 39 r_10.2.2.1) (va_up RS 38 r_10.2.2.2) v1.toNatClampNeg v2 v2) hM (by omega)) eX8_209 (ci := 7) (q0 := 0) rfl rfl rfl rfl rfl (Nat.le_of_ble_eq_true rfl) ⟨Nat.le_of_ble_eq_true rfl, Nat.le_of_ble_eq_true rfl⟩ ⟨rfl, rfl⟩ ⟨Nat.le_of_ble_eq_true rfl, Nat.le_of_ble_eq_true rfl⟩ dX8_goes_59 ?_
          refine lv_istore (lv' := [(4, .int (m_below (va_up (va_up (va_up RA 36 r_10.1) 37 r_10.2.1) 39 r_10.2.2.1) v1.toNatClampNeg (m_felt (va_up (va_up (va_up RA 36 r_10.1) 37 r_10.2.1) 39 r_10.2.2.1) (va_up RS 38 r_10.2.2.2) v1.toNatClampNeg v2 v2))), (0, .ref (ad 0)), (1, .int (nI v1.toNatClampNeg)), (2, .int v2), (3, .int v3)]) hx hb dX8_goes_62 hl (by decide) rfl (fun ls hl => ?_)
          refine lv_aload_n hx hb dX8_goes_64 rfl (lv_at hl 1 rfl) ?_
          refine lv_iload_n hx hb dX8_goes_65 rfl (lv_at hl 2 rfl) ?_
          refine k_rV (v := .int (m_chances (va_up (va_up (va_up RA 36 r_10.1) 37 r_10.2.1) 39 r_10.2.2.1) v1.toNatClampNeg)) (As := [.int (nI v1.toNatClampNeg)]) (rest := []) hx hb hml hown hts hl.1 hP hK hN (c_m_chances hI v1.toNatClampNeg hM (by omega)) eX8_218 (ci := 7) (q0 := 0) rfl rfl rfl rfl rfl (Nat.le_of_ble_eq_true rfl) ⟨Nat.le_of_ble_eq_true rfl, Nat.le_of_ble_eq_true rfl⟩ ⟨rfl, rfl⟩ ⟨Nat.le_of_ble_eq_true rfl, Nat.le_of_ble_eq_true rfl⟩ dX8_goes_66 ?_
          refine lv_istore (lv' := [(5, .int (m_chances (va_up (va_up (va_up RA 36 r_10.1) 37 r_10.2.1) 39 r_10.2.2.1) v1.toNatClampNeg)), (4, .int (m_below (va_up (va_up (va_up RA 36 r_10.1) 37 r_10.2.1) 39 r_10.2.2.1) v1.toNatClampNeg (m_felt (va_up (va_up (va_up RA 36 r_10.1) 37 r_10.2.1) 39 r_10.2.2.1) (va_up RS 38 r_10.2.2.2) v1.toNatClampNeg v2 v2))), (0, .ref (ad 0)), (1, .int (nI v1.toNatClampNeg)), (2, .int v2), (3, .int v3)]) hx hb dX8_goes_69 hl (by decide) rfl (fun ls hl => ?_)
          refine lv_iload hx hb dX8_goes_71 (lv_at hl 1 rfl) ?_
          refine lv_i2l (v := ((m_below (va_up (va_up (va_up RA 36 r_10.1) 37 r_10.2.1) 39 r_10.2.2.1) v1.toNatClampNeg (m_felt (va_up (va_up (va_up RA 36 r_10.1) 37 r_10.2.1) 39 r_10.2.2.1) (va_up RS 38 r_10.2.2.2) v1.toNatClampNeg v2 v2)).toInt64)) hx hb dX8_goes_73 rfl ?_
          refine lv_iload hx hb dX8_goes_74 (lv_at hl 0 rfl) ?_
          refine lv_i2l (v := ((m_chances (va_up (va_up (va_up RA 36 r_10.1) 37 r_10.2.1) 39 r_10.2.2.1) v1.toNatClampNeg).toInt64)) hx hb dX8_goes_76 rfl ?_
          refine k_rS (v := .long (m_divisor ((m_below (va_up (va_up (va_up RA 36 r_10.1) 37 r_10.2.1) 39 r_10.2.2.1) v1.toNatClampNeg (m_felt (va_up (va_up (va_up RA 36 r_10.1) 37 r_10.2.1) 39 r_10.2.2.1) (va_up RS 38 r_10.2.2.2) v1.toNatClampNeg v2 v2)).toInt64) ((m_chances (va_up (va_up (va_up RA 36 r_10.1) 37 r_10.2.1) 39 r_10.2.2.1) v1.toNatClampNeg).toInt64))) (As := [.long ((m_below (va_up (va_up (va_up RA 36 r_10.1) 37 r_10.2.1) 39 r_10.2.2.1) v1.toNatClampNeg (m_felt (va_up (va_up (va_up RA 36 r_10.1) 37 r_10.2.1) 39 r_10.2.2.1) (va_up RS 38 r_10.2.2.2) v1.toNatClampNeg v2 v2)).toInt64), .long ((m_chances (va_up (va_up (va_up RA 36 r_10.1) 37 r_10.2.1) 39 r_10.2.2.1) v1.toNatClampNeg).toInt64)]) (rest := []) hx hb hml hown hts hl.1 (B := fun _ => True) (fun _ _ _ _ q => q) (fun _ _ _ => trivial) (c_m_divisor ((m_below (va_up (va_up (va_up RA 36 r_10.1) 37 r_10.2.1) 39 r_10.2.2.1) v1.toNatClampNeg (m_felt (va_up (va_up (va_up RA 36 r_10.1) 37 r_10.2.1) 39 r_10.2.2.1) (va_up RS 38 r_10.2.2.2) v1.toNatClampNeg v2 v2)).toInt64) ((m_chances (va_up (va_up (va_up RA 36 r_10.1) 37 r_10.2.1) 39 r_10.2.2.1) v1.toNatClampNeg).toInt64) (by rw [ki2l]; refine m_below_nn hM ?_ ?_ (by omega) _ <;> rfl) (by rw [ki2l]; refine m_chances_nn hM ?_ ?_ (by omega) <;> rfl)) eX8_230 rfl rfl (Nat.le_of_ble_eq_true rfl) ⟨Nat.le_of_ble_eq_true rfl, Nat.le_of_ble_eq_true rfl⟩ ⟨rfl, rfl⟩ ⟨Nat.le_of_ble_eq_true rfl, Nat.le_of_ble_eq_true rfl⟩ dX8_goes_77 ?_
          refine lv_l2i (v := ((m_divisor ((m_below (va_up (va_up (va_up RA 36 r_10.1) 37 r_10.2.1) 39 r_10.2.2.1) v1.toNatClampNeg (m_felt (va_up (va_up (va_up RA 36 r_10.1) 37 r_10.2.1) 39 r_10.2.2.1) (va_up RS 38 r_10.2.2.2) v1.toNatClampNeg v2 v2)).toInt64) ((m_chances (va_up (va_up (va_up RA 36 r_10.1) 37 r_10.2.1) 39 r_10.2.2.1) v1.toNatClampNeg).toInt64)).toInt32)) hx hb dX8_goes_80 rfl ?_
          refine lv_istore (lv' := [(6, .int ((m_divisor ((m_below (va_up (va_up (va_up RA 36 r_10.1) 37 r_10.2.1) 39 r_10.2.2.1) v1.toNatClampNeg (m_felt (va_up (va_up (va_up RA 36 r_10.1) 37 r_10.2.1) 39 r_10.2.2.1) (va_up RS 38 r_10.2.2.2) v1.toNatClampNeg v2 v2)).toInt64) ((m_chances (va_up (va_up (va_up RA 36 r_10.1) 37 r_10.2.1) 39 r_10.2.2.1) v1.toNatClampNeg).toInt64)).toInt32)), (5, .int (m_chances (va_up (va_up (va_up RA 36 r_10.1) 37 r_10.2.1) 39 r_10.2.2.1) v1.toNatClampNeg)), (4, .int (m_below (va_up (va_up (va_up RA 36 r_10.1) 37 r_10.2.1) 39 r_10.2.2.1) v1.toNatClampNeg (m_felt (va_up (va_up (va_up RA 36 r_10.1) 37 r_10.2.1) 39 r_10.2.2.1) (va_up RS 38 r_10.2.2.2) v1.toNatClampNeg v2 v2))), (0, .ref (ad 0)), (1, .int (nI v1.toNatClampNeg)), (2, .int v2), (3, .int v3)]) hx hb dX8_goes_81 hl (by decide) rfl (fun ls hl => ?_)
          refine lv_iload_n hx hb dX8_goes_83 rfl (lv_at hl 6 rfl) ?_
          refine lv_if_ne (tgt := 95) hx hb dX8_goes_84 (by decide) (fun c_11 => ?_) (fun c_11 => ?_)
          · refine lv_iload hx hb dX8_goes_95 (lv_at hl 1 rfl) ?_
            refine lv_iload hx hb dX8_goes_97 (lv_at hl 0 rfl) ?_
            refine lv_idiv hx hb dX8_goes_99 (by refine m_goes_ne hM hC ?_ ?_ ?_ ?_ h4 (by omega) (by assumption) _ <;> rfl) ?_
            have hE : (m_goes RA RS RN v1 v2 v3) = (((m_chances (va_up (va_up (va_up RA 36 r_10.1) 37 r_10.2.1) 39 r_10.2.2.1) v1.toNatClampNeg) / ((m_divisor ((m_below (va_up (va_up (va_up RA 36 r_10.1) 37 r_10.2.1) 39 r_10.2.2.1) v1.toNatClampNeg (m_felt (va_up (va_up (va_up RA 36 r_10.1) 37 r_10.2.1) 39 r_10.2.2.1) (va_up RS 38 r_10.2.2.2) v1.toNatClampNeg v2 v2)).toInt64) ((m_chances (va_up (va_up (va_up RA 36 r_10.1) 37 r_10.2.1) 39 r_10.2.2.1) v1.toNatClampNeg).toInt64)).toInt32)), r_10.1, r_10.2.1, r_10.2.2.1, r_10.2.2.2) := by subst hr_10; rw [m_goes, if_neg c_6, if_neg c_7, if_neg c_8, if_neg c_9, if_neg c_11]
            exact W.iret (v := ((m_chances (va_up (va_up (va_up RA 36 r_10.1) 37 r_10.2.1) 39 r_10.2.2.1) v1.toNatClampNeg) / ((m_divisor ((m_below (va_up (va_up (va_up RA 36 r_10.1) 37 r_10.2.1) 39 r_10.2.2.1) v1.toNatClampNeg (m_felt (va_up (va_up (va_up RA 36 r_10.1) 37 r_10.2.1) 39 r_10.2.2.1) (va_up RS 38 r_10.2.2.2) v1.toNatClampNeg v2 v2)).toInt64) ((m_chances (va_up (va_up (va_up RA 36 r_10.1) 37 r_10.2.1) 39 r_10.2.2.1) v1.toNatClampNeg).toInt64)).toInt32))) hx hb hr (fun t ht hW => ⟨by rw [hE], by rw [hE]; exact kB.of (ws := RWs cI ad (va_up (va_up (va_up RA 36 r_10.1) 37 r_10.2.1) 39 r_10.2.2.1) (va_up RS 38 r_10.2.2.2) RN RL) hP hK hN ht hW, hS.F ht⟩) hS.2.2 dX8_goes_100 hlocks
          · refine lv_iload hx hb dX8_goes_87 (lv_at hl 2 rfl) ?_
            refine lv_iload hx hb dX8_goes_89 (lv_at hl 0 rfl) ?_
            refine lv_idiv hx hb dX8_goes_91 (by refine m_goes_ne hM hC ?_ ?_ ?_ ?_ h4 (by omega) (by assumption) _ <;> rfl) ?_
            refine lv_goto (tgt := 100) hx hb dX8_goes_92 (by decide) ?_
            have hE : (m_goes RA RS RN v1 v2 v3) = (((m_below (va_up (va_up (va_up RA 36 r_10.1) 37 r_10.2.1) 39 r_10.2.2.1) v1.toNatClampNeg (m_felt (va_up (va_up (va_up RA 36 r_10.1) 37 r_10.2.1) 39 r_10.2.2.1) (va_up RS 38 r_10.2.2.2) v1.toNatClampNeg v2 v2)) / ((m_divisor ((m_below (va_up (va_up (va_up RA 36 r_10.1) 37 r_10.2.1) 39 r_10.2.2.1) v1.toNatClampNeg (m_felt (va_up (va_up (va_up RA 36 r_10.1) 37 r_10.2.1) 39 r_10.2.2.1) (va_up RS 38 r_10.2.2.2) v1.toNatClampNeg v2 v2)).toInt64) ((m_chances (va_up (va_up (va_up RA 36 r_10.1) 37 r_10.2.1) 39 r_10.2.2.1) v1.toNatClampNeg).toInt64)).toInt32)), r_10.1, r_10.2.1, r_10.2.2.1, r_10.2.2.2) := by subst hr_10; rw [m_goes, if_neg c_6, if_neg c_7, if_neg c_8, if_neg c_9, if_pos c_11]
            exact W.iret (v := ((m_below (va_up (va_up (va_up RA 36 r_10.1) 37 r_10.2.1) 39 r_10.2.2.1) v1.toNatClampNeg (m_felt (va_up (va_up (va_up RA 36 r_10.1) 37 r_10.2.1) 39 r_10.2.2.1) (va_up RS 38 r_10.2.2.2) v1.toNatClampNeg v2 v2)) / ((m_divisor ((m_below (va_up (va_up (va_up RA 36 r_10.1) 37 r_10.2.1) 39 r_10.2.2.1) v1.toNatClampNeg (m_felt (va_up (va_up (va_up RA 36 r_10.1) 37 r_10.2.1) 39 r_10.2.2.1) (va_up RS 38 r_10.2.2.2) v1.toNatClampNeg v2 v2)).toInt64) ((m_chances (va_up (va_up (va_up RA 36 r_10.1) 37 r_10.2.1) 39 r_10.2.2.1) v1.toNatClampNeg).toInt64)).toInt32))) hx hb hr (fun t ht hW => ⟨by rw [hE], by rw [hE]; exact kB.of (ws := RWs cI ad (va_up (va_up (va_up RA 36 r_10.1) 37 r_10.2.1) 39 r_10.2.2.1) (va_up RS 38 r_10.2.2.2) RN RL) hP hK hN ht hW, hS.F ht⟩) hS.2.2 dX8_goes_100 hlocks
        · refine lv_bipush (v := (-2)) hx hb dX8_goes_43 (by decide) ?_
          have hE : (m_goes RA RS RN v1 v2 v3) = ((-2), (RA 36), (RA 37), (RA 39), (RS 38)) := by rw [m_goes, if_neg c_6, if_neg c_7, if_neg c_8, if_pos c_9]
          exact W.iret (v := (-2)) hx hb hr (fun t ht hW => ⟨by rw [hE], by rw [hE]; exact kB.of (ws := RWs cI ad (va_up (va_up (va_up RA 36 (RA 36)) 37 (RA 37)) 39 (RA 39)) (va_up RS 38 (RS 38)) RN RL) (RWs_conv rfl rfl rfl rfl rfl rfl rfl rfl rfl rfl rfl rfl rfl rfl rfl rfl rfl rfl rfl rfl rfl rfl rfl rfl rfl rfl rfl rfl rfl rfl rfl rfl rfl rfl rfl rfl rfl rfl rfl rfl rfl hP) hK hN ht hW, hS.F ht⟩) hS.2.2 dX8_goes_45 hlocks
      · refine lv_iconst (v := (-1)) hx hb dX8_goes_30 (by decide) ?_
        have hE : (m_goes RA RS RN v1 v2 v3) = ((-1), (RA 36), (RA 37), (RA 39), (RS 38)) := by rw [m_goes, if_neg c_6, if_neg c_7, if_pos c_8]
        exact W.iret (v := (-1)) hx hb hr (fun t ht hW => ⟨by rw [hE], by rw [hE]; exact kB.of (ws := RWs cI ad (va_up (va_up (va_up RA 36 (RA 36)) 37 (RA 37)) 39 (RA 39)) (va_up RS 38 (RS 38)) RN RL) (RWs_conv rfl rfl rfl rfl rfl rfl rfl rfl rfl rfl rfl rfl rfl rfl rfl rfl rfl rfl rfl rfl rfl rfl rfl rfl rfl rfl rfl rfl rfl rfl rfl rfl rfl rfl rfl rfl rfl rfl rfl rfl rfl hP) hK hN ht hW, hS.F ht⟩) hS.2.2 dX8_goes_31 hlocks
-- X8_readsItem
def m_readsItem_k51 (RA : Nat → Nat → Int32) (RN : Nat → Nat) (a2 : Nat → Int32) (n35 : Nat) (v3 : Int32) : Int32 × (Nat → Int32) × Nat := if v3 = 0 then (0, a2, n35) else (if ((m_isSign (va_up RA 2 a2) (va_up RN 35 n35) 59).1) = 0 then (0, a2, (m_isSign (va_up RA 2 a2) (va_up RN 35 n35) 59).2) else (1, a2, (m_isSign (va_up RA 2 a2) (va_up RN 35 n35) 59).2))
def m_readsItem_L51 (RA : Nat → Nat → Int32) (RN : Nat → Nat) (v1 : Int32) : Nat → Nat → Int32 → (Nat → Int32) → Nat → Int32 × (Nat → Int32) × Nat
  | 0, i, v3, a2, n35 => (v3, a2, n35)
  | n + 1, i, v3, a2, n35 => if v3 = 0 then (v3, a2, n35) else (if (nI i) = 0 then (if ((m_reads (va_up RA 2 a2) (va_up RN 35 n35) i).1) = 0 then m_readsItem_L51 RA RN v1 n (i + 1) 0 ((m_reads (va_up RA 2 a2) (va_up RN 35 n35) i).2.1) ((m_reads (va_up RA 2 a2) (va_up RN 35 n35) i).2.2) else (if (m_in (((m_reads (va_up RA 2 a2) (va_up RN 35 n35) i).2.1 (((7 * (RN 3)) + 1) + i)).toInt64) ((m_leastOf v1 (nI i)).toInt64) ((m_mostOf v1 (nI i)).toInt64)) = 0 then m_readsItem_L51 RA RN v1 n (i + 1) 0 ((m_reads (va_up RA 2 a2) (va_up RN 35 n35) i).2.1) ((m_reads (va_up RA 2 a2) (va_up RN 35 n35) i).2.2) else m_readsItem_L51 RA RN v1 n (i + 1) 1 ((m_reads (va_up RA 2 a2) (va_up RN 35 n35) i).2.1) ((m_reads (va_up RA 2 a2) (va_up RN 35 n35) i).2.2))) else (if ((m_isSign (va_up RA 2 a2) (va_up RN 35 n35) 44).1) = 0 then m_readsItem_L51 RA RN v1 n (i + 1) 0 a2 ((m_isSign (va_up RA 2 a2) (va_up RN 35 n35) 44).2) else (if ((m_reads (va_up RA 2 a2) (va_up RN 35 ((m_isSign (va_up RA 2 a2) (va_up RN 35 n35) 44).2)) i).1) = 0 then m_readsItem_L51 RA RN v1 n (i + 1) 0 ((m_reads (va_up RA 2 a2) (va_up RN 35 ((m_isSign (va_up RA 2 a2) (va_up RN 35 n35) 44).2)) i).2.1) ((m_reads (va_up RA 2 a2) (va_up RN 35 ((m_isSign (va_up RA 2 a2) (va_up RN 35 n35) 44).2)) i).2.2) else (if (m_in (((m_reads (va_up RA 2 a2) (va_up RN 35 ((m_isSign (va_up RA 2 a2) (va_up RN 35 n35) 44).2)) i).2.1 (((7 * (RN 3)) + 1) + i)).toInt64) ((m_leastOf v1 (nI i)).toInt64) ((m_mostOf v1 (nI i)).toInt64)) = 0 then m_readsItem_L51 RA RN v1 n (i + 1) 0 ((m_reads (va_up RA 2 a2) (va_up RN 35 ((m_isSign (va_up RA 2 a2) (va_up RN 35 n35) 44).2)) i).2.1) ((m_reads (va_up RA 2 a2) (va_up RN 35 ((m_isSign (va_up RA 2 a2) (va_up RN 35 n35) 44).2)) i).2.2) else m_readsItem_L51 RA RN v1 n (i + 1) 1 ((m_reads (va_up RA 2 a2) (va_up RN 35 ((m_isSign (va_up RA 2 a2) (va_up RN 35 n35) 44).2)) i).2.1) ((m_reads (va_up RA 2 a2) (va_up RN 35 ((m_isSign (va_up RA 2 a2) (va_up RN 35 n35) 44).2)) i).2.2)))))
def m_readsItem (RA : Nat → Nat → Int32) (RN : Nat → Nat) : Int32 × (Nat → Int32) × Nat := if (m_numbersOf (RA 0 (RN 35))) ≤ 0 then m_readsItem_k51 RA RN (m_readsItem_L51 RA RN (RA 0 (RN 35)) ((m_numbersOf (RA 0 (RN 35))).toNatClampNeg) 0 0 (upd (RA 2) (7 * (RN 3)) (RA 0 (RN 35))) ((RN 35) + 1)).2.1 (m_readsItem_L51 RA RN (RA 0 (RN 35)) ((m_numbersOf (RA 0 (RN 35))).toNatClampNeg) 0 0 (upd (RA 2) (7 * (RN 3)) (RA 0 (RN 35))) ((RN 35) + 1)).2.2 (m_readsItem_L51 RA RN (RA 0 (RN 35)) ((m_numbersOf (RA 0 (RN 35))).toNatClampNeg) 0 0 (upd (RA 2) (7 * (RN 3)) (RA 0 (RN 35))) ((RN 35) + 1)).1 else m_readsItem_k51 RA RN (m_readsItem_L51 RA RN (RA 0 (RN 35)) ((m_numbersOf (RA 0 (RN 35))).toNatClampNeg) 0 1 (upd (RA 2) (7 * (RN 3)) (RA 0 (RN 35))) ((RN 35) + 1)).2.1 (m_readsItem_L51 RA RN (RA 0 (RN 35)) ((m_numbersOf (RA 0 (RN 35))).toNatClampNeg) 0 1 (upd (RA 2) (7 * (RN 3)) (RA 0 (RN 35))) ((RN 35) + 1)).2.2 (m_readsItem_L51 RA RN (RA 0 (RN 35)) ((m_numbersOf (RA 0 (RN 35))).toNatClampNeg) 0 1 (upd (RA 2) (7 * (RN 3)) (RA 0 (RN 35))) ((RN 35) + 1)).1
set_option maxHeartbeats 4000000 in
set_option maxRecDepth 100000 in
theorem c_m_readsItem (hI : kInj ad 24) (hM : mI RA RS RN) (hat : RN 35 < RN 1) (him : RN 3 ≤ 170) : Met l yX8_readsItem (.code yX8_readsItem cX8_readsItem 5 (some .boolean) :: kT) ({ frames := 1, cells := 0, slots := 0, locals := 25 } : Room) (va_Pc [.ref (ad 0)] (kB (dC, dI) [(cI, .int)] (RWs cI ad RA RS RN RL))) (kQ (some (.int ((m_readsItem RA RN).1))) (kB (dC, dI) [(cI, .int)] (RWs cI ad (va_up RA 2 ((m_readsItem RA RN).2.1)) RS (va_up RN 35 ((m_readsItem RA RN).2.2)) RL)) (kAA ad 24)) 0 0 (kAA ad 24) := by
  refine kMet (by decide) (fun p e s m args below meth c ls hx hb hr hml hts hown hlocks hname hargs hB hl => ?_) (Nat.le_of_ble_eq_true rfl)
  obtain ⟨hP, hK, hN⟩ := hB
  have hl : lv_has ls 5 [(0, .ref (ad 0))] := hl
  have hS : va_S (kAA ad 24) s.heap s.heap [] := va_S.rf
  have hlen := mI_len hM
  refine lv_aload_n hx hb dX8_readsItem_0 rfl (lv_at hl 0 rfl) ?_
  refine m_get (v := .ref (ad 1)) hx hb hts hown hK hP 0 (by decide) rfl kX8_7 rfl dX8_readsItem_1 ?_
  refine lv_aload_n hx hb dX8_readsItem_4 rfl (lv_at hl 0 rfl) ?_
  refine m_get (v := .int (nI (RN 35))) hx hb hts hown hK hP 35 (by decide) rfl kX8_108 rfl dX8_readsItem_5 ?_
  refine kn_iald (f := (RA 0)) (v := (RA 0 (RN 35))) hx hb hK hP 1 rfl (RN 35) rfl (by omega) (by omega) rfl dX8_readsItem_8 ?_
  refine lv_istore_n (lv' := [(1, .int (RA 0 (RN 35))), (0, .ref (ad 0))]) hx hb dX8_readsItem_9 rfl hl (by decide) rfl (fun ls hl => ?_)
  refine lv_iload_n hx hb dX8_readsItem_10 rfl (lv_at hl 0 rfl) ?_
  refine k_rS (v := .int (m_numbersOf (RA 0 (RN 35)))) (As := [.int (RA 0 (RN 35))]) (rest := []) hx hb hml hown hts hl.1 (B := fun _ => True) (fun _ _ _ _ q => q) (fun _ _ _ => trivial) (c_m_numbersOf (RA 0 (RN 35))) eX8_114 rfl rfl (Nat.le_of_ble_eq_true rfl) ⟨Nat.le_of_ble_eq_true rfl, Nat.le_of_ble_eq_true rfl⟩ ⟨rfl, rfl⟩ ⟨Nat.le_of_ble_eq_true rfl, Nat.le_of_ble_eq_true rfl⟩ dX8_readsItem_11 ?_
  refine lv_istore_n (lv' := [(2, .int (m_numbersOf (RA 0 (RN 35)))), (1, .int (RA 0 (RN 35))), (0, .ref (ad 0))]) hx hb dX8_readsItem_14 rfl hl (by decide) rfl (fun ls hl => ?_)
  refine lv_aload_n hx hb dX8_readsItem_15 rfl (lv_at hl 2 rfl) ?_
  refine lv_dup hx hb dX8_readsItem_16 rfl ?_
  refine m_get (v := .int (nI (RN 35))) hx hb hts hown hK hP 35 (by decide) rfl kX8_108 rfl dX8_readsItem_17 ?_
  refine lv_iconst (v := 1) hx hb dX8_readsItem_20 (by decide) ?_
  refine kn_iadd hx hb (RN 35) 1 rfl rfl dX8_readsItem_21 ?_
  refine m_put (RS' := RS) (RN' := (va_up RN 35 ((RN 35) + 1))) (RL' := RL) (ty := .int) hx hb hts hown hI hK hP hS 35 (by decide) rfl kX8_108 rfl (by decide +kernel) rfl rfl rfl dX8_readsItem_22 (fun H locs hP hS => ?_)
  refine lv_aload_n hx hb dX8_readsItem_25 rfl (lv_at hl 2 rfl) ?_
  refine m_get (v := .ref (ad 2)) hx hb hts hown hK hP 2 (by decide) rfl kX8_13 rfl dX8_readsItem_26 ?_
  refine lv_bipush (v := 7) hx hb dX8_readsItem_29 (by decide) ?_
  refine lv_aload_n hx hb dX8_readsItem_31 rfl (lv_at hl 2 rfl) ?_
  refine m_get (v := .int (nI (RN 3))) hx hb hts hown hK hP 3 (by decide) rfl kX8_111 rfl dX8_readsItem_32 ?_
  refine kn_imul hx hb 7 (RN 3) rfl rfl dX8_readsItem_35 ?_
  refine lv_iload_n hx hb dX8_readsItem_36 rfl (lv_at hl 1 rfl) ?_
  refine kn_iast (f := (RA 2)) (ws' := RWs cI ad (va_up RA 2 (upd (RA 2) (7 * (RN 3)) (RA 0 (RN 35)))) RS (va_up RN 35 ((RN 35) + 1)) RL) hx hb hK hP (RWsD hI) hS 2 rfl (7 * (RN 3)) rfl (by omega) (by omega) rfl dX8_readsItem_37 (fun H locs hP hS => ?_)
  refine lv_iload_n hx hb dX8_readsItem_38 rfl (lv_at hl 0 rfl) ?_
  refine lv_if_le (tgt := 46) hx hb dX8_readsItem_39 (by decide) (fun c_12 => ?_) (fun c_12 => ?_)
  · refine lv_iconst (v := 0) hx hb dX8_readsItem_46 (by decide) ?_
    refine lv_istore_n (lv' := [(3, .int 0), (2, .int (m_numbersOf (RA 0 (RN 35)))), (1, .int (RA 0 (RN 35))), (0, .ref (ad 0))]) hx hb dX8_readsItem_47 rfl hl (by decide) rfl (fun ls hl => ?_)
    refine lv_iconst (v := 0) hx hb dX8_readsItem_48 (by decide) ?_
    refine lv_istore (lv' := [(4, .int 0), (3, .int 0), (2, .int (m_numbersOf (RA 0 (RN 35)))), (1, .int (RA 0 (RN 35))), (0, .ref (ad 0))]) hx hb dX8_readsItem_49 hl (by decide) rfl (fun ls hl => ?_)
    have rest_51 : ∀ (x3_51 : Int32) (a2_51 : Nat → Int32) (n35_51 : Nat), ∀ (H : Heap) (locs : List Loc) (ls : Array Slot), va_P (dC, dI) vwCl (RWs cI ad (va_up RA 2 a2_51) RS (va_up RN 35 n35_51) RL) H → va_S (kAA ad 24) s.heap H locs → lv_has ls 5 [(0, .ref (ad 0)), (3, .int x3_51)] → (n35_51 ≤ RN 1) → (m_readsItem RA RN) = m_readsItem_k51 RA RN a2_51 n35_51 x3_51 → W p l e ({ frames := 1, cells := 0, slots := 0, locals := 25 } : Room) s m args below meth c H locs 0 0 (MQ below (kQ (some (.int ((m_readsItem RA RN).1))) (kB (dC, dI) [(cI, .int)] (RWs cI ad (va_up RA 2 ((m_readsItem RA RN).2.1)) RS (va_up RN 35 ((m_readsItem RA RN).2.2)) RL)) (kAA ad 24)) args s 0 0 (kAA ad 24)) (F0 m 134 ls []) := by
      intro x3_51 a2_51 n35_51 H locs ls hP hS hl hx_51a hF_51
      refine lv_iload_n hx hb dX8_readsItem_134 rfl (lv_at hl 1 rfl) ?_
      refine lv_if_eq (tgt := 151) hx hb dX8_readsItem_135 (by decide) (fun c_13 => ?_) (fun c_13 => ?_)
      · refine lv_iconst (v := 0) hx hb dX8_readsItem_151 (by decide) ?_
        have hE : (m_readsItem RA RN) = (0, a2_51, n35_51) := hF_51.trans (by rw [m_readsItem_k51, if_pos c_13])
        exact W.zret (v := 0) hx hb hr rfl (fun t ht hW => ⟨by rw [hE], by rw [hE]; exact kB.of (ws := RWs cI ad (va_up RA 2 a2_51) RS (va_up RN 35 n35_51) RL) hP hK hN ht hW, hS.F ht⟩) hS.2.2 dX8_readsItem_152 hlocks
      · refine lv_aload_n hx hb dX8_readsItem_138 rfl (lv_at hl 0 rfl) ?_
        refine lv_bipush (v := 59) hx hb dX8_readsItem_139 (by decide) ?_
        refine k_wV (r := (some (.int ((m_isSign (va_up RA 2 a2_51) (va_up RN 35 n35_51) 59).1)))) (As := [.int 59]) (rest := []) hx hb hml hown hts hl.1 hP hK hN hS (c_m_isSign hI 59 hM (show n35_51 ≤ (RN 1) by omega)) eX8_118 (ci := 7) (q0 := 0) rfl rfl rfl rfl rfl (Nat.le_of_ble_eq_true rfl) ⟨Nat.le_of_ble_eq_true rfl, Nat.le_of_ble_eq_true rfl⟩ ⟨rfl, rfl⟩ ⟨Nat.le_of_ble_eq_true rfl, Nat.le_of_ble_eq_true rfl⟩ dX8_readsItem_141 (fun H locs hP hS => ?_)
        obtain ⟨r_14, hr_14⟩ : ∃ z, z = (m_isSign (va_up RA 2 a2_51) (va_up RN 35 n35_51) 59) := ⟨_, rfl⟩
        rw [← hr_14] at hP
        rw [← hr_14]
        have hp14_0 : r_14.2 ≤ (RN 1) := by rw [hr_14]; exact m_isSign_le hlen (show n35_51 ≤ (RN 1) by omega)
        have hP : va_P (dC, dI) vwCl (RWs cI ad (va_up RA 2 a2_51) RS (va_up RN 35 r_14.2) RL) H := (RWs_conv rfl rfl rfl rfl rfl rfl rfl rfl rfl rfl rfl rfl rfl rfl rfl rfl rfl rfl rfl rfl rfl rfl rfl rfl rfl rfl rfl rfl rfl rfl rfl rfl rfl rfl rfl rfl rfl rfl rfl rfl rfl hP)
        refine lv_if_eq (tgt := 151) hx hb dX8_readsItem_144 (by decide) (fun c_15 => ?_) (fun c_15 => ?_)
        · refine lv_iconst (v := 0) hx hb dX8_readsItem_151 (by decide) ?_
          have hE : (m_readsItem RA RN) = (0, a2_51, r_14.2) := by subst hr_14; exact hF_51.trans (by rw [m_readsItem_k51, if_neg c_13, if_pos c_15])
          exact W.zret (v := 0) hx hb hr rfl (fun t ht hW => ⟨by rw [hE], by rw [hE]; exact kB.of (ws := RWs cI ad (va_up RA 2 a2_51) RS (va_up RN 35 r_14.2) RL) hP hK hN ht hW, hS.F ht⟩) hS.2.2 dX8_readsItem_152 hlocks
        · refine lv_iconst (v := 1) hx hb dX8_readsItem_147 (by decide) ?_
          refine lv_goto (tgt := 152) hx hb dX8_readsItem_148 (by decide) ?_
          have hE : (m_readsItem RA RN) = (1, a2_51, r_14.2) := by subst hr_14; exact hF_51.trans (by rw [m_readsItem_k51, if_neg c_13, if_neg c_15])
          exact W.zret (v := 1) hx hb hr rfl (fun t ht hW => ⟨by rw [hE], by rw [hE]; exact kB.of (ws := RWs cI ad (va_up RA 2 a2_51) RS (va_up RN 35 r_14.2) RL) hP hK hN ht hW, hS.F ht⟩) hS.2.2 dX8_readsItem_152 hlocks
    have hN_51 : ((m_numbersOf (RA 0 (RN 35))).toNatClampNeg) < 2 ^ 31 := kcl_lt _
    have loop_51 : ∀ (n_51 i_51 : Nat) (x3_51 : Int32) (a2_51 : Nat → Int32) (n35_51 : Nat), i_51 + n_51 = (m_numbersOf (RA 0 (RN 35))).toNatClampNeg → ∀ (H : Heap) (locs : List Loc) (ls : Array Slot), va_P (dC, dI) vwCl (RWs cI ad (va_up RA 2 a2_51) RS (va_up RN 35 n35_51) RL) H → va_S (kAA ad 24) s.heap H locs → lv_has ls 5 [(0, .ref (ad 0)), (1, .int (RA 0 (RN 35))), (2, .int (m_numbersOf (RA 0 (RN 35)))), (3, .int x3_51), (4, .int (nI i_51))] → (n35_51 ≤ RN 1) → (∀ (H : Heap) (locs : List Loc) (ls : Array Slot), va_P (dC, dI) vwCl (RWs cI ad (va_up RA 2 ((m_readsItem_L51 RA RN (RA 0 (RN 35)) n_51 i_51 x3_51 a2_51 n35_51).2.1)) RS (va_up RN 35 ((m_readsItem_L51 RA RN (RA 0 (RN 35)) n_51 i_51 x3_51 a2_51 n35_51).2.2)) RL) H → va_S (kAA ad 24) s.heap H locs → lv_has ls 5 [(0, .ref (ad 0)), (3, .int ((m_readsItem_L51 RA RN (RA 0 (RN 35)) n_51 i_51 x3_51 a2_51 n35_51).1))] → ((m_readsItem_L51 RA RN (RA 0 (RN 35)) n_51 i_51 x3_51 a2_51 n35_51).2.2 ≤ RN 1) → W p l e ({ frames := 1, cells := 0, slots := 0, locals := 25 } : Room) s m args below meth c H locs 0 0 (MQ below (kQ (some (.int ((m_readsItem RA RN).1))) (kB (dC, dI) [(cI, .int)] (RWs cI ad (va_up RA 2 ((m_readsItem RA RN).2.1)) RS (va_up RN 35 ((m_readsItem RA RN).2.2)) RL)) (kAA ad 24)) args s 0 0 (kAA ad 24)) (F0 m 134 ls [])) → W p l e ({ frames := 1, cells := 0, slots := 0, locals := 25 } : Room) s m args below meth c H locs 0 0 (MQ below (kQ (some (.int ((m_readsItem RA RN).1))) (kB (dC, dI) [(cI, .int)] (RWs cI ad (va_up RA 2 ((m_readsItem RA RN).2.1)) RS (va_up RN 35 ((m_readsItem RA RN).2.2)) RL)) (kAA ad 24)) args s 0 0 (kAA ad 24)) (F0 m 51 ls []) := by
      intro n_51
      induction n_51 with
      | zero =>
        intro i_51 x3_51 a2_51 n35_51 hin_51 H locs ls hP hS hl hinv_51a hk_51
        refine lv_iload hx hb dX8_readsItem_51 (lv_at hl 4 rfl) ?_
        refine lv_iload_n hx hb dX8_readsItem_53 rfl (lv_at hl 2 rfl) ?_
        refine lv_icmp_ge (tgt := 134) hx hb dX8_readsItem_54 (by decide) (fun _ => ?_) (fun c_16 => absurd (kct_ge (N := (m_numbersOf (RA 0 (RN 35))).toNatClampNeg) rfl (by omega) (by omega)) c_16)
        have hL_51 : (m_readsItem_L51 RA RN (RA 0 (RN 35)) 0 i_51 x3_51 a2_51 n35_51) = (x3_51, a2_51, n35_51) := by rw [m_readsItem_L51.eq_1]
        try rw [hL_51] at hk_51
        exact hk_51 _ _ _ hP hS (lv_sub hl [0, 3] rfl) (hinv_51a)
      | succ n_51 ih_51 =>
        intro i_51 x3_51 a2_51 n35_51 hin_51 H locs ls hP hS hl hinv_51a hk_51
        have h6 := m_numbersOf_le (RA 0 (RN 35))
        refine lv_iload hx hb dX8_readsItem_51 (lv_at hl 4 rfl) ?_
        refine lv_iload_n hx hb dX8_readsItem_53 rfl (lv_at hl 2 rfl) ?_
        refine lv_icmp_ge (tgt := 134) hx hb dX8_readsItem_54 (by decide) (fun c_17 => absurd c_17 (kct_lt (N := (m_numbersOf (RA 0 (RN 35))).toNatClampNeg) rfl (by omega))) (fun _ => ?_)
        refine lv_iload_n hx hb dX8_readsItem_57 rfl (lv_at hl 3 rfl) ?_
        refine lv_if_eq (tgt := 134) hx hb dX8_readsItem_58 (by decide) (fun c_18 => ?_) (fun c_18 => ?_)
        · have hL_51 : (m_readsItem_L51 RA RN (RA 0 (RN 35)) (n_51 + 1) i_51 x3_51 a2_51 n35_51) = (x3_51, a2_51, n35_51) := by rw [m_readsItem_L51.eq_2, if_pos c_18]
          try rw [hL_51] at hk_51
          exact hk_51 _ _ _ hP hS (lv_sub hl [0, 3] rfl) (hinv_51a)
        · refine lv_iload hx hb dX8_readsItem_61 (lv_at hl 4 rfl) ?_
          refine lv_if_eq (tgt := 75) hx hb dX8_readsItem_63 (by decide) (fun c_19 => ?_) (fun c_19 => ?_)
          · refine lv_aload_n hx hb dX8_readsItem_75 rfl (lv_at hl 0 rfl) ?_
            refine lv_iload hx hb dX8_readsItem_76 (lv_at hl 4 rfl) ?_
            refine k_wV (r := (some (.int ((m_reads (va_up RA 2 a2_51) (va_up RN 35 n35_51) i_51).1)))) (As := [.int (nI i_51)]) (rest := []) hx hb hml hown hts hl.1 hP hK hN hS (c_m_reads hI i_51 hM (show n35_51 ≤ (RN 1) by omega) (show (RN 3) ≤ 170 by omega) (by omega)) eX8_122 (ci := 7) (q0 := 0) rfl rfl rfl rfl rfl (Nat.le_of_ble_eq_true rfl) ⟨Nat.le_of_ble_eq_true rfl, Nat.le_of_ble_eq_true rfl⟩ ⟨rfl, rfl⟩ ⟨Nat.le_of_ble_eq_true rfl, Nat.le_of_ble_eq_true rfl⟩ dX8_readsItem_78 (fun H locs hP hS => ?_)
            obtain ⟨r_20, hr_20⟩ : ∃ z, z = (m_reads (va_up RA 2 a2_51) (va_up RN 35 n35_51) i_51) := ⟨_, rfl⟩
            rw [← hr_20] at hP
            rw [← hr_20]
            have hp20_0 : r_20.2.2 ≤ (RN 1) := by rw [hr_20]; exact m_reads_le hlen (show n35_51 ≤ (RN 1) by omega)
            have hP : va_P (dC, dI) vwCl (RWs cI ad (va_up RA 2 r_20.2.1) RS (va_up RN 35 r_20.2.2) RL) H := (RWs_conv rfl rfl rfl rfl rfl rfl rfl rfl rfl rfl rfl rfl rfl rfl rfl rfl rfl rfl rfl rfl rfl rfl rfl rfl rfl rfl rfl rfl rfl rfl rfl rfl rfl rfl rfl rfl rfl rfl rfl rfl rfl hP)
            refine lv_if_eq (tgt := 126) hx hb dX8_readsItem_81 (by decide) (fun c_21 => ?_) (fun c_21 => ?_)
            · refine lv_iconst (v := 0) hx hb dX8_readsItem_126 (by decide) ?_
              refine lv_istore_n (lv' := [(3, .int 0), (0, .ref (ad 0)), (1, .int (RA 0 (RN 35))), (2, .int (m_numbersOf (RA 0 (RN 35)))), (4, .int (nI i_51))]) hx hb dX8_readsItem_127 rfl hl (by decide) rfl (fun ls hl => ?_)
              refine lv_iinc (v := (nI (i_51 + 1))) (lv' := [(4, .int (nI (i_51 + 1))), (3, .int 0), (0, .ref (ad 0)), (1, .int (RA 0 (RN 35))), (2, .int (m_numbersOf (RA 0 (RN 35))))]) hx hb dX8_readsItem_128 hl (k := 4) rfl (nI_add _ _) (by decide) rfl (fun ls hl => ?_)
              refine lv_goto (tgt := 51) hx hb dX8_readsItem_131 (by decide) ?_
              have hL_51 : (m_readsItem_L51 RA RN (RA 0 (RN 35)) (n_51 + 1) i_51 x3_51 a2_51 n35_51) = (m_readsItem_L51 RA RN (RA 0 (RN 35)) n_51 (i_51 + 1) 0 r_20.2.1 r_20.2.2) := by subst hr_20; rw [m_readsItem_L51.eq_2, if_neg c_18, if_pos c_19, if_pos c_21]
              try rw [hL_51] at hk_51
              exact ih_51 (i_51 + 1) 0 r_20.2.1 r_20.2.2 (by omega) _ _ _ hP hS (lv_sub hl [2, 3, 4, 1, 0] rfl) (by omega) hk_51
            · refine lv_aload_n hx hb dX8_readsItem_84 rfl (lv_at hl 0 rfl) ?_
              refine m_get (v := .ref (ad 2)) hx hb hts hown hK hP 2 (by decide) rfl kX8_13 rfl dX8_readsItem_85 ?_
              refine lv_bipush (v := 7) hx hb dX8_readsItem_88 (by decide) ?_
              refine lv_aload_n hx hb dX8_readsItem_90 rfl (lv_at hl 0 rfl) ?_
              refine m_get (v := .int (nI (RN 3))) hx hb hts hown hK hP 3 (by decide) rfl kX8_111 rfl dX8_readsItem_91 ?_
              refine kn_imul hx hb 7 (RN 3) rfl rfl dX8_readsItem_94 ?_
              refine lv_iconst (v := 1) hx hb dX8_readsItem_95 (by decide) ?_
              refine kn_iadd hx hb (7 * (RN 3)) 1 rfl rfl dX8_readsItem_96 ?_
              refine lv_iload hx hb dX8_readsItem_97 (lv_at hl 4 rfl) ?_
              refine kn_iadd hx hb ((7 * (RN 3)) + 1) i_51 rfl rfl dX8_readsItem_99 ?_
              refine kn_iald (f := r_20.2.1) (v := (r_20.2.1 (((7 * (RN 3)) + 1) + i_51))) hx hb hK hP 2 rfl (((7 * (RN 3)) + 1) + i_51) rfl (by omega) (by omega) rfl dX8_readsItem_100 ?_
              refine lv_i2l (v := ((r_20.2.1 (((7 * (RN 3)) + 1) + i_51)).toInt64)) hx hb dX8_readsItem_101 rfl ?_
              refine lv_iload_n hx hb dX8_readsItem_102 rfl (lv_at hl 1 rfl) ?_
              refine lv_iload hx hb dX8_readsItem_103 (lv_at hl 4 rfl) ?_
              refine k_rS (v := .int (m_leastOf (RA 0 (RN 35)) (nI i_51))) (As := [.int (RA 0 (RN 35)), .int (nI i_51)]) (rest := [.long ((r_20.2.1 (((7 * (RN 3)) + 1) + i_51)).toInt64)]) hx hb hml hown hts hl.1 (B := fun _ => True) (fun _ _ _ _ q => q) (fun _ _ _ => trivial) (c_m_leastOf (RA 0 (RN 35)) (nI i_51)) eX8_125 rfl rfl (Nat.le_of_ble_eq_true rfl) ⟨Nat.le_of_ble_eq_true rfl, Nat.le_of_ble_eq_true rfl⟩ ⟨rfl, rfl⟩ ⟨Nat.le_of_ble_eq_true rfl, Nat.le_of_ble_eq_true rfl⟩ dX8_readsItem_105 ?_
              refine lv_i2l (v := ((m_leastOf (RA 0 (RN 35)) (nI i_51)).toInt64)) hx hb dX8_readsItem_108 rfl ?_
              refine lv_iload_n hx hb dX8_readsItem_109 rfl (lv_at hl 1 rfl) ?_
              refine lv_iload hx hb dX8_readsItem_110 (lv_at hl 4 rfl) ?_
              refine k_rS (v := .int (m_mostOf (RA 0 (RN 35)) (nI i_51))) (As := [.int (RA 0 (RN 35)), .int (nI i_51)]) (rest := [.long ((m_leastOf (RA 0 (RN 35)) (nI i_51)).toInt64), .long ((r_20.2.1 (((7 * (RN 3)) + 1) + i_51)).toInt64)]) hx hb hml hown hts hl.1 (B := fun _ => True) (fun _ _ _ _ q => q) (fun _ _ _ => trivial) (c_m_mostOf (RA 0 (RN 35)) (nI i_51)) eX8_129 rfl rfl (Nat.le_of_ble_eq_true rfl) ⟨Nat.le_of_ble_eq_true rfl, Nat.le_of_ble_eq_true rfl⟩ ⟨rfl, rfl⟩ ⟨Nat.le_of_ble_eq_true rfl, Nat.le_of_ble_eq_true rfl⟩ dX8_readsItem_112 ?_
              refine lv_i2l (v := ((m_mostOf (RA 0 (RN 35)) (nI i_51)).toInt64)) hx hb dX8_readsItem_115 rfl ?_
              refine k_rS (v := .int (m_in ((r_20.2.1 (((7 * (RN 3)) + 1) + i_51)).toInt64) ((m_leastOf (RA 0 (RN 35)) (nI i_51)).toInt64) ((m_mostOf (RA 0 (RN 35)) (nI i_51)).toInt64))) (As := [.long ((r_20.2.1 (((7 * (RN 3)) + 1) + i_51)).toInt64), .long ((m_leastOf (RA 0 (RN 35)) (nI i_51)).toInt64), .long ((m_mostOf (RA 0 (RN 35)) (nI i_51)).toInt64)]) (rest := []) hx hb hml hown hts hl.1 (B := fun _ => True) (fun _ _ _ _ q => q) (fun _ _ _ => trivial) (c_m_in ((r_20.2.1 (((7 * (RN 3)) + 1) + i_51)).toInt64) ((m_leastOf (RA 0 (RN 35)) (nI i_51)).toInt64) ((m_mostOf (RA 0 (RN 35)) (nI i_51)).toInt64)) eX8_99 rfl rfl (Nat.le_of_ble_eq_true rfl) ⟨Nat.le_of_ble_eq_true rfl, Nat.le_of_ble_eq_true rfl⟩ ⟨rfl, rfl⟩ ⟨Nat.le_of_ble_eq_true rfl, Nat.le_of_ble_eq_true rfl⟩ dX8_readsItem_116 ?_
              refine lv_if_eq (tgt := 126) hx hb dX8_readsItem_119 (by decide) (fun c_22 => ?_) (fun c_22 => ?_)
              · refine lv_iconst (v := 0) hx hb dX8_readsItem_126 (by decide) ?_
                refine lv_istore_n (lv' := [(3, .int 0), (0, .ref (ad 0)), (1, .int (RA 0 (RN 35))), (2, .int (m_numbersOf (RA 0 (RN 35)))), (4, .int (nI i_51))]) hx hb dX8_readsItem_127 rfl hl (by decide) rfl (fun ls hl => ?_)
                refine lv_iinc (v := (nI (i_51 + 1))) (lv' := [(4, .int (nI (i_51 + 1))), (3, .int 0), (0, .ref (ad 0)), (1, .int (RA 0 (RN 35))), (2, .int (m_numbersOf (RA 0 (RN 35))))]) hx hb dX8_readsItem_128 hl (k := 4) rfl (nI_add _ _) (by decide) rfl (fun ls hl => ?_)
                refine lv_goto (tgt := 51) hx hb dX8_readsItem_131 (by decide) ?_
                have hL_51 : (m_readsItem_L51 RA RN (RA 0 (RN 35)) (n_51 + 1) i_51 x3_51 a2_51 n35_51) = (m_readsItem_L51 RA RN (RA 0 (RN 35)) n_51 (i_51 + 1) 0 r_20.2.1 r_20.2.2) := by subst hr_20; rw [m_readsItem_L51.eq_2, if_neg c_18, if_pos c_19, if_neg c_21, if_pos c_22]
                try rw [hL_51] at hk_51
                exact ih_51 (i_51 + 1) 0 r_20.2.1 r_20.2.2 (by omega) _ _ _ hP hS (lv_sub hl [2, 3, 4, 1, 0] rfl) (by omega) hk_51
              · refine lv_iconst (v := 1) hx hb dX8_readsItem_122 (by decide) ?_
                refine lv_goto (tgt := 127) hx hb dX8_readsItem_123 (by decide) ?_
                refine lv_istore_n (lv' := [(3, .int 1), (0, .ref (ad 0)), (1, .int (RA 0 (RN 35))), (2, .int (m_numbersOf (RA 0 (RN 35)))), (4, .int (nI i_51))]) hx hb dX8_readsItem_127 rfl hl (by decide) rfl (fun ls hl => ?_)
                refine lv_iinc (v := (nI (i_51 + 1))) (lv' := [(4, .int (nI (i_51 + 1))), (3, .int 1), (0, .ref (ad 0)), (1, .int (RA 0 (RN 35))), (2, .int (m_numbersOf (RA 0 (RN 35))))]) hx hb dX8_readsItem_128 hl (k := 4) rfl (nI_add _ _) (by decide) rfl (fun ls hl => ?_)
                refine lv_goto (tgt := 51) hx hb dX8_readsItem_131 (by decide) ?_
                have hL_51 : (m_readsItem_L51 RA RN (RA 0 (RN 35)) (n_51 + 1) i_51 x3_51 a2_51 n35_51) = (m_readsItem_L51 RA RN (RA 0 (RN 35)) n_51 (i_51 + 1) 1 r_20.2.1 r_20.2.2) := by subst hr_20; rw [m_readsItem_L51.eq_2, if_neg c_18, if_pos c_19, if_neg c_21, if_neg c_22]
                try rw [hL_51] at hk_51
                exact ih_51 (i_51 + 1) 1 r_20.2.1 r_20.2.2 (by omega) _ _ _ hP hS (lv_sub hl [2, 3, 4, 1, 0] rfl) (by omega) hk_51
          · refine lv_aload_n hx hb dX8_readsItem_66 rfl (lv_at hl 0 rfl) ?_
            refine lv_bipush (v := 44) hx hb dX8_readsItem_67 (by decide) ?_
            refine k_wV (r := (some (.int ((m_isSign (va_up RA 2 a2_51) (va_up RN 35 n35_51) 44).1)))) (As := [.int 44]) (rest := []) hx hb hml hown hts hl.1 hP hK hN hS (c_m_isSign hI 44 hM (show n35_51 ≤ (RN 1) by omega)) eX8_118 (ci := 7) (q0 := 0) rfl rfl rfl rfl rfl (Nat.le_of_ble_eq_true rfl) ⟨Nat.le_of_ble_eq_true rfl, Nat.le_of_ble_eq_true rfl⟩ ⟨rfl, rfl⟩ ⟨Nat.le_of_ble_eq_true rfl, Nat.le_of_ble_eq_true rfl⟩ dX8_readsItem_69 (fun H locs hP hS => ?_)
            obtain ⟨r_23, hr_23⟩ : ∃ z, z = (m_isSign (va_up RA 2 a2_51) (va_up RN 35 n35_51) 44) := ⟨_, rfl⟩
            rw [← hr_23] at hP
            rw [← hr_23]
            have hp23_0 : r_23.2 ≤ (RN 1) := by rw [hr_23]; exact m_isSign_le hlen (show n35_51 ≤ (RN 1) by omega)
            have hP : va_P (dC, dI) vwCl (RWs cI ad (va_up RA 2 a2_51) RS (va_up RN 35 r_23.2) RL) H := (RWs_conv rfl rfl rfl rfl rfl rfl rfl rfl rfl rfl rfl rfl rfl rfl rfl rfl rfl rfl rfl rfl rfl rfl rfl rfl rfl rfl rfl rfl rfl rfl rfl rfl rfl rfl rfl rfl rfl rfl rfl rfl rfl hP)
            refine lv_if_eq (tgt := 126) hx hb dX8_readsItem_72 (by decide) (fun c_24 => ?_) (fun c_24 => ?_)
            · refine lv_iconst (v := 0) hx hb dX8_readsItem_126 (by decide) ?_
              refine lv_istore_n (lv' := [(3, .int 0), (0, .ref (ad 0)), (1, .int (RA 0 (RN 35))), (2, .int (m_numbersOf (RA 0 (RN 35)))), (4, .int (nI i_51))]) hx hb dX8_readsItem_127 rfl hl (by decide) rfl (fun ls hl => ?_)
              refine lv_iinc (v := (nI (i_51 + 1))) (lv' := [(4, .int (nI (i_51 + 1))), (3, .int 0), (0, .ref (ad 0)), (1, .int (RA 0 (RN 35))), (2, .int (m_numbersOf (RA 0 (RN 35))))]) hx hb dX8_readsItem_128 hl (k := 4) rfl (nI_add _ _) (by decide) rfl (fun ls hl => ?_)
              refine lv_goto (tgt := 51) hx hb dX8_readsItem_131 (by decide) ?_
              have hL_51 : (m_readsItem_L51 RA RN (RA 0 (RN 35)) (n_51 + 1) i_51 x3_51 a2_51 n35_51) = (m_readsItem_L51 RA RN (RA 0 (RN 35)) n_51 (i_51 + 1) 0 a2_51 r_23.2) := by subst hr_23; rw [m_readsItem_L51.eq_2, if_neg c_18, if_neg c_19, if_pos c_24]
              try rw [hL_51] at hk_51
              exact ih_51 (i_51 + 1) 0 a2_51 r_23.2 (by omega) _ _ _ hP hS (lv_sub hl [2, 3, 4, 1, 0] rfl) (by omega) hk_51
            · refine lv_aload_n hx hb dX8_readsItem_75 rfl (lv_at hl 0 rfl) ?_
              refine lv_iload hx hb dX8_readsItem_76 (lv_at hl 4 rfl) ?_
              refine k_wV (r := (some (.int ((m_reads (va_up RA 2 a2_51) (va_up RN 35 r_23.2) i_51).1)))) (As := [.int (nI i_51)]) (rest := []) hx hb hml hown hts hl.1 hP hK hN hS (c_m_reads hI i_51 hM (show r_23.2 ≤ (RN 1) by omega) (show (RN 3) ≤ 170 by omega) (by omega)) eX8_122 (ci := 7) (q0 := 0) rfl rfl rfl rfl rfl (Nat.le_of_ble_eq_true rfl) ⟨Nat.le_of_ble_eq_true rfl, Nat.le_of_ble_eq_true rfl⟩ ⟨rfl, rfl⟩ ⟨Nat.le_of_ble_eq_true rfl, Nat.le_of_ble_eq_true rfl⟩ dX8_readsItem_78 (fun H locs hP hS => ?_)
              obtain ⟨r_25, hr_25⟩ : ∃ z, z = (m_reads (va_up RA 2 a2_51) (va_up RN 35 r_23.2) i_51) := ⟨_, rfl⟩
              rw [← hr_25] at hP
              rw [← hr_25]
              have hp25_0 : r_25.2.2 ≤ (RN 1) := by rw [hr_25]; exact m_reads_le hlen (show r_23.2 ≤ (RN 1) by omega)
              have hP : va_P (dC, dI) vwCl (RWs cI ad (va_up RA 2 r_25.2.1) RS (va_up RN 35 r_25.2.2) RL) H := (RWs_conv rfl rfl rfl rfl rfl rfl rfl rfl rfl rfl rfl rfl rfl rfl rfl rfl rfl rfl rfl rfl rfl rfl rfl rfl rfl rfl rfl rfl rfl rfl rfl rfl rfl rfl rfl rfl rfl rfl rfl rfl rfl hP)
              refine lv_if_eq (tgt := 126) hx hb dX8_readsItem_81 (by decide) (fun c_26 => ?_) (fun c_26 => ?_)
              · refine lv_iconst (v := 0) hx hb dX8_readsItem_126 (by decide) ?_
                refine lv_istore_n (lv' := [(3, .int 0), (0, .ref (ad 0)), (1, .int (RA 0 (RN 35))), (2, .int (m_numbersOf (RA 0 (RN 35)))), (4, .int (nI i_51))]) hx hb dX8_readsItem_127 rfl hl (by decide) rfl (fun ls hl => ?_)
                refine lv_iinc (v := (nI (i_51 + 1))) (lv' := [(4, .int (nI (i_51 + 1))), (3, .int 0), (0, .ref (ad 0)), (1, .int (RA 0 (RN 35))), (2, .int (m_numbersOf (RA 0 (RN 35))))]) hx hb dX8_readsItem_128 hl (k := 4) rfl (nI_add _ _) (by decide) rfl (fun ls hl => ?_)
                refine lv_goto (tgt := 51) hx hb dX8_readsItem_131 (by decide) ?_
                have hL_51 : (m_readsItem_L51 RA RN (RA 0 (RN 35)) (n_51 + 1) i_51 x3_51 a2_51 n35_51) = (m_readsItem_L51 RA RN (RA 0 (RN 35)) n_51 (i_51 + 1) 0 r_25.2.1 r_25.2.2) := by subst hr_25; subst hr_23; rw [m_readsItem_L51.eq_2, if_neg c_18, if_neg c_19, if_neg c_24, if_pos c_26]
                try rw [hL_51] at hk_51
                exact ih_51 (i_51 + 1) 0 r_25.2.1 r_25.2.2 (by omega) _ _ _ hP hS (lv_sub hl [2, 3, 4, 1, 0] rfl) (by omega) hk_51
              · refine lv_aload_n hx hb dX8_readsItem_84 rfl (lv_at hl 0 rfl) ?_
                refine m_get (v := .ref (ad 2)) hx hb hts hown hK hP 2 (by decide) rfl kX8_13 rfl dX8_readsItem_85 ?_
                refine lv_bipush (v := 7) hx hb dX8_readsItem_88 (by decide) ?_
                refine lv_aload_n hx hb dX8_readsItem_90 rfl (lv_at hl 0 rfl) ?_
                refine m_get (v := .int (nI (RN 3))) hx hb hts hown hK hP 3 (by decide) rfl kX8_111 rfl dX8_readsItem_91 ?_
                refine kn_imul hx hb 7 (RN 3) rfl rfl dX8_readsItem_94 ?_
                refine lv_iconst (v := 1) hx hb dX8_readsItem_95 (by decide) ?_
                refine kn_iadd hx hb (7 * (RN 3)) 1 rfl rfl dX8_readsItem_96 ?_
                refine lv_iload hx hb dX8_readsItem_97 (lv_at hl 4 rfl) ?_
                refine kn_iadd hx hb ((7 * (RN 3)) + 1) i_51 rfl rfl dX8_readsItem_99 ?_
                refine kn_iald (f := r_25.2.1) (v := (r_25.2.1 (((7 * (RN 3)) + 1) + i_51))) hx hb hK hP 2 rfl (((7 * (RN 3)) + 1) + i_51) rfl (by omega) (by omega) rfl dX8_readsItem_100 ?_
                refine lv_i2l (v := ((r_25.2.1 (((7 * (RN 3)) + 1) + i_51)).toInt64)) hx hb dX8_readsItem_101 rfl ?_
                refine lv_iload_n hx hb dX8_readsItem_102 rfl (lv_at hl 1 rfl) ?_
                refine lv_iload hx hb dX8_readsItem_103 (lv_at hl 4 rfl) ?_
                refine k_rS (v := .int (m_leastOf (RA 0 (RN 35)) (nI i_51))) (As := [.int (RA 0 (RN 35)), .int (nI i_51)]) (rest := [.long ((r_25.2.1 (((7 * (RN 3)) + 1) + i_51)).toInt64)]) hx hb hml hown hts hl.1 (B := fun _ => True) (fun _ _ _ _ q => q) (fun _ _ _ => trivial) (c_m_leastOf (RA 0 (RN 35)) (nI i_51)) eX8_125 rfl rfl (Nat.le_of_ble_eq_true rfl) ⟨Nat.le_of_ble_eq_true rfl, Nat.le_of_ble_eq_true rfl⟩ ⟨rfl, rfl⟩ ⟨Nat.le_of_ble_eq_true rfl, Nat.le_of_ble_eq_true rfl⟩ dX8_readsItem_105 ?_
                refine lv_i2l (v := ((m_leastOf (RA 0 (RN 35)) (nI i_51)).toInt64)) hx hb dX8_readsItem_108 rfl ?_
                refine lv_iload_n hx hb dX8_readsItem_109 rfl (lv_at hl 1 rfl) ?_
                refine lv_iload hx hb dX8_readsItem_110 (lv_at hl 4 rfl) ?_
                refine k_rS (v := .int (m_mostOf (RA 0 (RN 35)) (nI i_51))) (As := [.int (RA 0 (RN 35)), .int (nI i_51)]) (rest := [.long ((m_leastOf (RA 0 (RN 35)) (nI i_51)).toInt64), .long ((r_25.2.1 (((7 * (RN 3)) + 1) + i_51)).toInt64)]) hx hb hml hown hts hl.1 (B := fun _ => True) (fun _ _ _ _ q => q) (fun _ _ _ => trivial) (c_m_mostOf (RA 0 (RN 35)) (nI i_51)) eX8_129 rfl rfl (Nat.le_of_ble_eq_true rfl) ⟨Nat.le_of_ble_eq_true rfl, Nat.le_of_ble_eq_true rfl⟩ ⟨rfl, rfl⟩ ⟨Nat.le_of_ble_eq_true rfl, Nat.le_of_ble_eq_true rfl⟩ dX8_readsItem_112 ?_
                refine lv_i2l (v := ((m_mostOf (RA 0 (RN 35)) (nI i_51)).toInt64)) hx hb dX8_readsItem_115 rfl ?_
                refine k_rS (v := .int (m_in ((r_25.2.1 (((7 * (RN 3)) + 1) + i_51)).toInt64) ((m_leastOf (RA 0 (RN 35)) (nI i_51)).toInt64) ((m_mostOf (RA 0 (RN 35)) (nI i_51)).toInt64))) (As := [.long ((r_25.2.1 (((7 * (RN 3)) + 1) + i_51)).toInt64), .long ((m_leastOf (RA 0 (RN 35)) (nI i_51)).toInt64), .long ((m_mostOf (RA 0 (RN 35)) (nI i_51)).toInt64)]) (rest := []) hx hb hml hown hts hl.1 (B := fun _ => True) (fun _ _ _ _ q => q) (fun _ _ _ => trivial) (c_m_in ((r_25.2.1 (((7 * (RN 3)) + 1) + i_51)).toInt64) ((m_leastOf (RA 0 (RN 35)) (nI i_51)).toInt64) ((m_mostOf (RA 0 (RN 35)) (nI i_51)).toInt64)) eX8_99 rfl rfl (Nat.le_of_ble_eq_true rfl) ⟨Nat.le_of_ble_eq_true rfl, Nat.le_of_ble_eq_true rfl⟩ ⟨rfl, rfl⟩ ⟨Nat.le_of_ble_eq_true rfl, Nat.le_of_ble_eq_true rfl⟩ dX8_readsItem_116 ?_
                refine lv_if_eq (tgt := 126) hx hb dX8_readsItem_119 (by decide) (fun c_27 => ?_) (fun c_27 => ?_)
                · refine lv_iconst (v := 0) hx hb dX8_readsItem_126 (by decide) ?_
                  refine lv_istore_n (lv' := [(3, .int 0), (0, .ref (ad 0)), (1, .int (RA 0 (RN 35))), (2, .int (m_numbersOf (RA 0 (RN 35)))), (4, .int (nI i_51))]) hx hb dX8_readsItem_127 rfl hl (by decide) rfl (fun ls hl => ?_)
                  refine lv_iinc (v := (nI (i_51 + 1))) (lv' := [(4, .int (nI (i_51 + 1))), (3, .int 0), (0, .ref (ad 0)), (1, .int (RA 0 (RN 35))), (2, .int (m_numbersOf (RA 0 (RN 35))))]) hx hb dX8_readsItem_128 hl (k := 4) rfl (nI_add _ _) (by decide) rfl (fun ls hl => ?_)
                  refine lv_goto (tgt := 51) hx hb dX8_readsItem_131 (by decide) ?_
                  have hL_51 : (m_readsItem_L51 RA RN (RA 0 (RN 35)) (n_51 + 1) i_51 x3_51 a2_51 n35_51) = (m_readsItem_L51 RA RN (RA 0 (RN 35)) n_51 (i_51 + 1) 0 r_25.2.1 r_25.2.2) := by subst hr_25; subst hr_23; rw [m_readsItem_L51.eq_2, if_neg c_18, if_neg c_19, if_neg c_24, if_neg c_26, if_pos c_27]
                  try rw [hL_51] at hk_51
                  exact ih_51 (i_51 + 1) 0 r_25.2.1 r_25.2.2 (by omega) _ _ _ hP hS (lv_sub hl [2, 3, 4, 1, 0] rfl) (by omega) hk_51
                · refine lv_iconst (v := 1) hx hb dX8_readsItem_122 (by decide) ?_
                  refine lv_goto (tgt := 127) hx hb dX8_readsItem_123 (by decide) ?_
                  refine lv_istore_n (lv' := [(3, .int 1), (0, .ref (ad 0)), (1, .int (RA 0 (RN 35))), (2, .int (m_numbersOf (RA 0 (RN 35)))), (4, .int (nI i_51))]) hx hb dX8_readsItem_127 rfl hl (by decide) rfl (fun ls hl => ?_)
                  refine lv_iinc (v := (nI (i_51 + 1))) (lv' := [(4, .int (nI (i_51 + 1))), (3, .int 1), (0, .ref (ad 0)), (1, .int (RA 0 (RN 35))), (2, .int (m_numbersOf (RA 0 (RN 35))))]) hx hb dX8_readsItem_128 hl (k := 4) rfl (nI_add _ _) (by decide) rfl (fun ls hl => ?_)
                  refine lv_goto (tgt := 51) hx hb dX8_readsItem_131 (by decide) ?_
                  have hL_51 : (m_readsItem_L51 RA RN (RA 0 (RN 35)) (n_51 + 1) i_51 x3_51 a2_51 n35_51) = (m_readsItem_L51 RA RN (RA 0 (RN 35)) n_51 (i_51 + 1) 1 r_25.2.1 r_25.2.2) := by subst hr_25; subst hr_23; rw [m_readsItem_L51.eq_2, if_neg c_18, if_neg c_19, if_neg c_24, if_neg c_26, if_neg c_27]
                  try rw [hL_51] at hk_51
                  exact ih_51 (i_51 + 1) 1 r_25.2.1 r_25.2.2 (by omega) _ _ _ hP hS (lv_sub hl [2, 3, 4, 1, 0] rfl) (by omega) hk_51
    exact loop_51 ((m_numbersOf (RA 0 (RN 35))).toNatClampNeg) 0 0 (upd (RA 2) (7 * (RN 3)) (RA 0 (RN 35))) ((RN 35) + 1) (by omega) _ _ _ hP hS (lv_sub hl [4, 3, 2, 1, 0] rfl) (by omega) (fun H locs ls hP hS hl hx_51a => rest_51 (m_readsItem_L51 RA RN (RA 0 (RN 35)) ((m_numbersOf (RA 0 (RN 35))).toNatClampNeg) 0 0 (upd (RA 2) (7 * (RN 3)) (RA 0 (RN 35))) ((RN 35) + 1)).1 (m_readsItem_L51 RA RN (RA 0 (RN 35)) ((m_numbersOf (RA 0 (RN 35))).toNatClampNeg) 0 0 (upd (RA 2) (7 * (RN 3)) (RA 0 (RN 35))) ((RN 35) + 1)).2.1 (m_readsItem_L51 RA RN (RA 0 (RN 35)) ((m_numbersOf (RA 0 (RN 35))).toNatClampNeg) 0 0 (upd (RA 2) (7 * (RN 3)) (RA 0 (RN 35))) ((RN 35) + 1)).2.2 _ _ _ hP hS hl hx_51a (by rw [m_readsItem, if_pos c_12]))
  · refine lv_iconst (v := 1) hx hb dX8_readsItem_42 (by decide) ?_
    refine lv_goto (tgt := 47) hx hb dX8_readsItem_43 (by decide) ?_
    refine lv_istore_n (lv' := [(3, .int 1), (2, .int (m_numbersOf (RA 0 (RN 35)))), (1, .int (RA 0 (RN 35))), (0, .ref (ad 0))]) hx hb dX8_readsItem_47 rfl hl (by decide) rfl (fun ls hl => ?_)
    refine lv_iconst (v := 0) hx hb dX8_readsItem_48 (by decide) ?_
    refine lv_istore (lv' := [(4, .int 0), (3, .int 1), (2, .int (m_numbersOf (RA 0 (RN 35)))), (1, .int (RA 0 (RN 35))), (0, .ref (ad 0))]) hx hb dX8_readsItem_49 hl (by decide) rfl (fun ls hl => ?_)
    have rest_51 : ∀ (x3_51 : Int32) (a2_51 : Nat → Int32) (n35_51 : Nat), ∀ (H : Heap) (locs : List Loc) (ls : Array Slot), va_P (dC, dI) vwCl (RWs cI ad (va_up RA 2 a2_51) RS (va_up RN 35 n35_51) RL) H → va_S (kAA ad 24) s.heap H locs → lv_has ls 5 [(0, .ref (ad 0)), (3, .int x3_51)] → (n35_51 ≤ RN 1) → (m_readsItem RA RN) = m_readsItem_k51 RA RN a2_51 n35_51 x3_51 → W p l e ({ frames := 1, cells := 0, slots := 0, locals := 25 } : Room) s m args below meth c H locs 0 0 (MQ below (kQ (some (.int ((m_readsItem RA RN).1))) (kB (dC, dI) [(cI, .int)] (RWs cI ad (va_up RA 2 ((m_readsItem RA RN).2.1)) RS (va_up RN 35 ((m_readsItem RA RN).2.2)) RL)) (kAA ad 24)) args s 0 0 (kAA ad 24)) (F0 m 134 ls []) := by
      intro x3_51 a2_51 n35_51 H locs ls hP hS hl hx_51a hF_51
      refine lv_iload_n hx hb dX8_readsItem_134 rfl (lv_at hl 1 rfl) ?_
      refine lv_if_eq (tgt := 151) hx hb dX8_readsItem_135 (by decide) (fun c_28 => ?_) (fun c_28 => ?_)
      · refine lv_iconst (v := 0) hx hb dX8_readsItem_151 (by decide) ?_
        have hE : (m_readsItem RA RN) = (0, a2_51, n35_51) := hF_51.trans (by rw [m_readsItem_k51, if_pos c_28])
        exact W.zret (v := 0) hx hb hr rfl (fun t ht hW => ⟨by rw [hE], by rw [hE]; exact kB.of (ws := RWs cI ad (va_up RA 2 a2_51) RS (va_up RN 35 n35_51) RL) hP hK hN ht hW, hS.F ht⟩) hS.2.2 dX8_readsItem_152 hlocks
      · refine lv_aload_n hx hb dX8_readsItem_138 rfl (lv_at hl 0 rfl) ?_
        refine lv_bipush (v := 59) hx hb dX8_readsItem_139 (by decide) ?_
        refine k_wV (r := (some (.int ((m_isSign (va_up RA 2 a2_51) (va_up RN 35 n35_51) 59).1)))) (As := [.int 59]) (rest := []) hx hb hml hown hts hl.1 hP hK hN hS (c_m_isSign hI 59 hM (show n35_51 ≤ (RN 1) by omega)) eX8_118 (ci := 7) (q0 := 0) rfl rfl rfl rfl rfl (Nat.le_of_ble_eq_true rfl) ⟨Nat.le_of_ble_eq_true rfl, Nat.le_of_ble_eq_true rfl⟩ ⟨rfl, rfl⟩ ⟨Nat.le_of_ble_eq_true rfl, Nat.le_of_ble_eq_true rfl⟩ dX8_readsItem_141 (fun H locs hP hS => ?_)
        obtain ⟨r_29, hr_29⟩ : ∃ z, z = (m_isSign (va_up RA 2 a2_51) (va_up RN 35 n35_51) 59) := ⟨_, rfl⟩
        rw [← hr_29] at hP
        rw [← hr_29]
        have hp29_0 : r_29.2 ≤ (RN 1) := by rw [hr_29]; exact m_isSign_le hlen (show n35_51 ≤ (RN 1) by omega)
        have hP : va_P (dC, dI) vwCl (RWs cI ad (va_up RA 2 a2_51) RS (va_up RN 35 r_29.2) RL) H := (RWs_conv rfl rfl rfl rfl rfl rfl rfl rfl rfl rfl rfl rfl rfl rfl rfl rfl rfl rfl rfl rfl rfl rfl rfl rfl rfl rfl rfl rfl rfl rfl rfl rfl rfl rfl rfl rfl rfl rfl rfl rfl rfl hP)
        refine lv_if_eq (tgt := 151) hx hb dX8_readsItem_144 (by decide) (fun c_30 => ?_) (fun c_30 => ?_)
        · refine lv_iconst (v := 0) hx hb dX8_readsItem_151 (by decide) ?_
          have hE : (m_readsItem RA RN) = (0, a2_51, r_29.2) := by subst hr_29; exact hF_51.trans (by rw [m_readsItem_k51, if_neg c_28, if_pos c_30])
          exact W.zret (v := 0) hx hb hr rfl (fun t ht hW => ⟨by rw [hE], by rw [hE]; exact kB.of (ws := RWs cI ad (va_up RA 2 a2_51) RS (va_up RN 35 r_29.2) RL) hP hK hN ht hW, hS.F ht⟩) hS.2.2 dX8_readsItem_152 hlocks
        · refine lv_iconst (v := 1) hx hb dX8_readsItem_147 (by decide) ?_
          refine lv_goto (tgt := 152) hx hb dX8_readsItem_148 (by decide) ?_
          have hE : (m_readsItem RA RN) = (1, a2_51, r_29.2) := by subst hr_29; exact hF_51.trans (by rw [m_readsItem_k51, if_neg c_28, if_neg c_30])
          exact W.zret (v := 1) hx hb hr rfl (fun t ht hW => ⟨by rw [hE], by rw [hE]; exact kB.of (ws := RWs cI ad (va_up RA 2 a2_51) RS (va_up RN 35 r_29.2) RL) hP hK hN ht hW, hS.F ht⟩) hS.2.2 dX8_readsItem_152 hlocks
    have hN_51 : ((m_numbersOf (RA 0 (RN 35))).toNatClampNeg) < 2 ^ 31 := kcl_lt _
    have loop_51 : ∀ (n_51 i_51 : Nat) (x3_51 : Int32) (a2_51 : Nat → Int32) (n35_51 : Nat), i_51 + n_51 = (m_numbersOf (RA 0 (RN 35))).toNatClampNeg → ∀ (H : Heap) (locs : List Loc) (ls : Array Slot), va_P (dC, dI) vwCl (RWs cI ad (va_up RA 2 a2_51) RS (va_up RN 35 n35_51) RL) H → va_S (kAA ad 24) s.heap H locs → lv_has ls 5 [(0, .ref (ad 0)), (1, .int (RA 0 (RN 35))), (2, .int (m_numbersOf (RA 0 (RN 35)))), (3, .int x3_51), (4, .int (nI i_51))] → (n35_51 ≤ RN 1) → (∀ (H : Heap) (locs : List Loc) (ls : Array Slot), va_P (dC, dI) vwCl (RWs cI ad (va_up RA 2 ((m_readsItem_L51 RA RN (RA 0 (RN 35)) n_51 i_51 x3_51 a2_51 n35_51).2.1)) RS (va_up RN 35 ((m_readsItem_L51 RA RN (RA 0 (RN 35)) n_51 i_51 x3_51 a2_51 n35_51).2.2)) RL) H → va_S (kAA ad 24) s.heap H locs → lv_has ls 5 [(0, .ref (ad 0)), (3, .int ((m_readsItem_L51 RA RN (RA 0 (RN 35)) n_51 i_51 x3_51 a2_51 n35_51).1))] → ((m_readsItem_L51 RA RN (RA 0 (RN 35)) n_51 i_51 x3_51 a2_51 n35_51).2.2 ≤ RN 1) → W p l e ({ frames := 1, cells := 0, slots := 0, locals := 25 } : Room) s m args below meth c H locs 0 0 (MQ below (kQ (some (.int ((m_readsItem RA RN).1))) (kB (dC, dI) [(cI, .int)] (RWs cI ad (va_up RA 2 ((m_readsItem RA RN).2.1)) RS (va_up RN 35 ((m_readsItem RA RN).2.2)) RL)) (kAA ad 24)) args s 0 0 (kAA ad 24)) (F0 m 134 ls [])) → W p l e ({ frames := 1, cells := 0, slots := 0, locals := 25 } : Room) s m args below meth c H locs 0 0 (MQ below (kQ (some (.int ((m_readsItem RA RN).1))) (kB (dC, dI) [(cI, .int)] (RWs cI ad (va_up RA 2 ((m_readsItem RA RN).2.1)) RS (va_up RN 35 ((m_readsItem RA RN).2.2)) RL)) (kAA ad 24)) args s 0 0 (kAA ad 24)) (F0 m 51 ls []) := by
      intro n_51
      induction n_51 with
      | zero =>
        intro i_51 x3_51 a2_51 n35_51 hin_51 H locs ls hP hS hl hinv_51a hk_51
        refine lv_iload hx hb dX8_readsItem_51 (lv_at hl 4 rfl) ?_
        refine lv_iload_n hx hb dX8_readsItem_53 rfl (lv_at hl 2 rfl) ?_
        refine lv_icmp_ge (tgt := 134) hx hb dX8_readsItem_54 (by decide) (fun _ => ?_) (fun c_31 => absurd (kct_ge (N := (m_numbersOf (RA 0 (RN 35))).toNatClampNeg) rfl (by omega) (by omega)) c_31)
        have hL_51 : (m_readsItem_L51 RA RN (RA 0 (RN 35)) 0 i_51 x3_51 a2_51 n35_51) = (x3_51, a2_51, n35_51) := by rw [m_readsItem_L51.eq_1]
        try rw [hL_51] at hk_51
        exact hk_51 _ _ _ hP hS (lv_sub hl [0, 3] rfl) (hinv_51a)
      | succ n_51 ih_51 =>
        intro i_51 x3_51 a2_51 n35_51 hin_51 H locs ls hP hS hl hinv_51a hk_51
        have h6 := m_numbersOf_le (RA 0 (RN 35))
        refine lv_iload hx hb dX8_readsItem_51 (lv_at hl 4 rfl) ?_
        refine lv_iload_n hx hb dX8_readsItem_53 rfl (lv_at hl 2 rfl) ?_
        refine lv_icmp_ge (tgt := 134) hx hb dX8_readsItem_54 (by decide) (fun c_32 => absurd c_32 (kct_lt (N := (m_numbersOf (RA 0 (RN 35))).toNatClampNeg) rfl (by omega))) (fun _ => ?_)
        refine lv_iload_n hx hb dX8_readsItem_57 rfl (lv_at hl 3 rfl) ?_
        refine lv_if_eq (tgt := 134) hx hb dX8_readsItem_58 (by decide) (fun c_33 => ?_) (fun c_33 => ?_)
        · have hL_51 : (m_readsItem_L51 RA RN (RA 0 (RN 35)) (n_51 + 1) i_51 x3_51 a2_51 n35_51) = (x3_51, a2_51, n35_51) := by rw [m_readsItem_L51.eq_2, if_pos c_33]
          try rw [hL_51] at hk_51
          exact hk_51 _ _ _ hP hS (lv_sub hl [0, 3] rfl) (hinv_51a)
        · refine lv_iload hx hb dX8_readsItem_61 (lv_at hl 4 rfl) ?_
          refine lv_if_eq (tgt := 75) hx hb dX8_readsItem_63 (by decide) (fun c_34 => ?_) (fun c_34 => ?_)
          · refine lv_aload_n hx hb dX8_readsItem_75 rfl (lv_at hl 0 rfl) ?_
            refine lv_iload hx hb dX8_readsItem_76 (lv_at hl 4 rfl) ?_
            refine k_wV (r := (some (.int ((m_reads (va_up RA 2 a2_51) (va_up RN 35 n35_51) i_51).1)))) (As := [.int (nI i_51)]) (rest := []) hx hb hml hown hts hl.1 hP hK hN hS (c_m_reads hI i_51 hM (show n35_51 ≤ (RN 1) by omega) (show (RN 3) ≤ 170 by omega) (by omega)) eX8_122 (ci := 7) (q0 := 0) rfl rfl rfl rfl rfl (Nat.le_of_ble_eq_true rfl) ⟨Nat.le_of_ble_eq_true rfl, Nat.le_of_ble_eq_true rfl⟩ ⟨rfl, rfl⟩ ⟨Nat.le_of_ble_eq_true rfl, Nat.le_of_ble_eq_true rfl⟩ dX8_readsItem_78 (fun H locs hP hS => ?_)
            obtain ⟨r_35, hr_35⟩ : ∃ z, z = (m_reads (va_up RA 2 a2_51) (va_up RN 35 n35_51) i_51) := ⟨_, rfl⟩
            rw [← hr_35] at hP
            rw [← hr_35]
            have hp35_0 : r_35.2.2 ≤ (RN 1) := by rw [hr_35]; exact m_reads_le hlen (show n35_51 ≤ (RN 1) by omega)
            have hP : va_P (dC, dI) vwCl (RWs cI ad (va_up RA 2 r_35.2.1) RS (va_up RN 35 r_35.2.2) RL) H := (RWs_conv rfl rfl rfl rfl rfl rfl rfl rfl rfl rfl rfl rfl rfl rfl rfl rfl rfl rfl rfl rfl rfl rfl rfl rfl rfl rfl rfl rfl rfl rfl rfl rfl rfl rfl rfl rfl rfl rfl rfl rfl rfl hP)
            refine lv_if_eq (tgt := 126) hx hb dX8_readsItem_81 (by decide) (fun c_36 => ?_) (fun c_36 => ?_)
            · refine lv_iconst (v := 0) hx hb dX8_readsItem_126 (by decide) ?_
              refine lv_istore_n (lv' := [(3, .int 0), (0, .ref (ad 0)), (1, .int (RA 0 (RN 35))), (2, .int (m_numbersOf (RA 0 (RN 35)))), (4, .int (nI i_51))]) hx hb dX8_readsItem_127 rfl hl (by decide) rfl (fun ls hl => ?_)
              refine lv_iinc (v := (nI (i_51 + 1))) (lv' := [(4, .int (nI (i_51 + 1))), (3, .int 0), (0, .ref (ad 0)), (1, .int (RA 0 (RN 35))), (2, .int (m_numbersOf (RA 0 (RN 35))))]) hx hb dX8_readsItem_128 hl (k := 4) rfl (nI_add _ _) (by decide) rfl (fun ls hl => ?_)
              refine lv_goto (tgt := 51) hx hb dX8_readsItem_131 (by decide) ?_
              have hL_51 : (m_readsItem_L51 RA RN (RA 0 (RN 35)) (n_51 + 1) i_51 x3_51 a2_51 n35_51) = (m_readsItem_L51 RA RN (RA 0 (RN 35)) n_51 (i_51 + 1) 0 r_35.2.1 r_35.2.2) := by subst hr_35; rw [m_readsItem_L51.eq_2, if_neg c_33, if_pos c_34, if_pos c_36]
              try rw [hL_51] at hk_51
              exact ih_51 (i_51 + 1) 0 r_35.2.1 r_35.2.2 (by omega) _ _ _ hP hS (lv_sub hl [2, 3, 4, 1, 0] rfl) (by omega) hk_51
            · refine lv_aload_n hx hb dX8_readsItem_84 rfl (lv_at hl 0 rfl) ?_
              refine m_get (v := .ref (ad 2)) hx hb hts hown hK hP 2 (by decide) rfl kX8_13 rfl dX8_readsItem_85 ?_
              refine lv_bipush (v := 7) hx hb dX8_readsItem_88 (by decide) ?_
              refine lv_aload_n hx hb dX8_readsItem_90 rfl (lv_at hl 0 rfl) ?_
              refine m_get (v := .int (nI (RN 3))) hx hb hts hown hK hP 3 (by decide) rfl kX8_111 rfl dX8_readsItem_91 ?_
              refine kn_imul hx hb 7 (RN 3) rfl rfl dX8_readsItem_94 ?_
              refine lv_iconst (v := 1) hx hb dX8_readsItem_95 (by decide) ?_
              refine kn_iadd hx hb (7 * (RN 3)) 1 rfl rfl dX8_readsItem_96 ?_
              refine lv_iload hx hb dX8_readsItem_97 (lv_at hl 4 rfl) ?_
              refine kn_iadd hx hb ((7 * (RN 3)) + 1) i_51 rfl rfl dX8_readsItem_99 ?_
              refine kn_iald (f := r_35.2.1) (v := (r_35.2.1 (((7 * (RN 3)) + 1) + i_51))) hx hb hK hP 2 rfl (((7 * (RN 3)) + 1) + i_51) rfl (by omega) (by omega) rfl dX8_readsItem_100 ?_
              refine lv_i2l (v := ((r_35.2.1 (((7 * (RN 3)) + 1) + i_51)).toInt64)) hx hb dX8_readsItem_101 rfl ?_
              refine lv_iload_n hx hb dX8_readsItem_102 rfl (lv_at hl 1 rfl) ?_
              refine lv_iload hx hb dX8_readsItem_103 (lv_at hl 4 rfl) ?_
              refine k_rS (v := .int (m_leastOf (RA 0 (RN 35)) (nI i_51))) (As := [.int (RA 0 (RN 35)), .int (nI i_51)]) (rest := [.long ((r_35.2.1 (((7 * (RN 3)) + 1) + i_51)).toInt64)]) hx hb hml hown hts hl.1 (B := fun _ => True) (fun _ _ _ _ q => q) (fun _ _ _ => trivial) (c_m_leastOf (RA 0 (RN 35)) (nI i_51)) eX8_125 rfl rfl (Nat.le_of_ble_eq_true rfl) ⟨Nat.le_of_ble_eq_true rfl, Nat.le_of_ble_eq_true rfl⟩ ⟨rfl, rfl⟩ ⟨Nat.le_of_ble_eq_true rfl, Nat.le_of_ble_eq_true rfl⟩ dX8_readsItem_105 ?_
              refine lv_i2l (v := ((m_leastOf (RA 0 (RN 35)) (nI i_51)).toInt64)) hx hb dX8_readsItem_108 rfl ?_
              refine lv_iload_n hx hb dX8_readsItem_109 rfl (lv_at hl 1 rfl) ?_
              refine lv_iload hx hb dX8_readsItem_110 (lv_at hl 4 rfl) ?_
              refine k_rS (v := .int (m_mostOf (RA 0 (RN 35)) (nI i_51))) (As := [.int (RA 0 (RN 35)), .int (nI i_51)]) (rest := [.long ((m_leastOf (RA 0 (RN 35)) (nI i_51)).toInt64), .long ((r_35.2.1 (((7 * (RN 3)) + 1) + i_51)).toInt64)]) hx hb hml hown hts hl.1 (B := fun _ => True) (fun _ _ _ _ q => q) (fun _ _ _ => trivial) (c_m_mostOf (RA 0 (RN 35)) (nI i_51)) eX8_129 rfl rfl (Nat.le_of_ble_eq_true rfl) ⟨Nat.le_of_ble_eq_true rfl, Nat.le_of_ble_eq_true rfl⟩ ⟨rfl, rfl⟩ ⟨Nat.le_of_ble_eq_true rfl, Nat.le_of_ble_eq_true rfl⟩ dX8_readsItem_112 ?_
              refine lv_i2l (v := ((m_mostOf (RA 0 (RN 35)) (nI i_51)).toInt64)) hx hb dX8_readsItem_115 rfl ?_
              refine k_rS (v := .int (m_in ((r_35.2.1 (((7 * (RN 3)) + 1) + i_51)).toInt64) ((m_leastOf (RA 0 (RN 35)) (nI i_51)).toInt64) ((m_mostOf (RA 0 (RN 35)) (nI i_51)).toInt64))) (As := [.long ((r_35.2.1 (((7 * (RN 3)) + 1) + i_51)).toInt64), .long ((m_leastOf (RA 0 (RN 35)) (nI i_51)).toInt64), .long ((m_mostOf (RA 0 (RN 35)) (nI i_51)).toInt64)]) (rest := []) hx hb hml hown hts hl.1 (B := fun _ => True) (fun _ _ _ _ q => q) (fun _ _ _ => trivial) (c_m_in ((r_35.2.1 (((7 * (RN 3)) + 1) + i_51)).toInt64) ((m_leastOf (RA 0 (RN 35)) (nI i_51)).toInt64) ((m_mostOf (RA 0 (RN 35)) (nI i_51)).toInt64)) eX8_99 rfl rfl (Nat.le_of_ble_eq_true rfl) ⟨Nat.le_of_ble_eq_true rfl, Nat.le_of_ble_eq_true rfl⟩ ⟨rfl, rfl⟩ ⟨Nat.le_of_ble_eq_true rfl, Nat.le_of_ble_eq_true rfl⟩ dX8_readsItem_116 ?_
              refine lv_if_eq (tgt := 126) hx hb dX8_readsItem_119 (by decide) (fun c_37 => ?_) (fun c_37 => ?_)
              · refine lv_iconst (v := 0) hx hb dX8_readsItem_126 (by decide) ?_
                refine lv_istore_n (lv' := [(3, .int 0), (0, .ref (ad 0)), (1, .int (RA 0 (RN 35))), (2, .int (m_numbersOf (RA 0 (RN 35)))), (4, .int (nI i_51))]) hx hb dX8_readsItem_127 rfl hl (by decide) rfl (fun ls hl => ?_)
                refine lv_iinc (v := (nI (i_51 + 1))) (lv' := [(4, .int (nI (i_51 + 1))), (3, .int 0), (0, .ref (ad 0)), (1, .int (RA 0 (RN 35))), (2, .int (m_numbersOf (RA 0 (RN 35))))]) hx hb dX8_readsItem_128 hl (k := 4) rfl (nI_add _ _) (by decide) rfl (fun ls hl => ?_)
                refine lv_goto (tgt := 51) hx hb dX8_readsItem_131 (by decide) ?_
                have hL_51 : (m_readsItem_L51 RA RN (RA 0 (RN 35)) (n_51 + 1) i_51 x3_51 a2_51 n35_51) = (m_readsItem_L51 RA RN (RA 0 (RN 35)) n_51 (i_51 + 1) 0 r_35.2.1 r_35.2.2) := by subst hr_35; rw [m_readsItem_L51.eq_2, if_neg c_33, if_pos c_34, if_neg c_36, if_pos c_37]
                try rw [hL_51] at hk_51
                exact ih_51 (i_51 + 1) 0 r_35.2.1 r_35.2.2 (by omega) _ _ _ hP hS (lv_sub hl [2, 3, 4, 1, 0] rfl) (by omega) hk_51
              · refine lv_iconst (v := 1) hx hb dX8_readsItem_122 (by decide) ?_
                refine lv_goto (tgt := 127) hx hb dX8_readsItem_123 (by decide) ?_
                refine lv_istore_n (lv' := [(3, .int 1), (0, .ref (ad 0)), (1, .int (RA 0 (RN 35))), (2, .int (m_numbersOf (RA 0 (RN 35)))), (4, .int (nI i_51))]) hx hb dX8_readsItem_127 rfl hl (by decide) rfl (fun ls hl => ?_)
                refine lv_iinc (v := (nI (i_51 + 1))) (lv' := [(4, .int (nI (i_51 + 1))), (3, .int 1), (0, .ref (ad 0)), (1, .int (RA 0 (RN 35))), (2, .int (m_numbersOf (RA 0 (RN 35))))]) hx hb dX8_readsItem_128 hl (k := 4) rfl (nI_add _ _) (by decide) rfl (fun ls hl => ?_)
                refine lv_goto (tgt := 51) hx hb dX8_readsItem_131 (by decide) ?_
                have hL_51 : (m_readsItem_L51 RA RN (RA 0 (RN 35)) (n_51 + 1) i_51 x3_51 a2_51 n35_51) = (m_readsItem_L51 RA RN (RA 0 (RN 35)) n_51 (i_51 + 1) 1 r_35.2.1 r_35.2.2) := by subst hr_35; rw [m_readsItem_L51.eq_2, if_neg c_33, if_pos c_34, if_neg c_36, if_neg c_37]
                try rw [hL_51] at hk_51
                exact ih_51 (i_51 + 1) 1 r_35.2.1 r_35.2.2 (by omega) _ _ _ hP hS (lv_sub hl [2, 3, 4, 1, 0] rfl) (by omega) hk_51
          · refine lv_aload_n hx hb dX8_readsItem_66 rfl (lv_at hl 0 rfl) ?_
            refine lv_bipush (v := 44) hx hb dX8_readsItem_67 (by decide) ?_
            refine k_wV (r := (some (.int ((m_isSign (va_up RA 2 a2_51) (va_up RN 35 n35_51) 44).1)))) (As := [.int 44]) (rest := []) hx hb hml hown hts hl.1 hP hK hN hS (c_m_isSign hI 44 hM (show n35_51 ≤ (RN 1) by omega)) eX8_118 (ci := 7) (q0 := 0) rfl rfl rfl rfl rfl (Nat.le_of_ble_eq_true rfl) ⟨Nat.le_of_ble_eq_true rfl, Nat.le_of_ble_eq_true rfl⟩ ⟨rfl, rfl⟩ ⟨Nat.le_of_ble_eq_true rfl, Nat.le_of_ble_eq_true rfl⟩ dX8_readsItem_69 (fun H locs hP hS => ?_)
            obtain ⟨r_38, hr_38⟩ : ∃ z, z = (m_isSign (va_up RA 2 a2_51) (va_up RN 35 n35_51) 44) := ⟨_, rfl⟩
            rw [← hr_38] at hP
            rw [← hr_38]
            have hp38_0 : r_38.2 ≤ (RN 1) := by rw [hr_38]; exact m_isSign_le hlen (show n35_51 ≤ (RN 1) by omega)
            have hP : va_P (dC, dI) vwCl (RWs cI ad (va_up RA 2 a2_51) RS (va_up RN 35 r_38.2) RL) H := (RWs_conv rfl rfl rfl rfl rfl rfl rfl rfl rfl rfl rfl rfl rfl rfl rfl rfl rfl rfl rfl rfl rfl rfl rfl rfl rfl rfl rfl rfl rfl rfl rfl rfl rfl rfl rfl rfl rfl rfl rfl rfl rfl hP)
            refine lv_if_eq (tgt := 126) hx hb dX8_readsItem_72 (by decide) (fun c_39 => ?_) (fun c_39 => ?_)
            · refine lv_iconst (v := 0) hx hb dX8_readsItem_126 (by decide) ?_
              refine lv_istore_n (lv' := [(3, .int 0), (0, .ref (ad 0)), (1, .int (RA 0 (RN 35))), (2, .int (m_numbersOf (RA 0 (RN 35)))), (4, .int (nI i_51))]) hx hb dX8_readsItem_127 rfl hl (by decide) rfl (fun ls hl => ?_)
              refine lv_iinc (v := (nI (i_51 + 1))) (lv' := [(4, .int (nI (i_51 + 1))), (3, .int 0), (0, .ref (ad 0)), (1, .int (RA 0 (RN 35))), (2, .int (m_numbersOf (RA 0 (RN 35))))]) hx hb dX8_readsItem_128 hl (k := 4) rfl (nI_add _ _) (by decide) rfl (fun ls hl => ?_)
              refine lv_goto (tgt := 51) hx hb dX8_readsItem_131 (by decide) ?_
              have hL_51 : (m_readsItem_L51 RA RN (RA 0 (RN 35)) (n_51 + 1) i_51 x3_51 a2_51 n35_51) = (m_readsItem_L51 RA RN (RA 0 (RN 35)) n_51 (i_51 + 1) 0 a2_51 r_38.2) := by subst hr_38; rw [m_readsItem_L51.eq_2, if_neg c_33, if_neg c_34, if_pos c_39]
              try rw [hL_51] at hk_51
              exact ih_51 (i_51 + 1) 0 a2_51 r_38.2 (by omega) _ _ _ hP hS (lv_sub hl [2, 3, 4, 1, 0] rfl) (by omega) hk_51
            · refine lv_aload_n hx hb dX8_readsItem_75 rfl (lv_at hl 0 rfl) ?_
              refine lv_iload hx hb dX8_readsItem_76 (lv_at hl 4 rfl) ?_
              refine k_wV (r := (some (.int ((m_reads (va_up RA 2 a2_51) (va_up RN 35 r_38.2) i_51).1)))) (As := [.int (nI i_51)]) (rest := []) hx hb hml hown hts hl.1 hP hK hN hS (c_m_reads hI i_51 hM (show r_38.2 ≤ (RN 1) by omega) (show (RN 3) ≤ 170 by omega) (by omega)) eX8_122 (ci := 7) (q0 := 0) rfl rfl rfl rfl rfl (Nat.le_of_ble_eq_true rfl) ⟨Nat.le_of_ble_eq_true rfl, Nat.le_of_ble_eq_true rfl⟩ ⟨rfl, rfl⟩ ⟨Nat.le_of_ble_eq_true rfl, Nat.le_of_ble_eq_true rfl⟩ dX8_readsItem_78 (fun H locs hP hS => ?_)
              obtain ⟨r_40, hr_40⟩ : ∃ z, z = (m_reads (va_up RA 2 a2_51) (va_up RN 35 r_38.2) i_51) := ⟨_, rfl⟩
              rw [← hr_40] at hP
              rw [← hr_40]
              have hp40_0 : r_40.2.2 ≤ (RN 1) := by rw [hr_40]; exact m_reads_le hlen (show r_38.2 ≤ (RN 1) by omega)
              have hP : va_P (dC, dI) vwCl (RWs cI ad (va_up RA 2 r_40.2.1) RS (va_up RN 35 r_40.2.2) RL) H := (RWs_conv rfl rfl rfl rfl rfl rfl rfl rfl rfl rfl rfl rfl rfl rfl rfl rfl rfl rfl rfl rfl rfl rfl rfl rfl rfl rfl rfl rfl rfl rfl rfl rfl rfl rfl rfl rfl rfl rfl rfl rfl rfl hP)
              refine lv_if_eq (tgt := 126) hx hb dX8_readsItem_81 (by decide) (fun c_41 => ?_) (fun c_41 => ?_)
              · refine lv_iconst (v := 0) hx hb dX8_readsItem_126 (by decide) ?_
                refine lv_istore_n (lv' := [(3, .int 0), (0, .ref (ad 0)), (1, .int (RA 0 (RN 35))), (2, .int (m_numbersOf (RA 0 (RN 35)))), (4, .int (nI i_51))]) hx hb dX8_readsItem_127 rfl hl (by decide) rfl (fun ls hl => ?_)
                refine lv_iinc (v := (nI (i_51 + 1))) (lv' := [(4, .int (nI (i_51 + 1))), (3, .int 0), (0, .ref (ad 0)), (1, .int (RA 0 (RN 35))), (2, .int (m_numbersOf (RA 0 (RN 35))))]) hx hb dX8_readsItem_128 hl (k := 4) rfl (nI_add _ _) (by decide) rfl (fun ls hl => ?_)
                refine lv_goto (tgt := 51) hx hb dX8_readsItem_131 (by decide) ?_
                have hL_51 : (m_readsItem_L51 RA RN (RA 0 (RN 35)) (n_51 + 1) i_51 x3_51 a2_51 n35_51) = (m_readsItem_L51 RA RN (RA 0 (RN 35)) n_51 (i_51 + 1) 0 r_40.2.1 r_40.2.2) := by subst hr_40; subst hr_38; rw [m_readsItem_L51.eq_2, if_neg c_33, if_neg c_34, if_neg c_39, if_pos c_41]
                try rw [hL_51] at hk_51
                exact ih_51 (i_51 + 1) 0 r_40.2.1 r_40.2.2 (by omega) _ _ _ hP hS (lv_sub hl [2, 3, 4, 1, 0] rfl) (by omega) hk_51
              · refine lv_aload_n hx hb dX8_readsItem_84 rfl (lv_at hl 0 rfl) ?_
                refine m_get (v := .ref (ad 2)) hx hb hts hown hK hP 2 (by decide) rfl kX8_13 rfl dX8_readsItem_85 ?_
                refine lv_bipush (v := 7) hx hb dX8_readsItem_88 (by decide) ?_
                refine lv_aload_n hx hb dX8_readsItem_90 rfl (lv_at hl 0 rfl) ?_
                refine m_get (v := .int (nI (RN 3))) hx hb hts hown hK hP 3 (by decide) rfl kX8_111 rfl dX8_readsItem_91 ?_
                refine kn_imul hx hb 7 (RN 3) rfl rfl dX8_readsItem_94 ?_
                refine lv_iconst (v := 1) hx hb dX8_readsItem_95 (by decide) ?_
                refine kn_iadd hx hb (7 * (RN 3)) 1 rfl rfl dX8_readsItem_96 ?_
                refine lv_iload hx hb dX8_readsItem_97 (lv_at hl 4 rfl) ?_
                refine kn_iadd hx hb ((7 * (RN 3)) + 1) i_51 rfl rfl dX8_readsItem_99 ?_
                refine kn_iald (f := r_40.2.1) (v := (r_40.2.1 (((7 * (RN 3)) + 1) + i_51))) hx hb hK hP 2 rfl (((7 * (RN 3)) + 1) + i_51) rfl (by omega) (by omega) rfl dX8_readsItem_100 ?_
                refine lv_i2l (v := ((r_40.2.1 (((7 * (RN 3)) + 1) + i_51)).toInt64)) hx hb dX8_readsItem_101 rfl ?_
                refine lv_iload_n hx hb dX8_readsItem_102 rfl (lv_at hl 1 rfl) ?_
                refine lv_iload hx hb dX8_readsItem_103 (lv_at hl 4 rfl) ?_
                refine k_rS (v := .int (m_leastOf (RA 0 (RN 35)) (nI i_51))) (As := [.int (RA 0 (RN 35)), .int (nI i_51)]) (rest := [.long ((r_40.2.1 (((7 * (RN 3)) + 1) + i_51)).toInt64)]) hx hb hml hown hts hl.1 (B := fun _ => True) (fun _ _ _ _ q => q) (fun _ _ _ => trivial) (c_m_leastOf (RA 0 (RN 35)) (nI i_51)) eX8_125 rfl rfl (Nat.le_of_ble_eq_true rfl) ⟨Nat.le_of_ble_eq_true rfl, Nat.le_of_ble_eq_true rfl⟩ ⟨rfl, rfl⟩ ⟨Nat.le_of_ble_eq_true rfl, Nat.le_of_ble_eq_true rfl⟩ dX8_readsItem_105 ?_
                refine lv_i2l (v := ((m_leastOf (RA 0 (RN 35)) (nI i_51)).toInt64)) hx hb dX8_readsItem_108 rfl ?_
                refine lv_iload_n hx hb dX8_readsItem_109 rfl (lv_at hl 1 rfl) ?_
                refine lv_iload hx hb dX8_readsItem_110 (lv_at hl 4 rfl) ?_
                refine k_rS (v := .int (m_mostOf (RA 0 (RN 35)) (nI i_51))) (As := [.int (RA 0 (RN 35)), .int (nI i_51)]) (rest := [.long ((m_leastOf (RA 0 (RN 35)) (nI i_51)).toInt64), .long ((r_40.2.1 (((7 * (RN 3)) + 1) + i_51)).toInt64)]) hx hb hml hown hts hl.1 (B := fun _ => True) (fun _ _ _ _ q => q) (fun _ _ _ => trivial) (c_m_mostOf (RA 0 (RN 35)) (nI i_51)) eX8_129 rfl rfl (Nat.le_of_ble_eq_true rfl) ⟨Nat.le_of_ble_eq_true rfl, Nat.le_of_ble_eq_true rfl⟩ ⟨rfl, rfl⟩ ⟨Nat.le_of_ble_eq_true rfl, Nat.le_of_ble_eq_true rfl⟩ dX8_readsItem_112 ?_
                refine lv_i2l (v := ((m_mostOf (RA 0 (RN 35)) (nI i_51)).toInt64)) hx hb dX8_readsItem_115 rfl ?_
                refine k_rS (v := .int (m_in ((r_40.2.1 (((7 * (RN 3)) + 1) + i_51)).toInt64) ((m_leastOf (RA 0 (RN 35)) (nI i_51)).toInt64) ((m_mostOf (RA 0 (RN 35)) (nI i_51)).toInt64))) (As := [.long ((r_40.2.1 (((7 * (RN 3)) + 1) + i_51)).toInt64), .long ((m_leastOf (RA 0 (RN 35)) (nI i_51)).toInt64), .long ((m_mostOf (RA 0 (RN 35)) (nI i_51)).toInt64)]) (rest := []) hx hb hml hown hts hl.1 (B := fun _ => True) (fun _ _ _ _ q => q) (fun _ _ _ => trivial) (c_m_in ((r_40.2.1 (((7 * (RN 3)) + 1) + i_51)).toInt64) ((m_leastOf (RA 0 (RN 35)) (nI i_51)).toInt64) ((m_mostOf (RA 0 (RN 35)) (nI i_51)).toInt64)) eX8_99 rfl rfl (Nat.le_of_ble_eq_true rfl) ⟨Nat.le_of_ble_eq_true rfl, Nat.le_of_ble_eq_true rfl⟩ ⟨rfl, rfl⟩ ⟨Nat.le_of_ble_eq_true rfl, Nat.le_of_ble_eq_true rfl⟩ dX8_readsItem_116 ?_
                refine lv_if_eq (tgt := 126) hx hb dX8_readsItem_119 (by decide) (fun c_42 => ?_) (fun c_42 => ?_)
                · refine lv_iconst (v := 0) hx hb dX8_readsItem_126 (by decide) ?_
                  refine lv_istore_n (lv' := [(3, .int 0), (0, .ref (ad 0)), (1, .int (RA 0 (RN 35))), (2, .int (m_numbersOf (RA 0 (RN 35)))), (4, .int (nI i_51))]) hx hb dX8_readsItem_127 rfl hl (by decide) rfl (fun ls hl => ?_)
                  refine lv_iinc (v := (nI (i_51 + 1))) (lv' := [(4, .int (nI (i_51 + 1))), (3, .int 0), (0, .ref (ad 0)), (1, .int (RA 0 (RN 35))), (2, .int (m_numbersOf (RA 0 (RN 35))))]) hx hb dX8_readsItem_128 hl (k := 4) rfl (nI_add _ _) (by decide) rfl (fun ls hl => ?_)
                  refine lv_goto (tgt := 51) hx hb dX8_readsItem_131 (by decide) ?_
                  have hL_51 : (m_readsItem_L51 RA RN (RA 0 (RN 35)) (n_51 + 1) i_51 x3_51 a2_51 n35_51) = (m_readsItem_L51 RA RN (RA 0 (RN 35)) n_51 (i_51 + 1) 0 r_40.2.1 r_40.2.2) := by subst hr_40; subst hr_38; rw [m_readsItem_L51.eq_2, if_neg c_33, if_neg c_34, if_neg c_39, if_neg c_41, if_pos c_42]
                  try rw [hL_51] at hk_51
                  exact ih_51 (i_51 + 1) 0 r_40.2.1 r_40.2.2 (by omega) _ _ _ hP hS (lv_sub hl [2, 3, 4, 1, 0] rfl) (by omega) hk_51
                · refine lv_iconst (v := 1) hx hb dX8_readsItem_122 (by decide) ?_
                  refine lv_goto (tgt := 127) hx hb dX8_readsItem_123 (by decide) ?_
                  refine lv_istore_n (lv' := [(3, .int 1), (0, .ref (ad 0)), (1, .int (RA 0 (RN 35))), (2, .int (m_numbersOf (RA 0 (RN 35)))), (4, .int (nI i_51))]) hx hb dX8_readsItem_127 rfl hl (by decide) rfl (fun ls hl => ?_)
                  refine lv_iinc (v := (nI (i_51 + 1))) (lv' := [(4, .int (nI (i_51 + 1))), (3, .int 1), (0, .ref (ad 0)), (1, .int (RA 0 (RN 35))), (2, .int (m_numbersOf (RA 0 (RN 35))))]) hx hb dX8_readsItem_128 hl (k := 4) rfl (nI_add _ _) (by decide) rfl (fun ls hl => ?_)
                  refine lv_goto (tgt := 51) hx hb dX8_readsItem_131 (by decide) ?_
                  have hL_51 : (m_readsItem_L51 RA RN (RA 0 (RN 35)) (n_51 + 1) i_51 x3_51 a2_51 n35_51) = (m_readsItem_L51 RA RN (RA 0 (RN 35)) n_51 (i_51 + 1) 1 r_40.2.1 r_40.2.2) := by subst hr_40; subst hr_38; rw [m_readsItem_L51.eq_2, if_neg c_33, if_neg c_34, if_neg c_39, if_neg c_41, if_neg c_42]
                  try rw [hL_51] at hk_51
                  exact ih_51 (i_51 + 1) 1 r_40.2.1 r_40.2.2 (by omega) _ _ _ hP hS (lv_sub hl [2, 3, 4, 1, 0] rfl) (by omega) hk_51
    exact loop_51 ((m_numbersOf (RA 0 (RN 35))).toNatClampNeg) 0 1 (upd (RA 2) (7 * (RN 3)) (RA 0 (RN 35))) ((RN 35) + 1) (by omega) _ _ _ hP hS (lv_sub hl [4, 3, 2, 1, 0] rfl) (by omega) (fun H locs ls hP hS hl hx_51a => rest_51 (m_readsItem_L51 RA RN (RA 0 (RN 35)) ((m_numbersOf (RA 0 (RN 35))).toNatClampNeg) 0 1 (upd (RA 2) (7 * (RN 3)) (RA 0 (RN 35))) ((RN 35) + 1)).1 (m_readsItem_L51 RA RN (RA 0 (RN 35)) ((m_numbersOf (RA 0 (RN 35))).toNatClampNeg) 0 1 (upd (RA 2) (7 * (RN 3)) (RA 0 (RN 35))) ((RN 35) + 1)).2.1 (m_readsItem_L51 RA RN (RA 0 (RN 35)) ((m_numbersOf (RA 0 (RN 35))).toNatClampNeg) 0 1 (upd (RA 2) (7 * (RN 3)) (RA 0 (RN 35))) ((RN 35) + 1)).2.2 _ _ _ hP hS hl hx_51a (by rw [m_readsItem, if_neg c_12]))
-- X8_told
def m_told_k5 (v3 : Int32) : Int32 := v3
def m_told_L5 (RA : Nat → Nat → Int32) (v1 : Int32) (v2 : Int32) : Nat → Nat → Int32 → Int32
  | 0, i, v3 => v3
  | n + 1, i, v3 => if (RA 2 (7 * i)) = v1 then (if v2 < 0 then m_told_L5 RA v1 v2 n (i + 1) (v3 + 1) else (if (RA 2 ((7 * i) + 1)) = v2 then m_told_L5 RA v1 v2 n (i + 1) (v3 + 1) else m_told_L5 RA v1 v2 n (i + 1) (v3 + 0))) else m_told_L5 RA v1 v2 n (i + 1) (v3 + 0)
def m_told (RA : Nat → Nat → Int32) (RN : Nat → Nat) (v1 : Int32) (v2 : Int32) : Int32 := m_told_k5 (m_told_L5 RA v1 v2 (RN 3) 0 0)
set_option maxHeartbeats 4000000 in
set_option maxRecDepth 100000 in
theorem c_m_told (hI : kInj ad 24) (v1 : Int32) (v2 : Int32) (him : RN 3 ≤ 170) : Met l yX8_told (.code yX8_told cX8_told 5 (some .int) :: kT) ({ frames := 0, cells := 0, slots := 0, locals := 0 } : Room) (va_Pc [.ref (ad 0), .int v1, .int v2] (kB (dC, dI) [(cI, .int)] (RWs cI ad RA RS RN RL))) (kR (some (.int (m_told RA RN v1 v2)))) 0 0 (fun _ => False) := by
  refine kMet (by decide) (fun p e s m args below meth c ls hx hb hr hml hts hown hlocks hname hargs hB hl => ?_) (Nat.le_of_ble_eq_true rfl)
  obtain ⟨hP, hK, hN⟩ := hB
  have hl : lv_has ls 5 [(0, .ref (ad 0)), (1, .int v1), (2, .int v2)] := hl
  refine lv_iconst (v := 0) hx hb dX8_told_0 (by decide) ?_
  refine lv_istore_n (lv' := [(3, .int 0), (0, .ref (ad 0)), (1, .int v1), (2, .int v2)]) hx hb dX8_told_1 rfl hl (by decide) rfl (fun ls hl => ?_)
  refine lv_iconst (v := 0) hx hb dX8_told_2 (by decide) ?_
  refine lv_istore (lv' := [(4, .int 0), (3, .int 0), (0, .ref (ad 0)), (1, .int v1), (2, .int v2)]) hx hb dX8_told_3 hl (by decide) rfl (fun ls hl => ?_)
  have rest_5 : ∀ (x3_5 : Int32), ∀ (ls : Array Slot), lv_has ls 5 [(3, .int x3_5)] → (m_told RA RN v1 v2) = m_told_k5 x3_5 → W p l e ({ frames := 0, cells := 0, slots := 0, locals := 0 } : Room) s m args below meth c s.heap [] 0 0 (MQ below (kR (some (.int (m_told RA RN v1 v2)))) args s 0 0 (fun _ => False)) (F0 m 62 ls []) := by
    intro x3_5 ls hl  hF_5
    refine lv_iload_n hx hb dX8_told_62 rfl (lv_at hl 0 rfl) ?_
    have hE : (m_told RA RN v1 v2) = x3_5 := hF_5.trans (by rw [m_told_k5])
    exact W.iret (v := x3_5) hx hb hr (fun t ht hW => ⟨by rw [hE], ht⟩) (fun _ h => absurd h List.not_mem_nil) dX8_told_63 hlocks
  have loop_5 : ∀ (n_5 i_5 : Nat) (x3_5 : Int32), i_5 + n_5 = (RN 3) → ∀ (ls : Array Slot), lv_has ls 5 [(0, .ref (ad 0)), (1, .int v1), (2, .int v2), (3, .int x3_5), (4, .int (nI i_5))] → (∀ (ls : Array Slot), lv_has ls 5 [(3, .int (m_told_L5 RA v1 v2 n_5 i_5 x3_5))] → W p l e ({ frames := 0, cells := 0, slots := 0, locals := 0 } : Room) s m args below meth c s.heap [] 0 0 (MQ below (kR (some (.int (m_told RA RN v1 v2)))) args s 0 0 (fun _ => False)) (F0 m 62 ls [])) → W p l e ({ frames := 0, cells := 0, slots := 0, locals := 0 } : Room) s m args below meth c s.heap [] 0 0 (MQ below (kR (some (.int (m_told RA RN v1 v2)))) args s 0 0 (fun _ => False)) (F0 m 5 ls []) := by
    intro n_5
    induction n_5 with
    | zero =>
      intro i_5 x3_5 hin_5 ls hl  hk_5
      refine lv_iload hx hb dX8_told_5 (lv_at hl 4 rfl) ?_
      refine lv_aload_n hx hb dX8_told_7 rfl (lv_at hl 0 rfl) ?_
      refine m_get (v := .int (nI (RN 3))) hx hb hts hown hK hP 3 (by decide) rfl kX8_111 rfl dX8_told_8 ?_
      refine lv_icmp_ge (tgt := 62) hx hb dX8_told_11 (by decide) (fun _ => ?_) (fun c_5 => absurd (kct_ge (N := (RN 3)) (nI_clamp (by omega)) (by omega) (by omega)) c_5)
      have hL_5 : (m_told_L5 RA v1 v2 0 i_5 x3_5) = x3_5 := by rw [m_told_L5.eq_1]
      try rw [hL_5] at hk_5
      exact hk_5 _ (lv_sub hl [3] rfl) 
    | succ n_5 ih_5 =>
      intro i_5 x3_5 hin_5 ls hl  hk_5
      refine lv_iload hx hb dX8_told_5 (lv_at hl 4 rfl) ?_
      refine lv_aload_n hx hb dX8_told_7 rfl (lv_at hl 0 rfl) ?_
      refine m_get (v := .int (nI (RN 3))) hx hb hts hown hK hP 3 (by decide) rfl kX8_111 rfl dX8_told_8 ?_
      refine lv_icmp_ge (tgt := 62) hx hb dX8_told_11 (by decide) (fun c_6 => absurd c_6 (kct_lt (N := (RN 3)) (nI_clamp (by omega)) (by omega))) (fun _ => ?_)
      refine lv_iload_n hx hb dX8_told_14 rfl (lv_at hl 3 rfl) ?_
      refine lv_aload_n hx hb dX8_told_15 rfl (lv_at hl 0 rfl) ?_
      refine m_get (v := .ref (ad 2)) hx hb hts hown hK hP 2 (by decide) rfl kX8_13 rfl dX8_told_16 ?_
      refine lv_bipush (v := 7) hx hb dX8_told_19 (by decide) ?_
      refine lv_iload hx hb dX8_told_21 (lv_at hl 4 rfl) ?_
      refine kn_imul hx hb 7 i_5 rfl rfl dX8_told_23 ?_
      refine kn_iald (f := (RA 2)) (v := (RA 2 (7 * i_5))) hx hb hK hP 2 rfl (7 * i_5) rfl (by omega) (by omega) rfl dX8_told_24 ?_
      refine lv_iload_n hx hb dX8_told_25 rfl (lv_at hl 1 rfl) ?_
      refine lv_icmp_ne (tgt := 53) hx hb dX8_told_26 (by decide) (fun c_7 => ?_) (fun c_7 => ?_)
      · refine lv_iconst (v := 0) hx hb dX8_told_53 (by decide) ?_
        refine lv_iadd hx hb dX8_told_54 ?_
        refine lv_istore_n (lv' := [(3, .int (x3_5 + 0)), (0, .ref (ad 0)), (1, .int v1), (2, .int v2), (4, .int (nI i_5))]) hx hb dX8_told_55 rfl hl (by decide) rfl (fun ls hl => ?_)
        refine lv_iinc (v := (nI (i_5 + 1))) (lv' := [(4, .int (nI (i_5 + 1))), (3, .int (x3_5 + 0)), (0, .ref (ad 0)), (1, .int v1), (2, .int v2)]) hx hb dX8_told_56 hl (k := 4) rfl (nI_add _ _) (by decide) rfl (fun ls hl => ?_)
        refine lv_goto (tgt := 5) hx hb dX8_told_59 (by decide) ?_
        have hL_5 : (m_told_L5 RA v1 v2 (n_5 + 1) i_5 x3_5) = (m_told_L5 RA v1 v2 n_5 (i_5 + 1) (x3_5 + 0)) := by rw [m_told_L5.eq_2, if_neg c_7]
        try rw [hL_5] at hk_5
        exact ih_5 (i_5 + 1) (x3_5 + 0) (by omega) _ (lv_sub hl [2, 3, 4, 1, 0] rfl)  hk_5
      · refine lv_iload_n hx hb dX8_told_29 rfl (lv_at hl 2 rfl) ?_
        refine lv_if_lt (tgt := 49) hx hb dX8_told_30 (by decide) (fun c_8 => ?_) (fun c_8 => ?_)
        · refine lv_iconst (v := 1) hx hb dX8_told_49 (by decide) ?_
          refine lv_goto (tgt := 54) hx hb dX8_told_50 (by decide) ?_
          refine lv_iadd hx hb dX8_told_54 ?_
          refine lv_istore_n (lv' := [(3, .int (x3_5 + 1)), (0, .ref (ad 0)), (1, .int v1), (2, .int v2), (4, .int (nI i_5))]) hx hb dX8_told_55 rfl hl (by decide) rfl (fun ls hl => ?_)
          refine lv_iinc (v := (nI (i_5 + 1))) (lv' := [(4, .int (nI (i_5 + 1))), (3, .int (x3_5 + 1)), (0, .ref (ad 0)), (1, .int v1), (2, .int v2)]) hx hb dX8_told_56 hl (k := 4) rfl (nI_add _ _) (by decide) rfl (fun ls hl => ?_)
          refine lv_goto (tgt := 5) hx hb dX8_told_59 (by decide) ?_
          have hL_5 : (m_told_L5 RA v1 v2 (n_5 + 1) i_5 x3_5) = (m_told_L5 RA v1 v2 n_5 (i_5 + 1) (x3_5 + 1)) := by rw [m_told_L5.eq_2, if_pos c_7, if_pos c_8]
          try rw [hL_5] at hk_5
          exact ih_5 (i_5 + 1) (x3_5 + 1) (by omega) _ (lv_sub hl [2, 3, 4, 1, 0] rfl)  hk_5
        · refine lv_aload_n hx hb dX8_told_33 rfl (lv_at hl 0 rfl) ?_
          refine m_get (v := .ref (ad 2)) hx hb hts hown hK hP 2 (by decide) rfl kX8_13 rfl dX8_told_34 ?_
          refine lv_bipush (v := 7) hx hb dX8_told_37 (by decide) ?_
          refine lv_iload hx hb dX8_told_39 (lv_at hl 4 rfl) ?_
          refine kn_imul hx hb 7 i_5 rfl rfl dX8_told_41 ?_
          refine lv_iconst (v := 1) hx hb dX8_told_42 (by decide) ?_
          refine kn_iadd hx hb (7 * i_5) 1 rfl rfl dX8_told_43 ?_
          refine kn_iald (f := (RA 2)) (v := (RA 2 ((7 * i_5) + 1))) hx hb hK hP 2 rfl ((7 * i_5) + 1) rfl (by omega) (by omega) rfl dX8_told_44 ?_
          refine lv_iload_n hx hb dX8_told_45 rfl (lv_at hl 2 rfl) ?_
          refine lv_icmp_ne (tgt := 53) hx hb dX8_told_46 (by decide) (fun c_9 => ?_) (fun c_9 => ?_)
          · refine lv_iconst (v := 0) hx hb dX8_told_53 (by decide) ?_
            refine lv_iadd hx hb dX8_told_54 ?_
            refine lv_istore_n (lv' := [(3, .int (x3_5 + 0)), (0, .ref (ad 0)), (1, .int v1), (2, .int v2), (4, .int (nI i_5))]) hx hb dX8_told_55 rfl hl (by decide) rfl (fun ls hl => ?_)
            refine lv_iinc (v := (nI (i_5 + 1))) (lv' := [(4, .int (nI (i_5 + 1))), (3, .int (x3_5 + 0)), (0, .ref (ad 0)), (1, .int v1), (2, .int v2)]) hx hb dX8_told_56 hl (k := 4) rfl (nI_add _ _) (by decide) rfl (fun ls hl => ?_)
            refine lv_goto (tgt := 5) hx hb dX8_told_59 (by decide) ?_
            have hL_5 : (m_told_L5 RA v1 v2 (n_5 + 1) i_5 x3_5) = (m_told_L5 RA v1 v2 n_5 (i_5 + 1) (x3_5 + 0)) := by rw [m_told_L5.eq_2, if_pos c_7, if_neg c_8, if_neg c_9]
            try rw [hL_5] at hk_5
            exact ih_5 (i_5 + 1) (x3_5 + 0) (by omega) _ (lv_sub hl [2, 3, 4, 1, 0] rfl)  hk_5
          · refine lv_iconst (v := 1) hx hb dX8_told_49 (by decide) ?_
            refine lv_goto (tgt := 54) hx hb dX8_told_50 (by decide) ?_
            refine lv_iadd hx hb dX8_told_54 ?_
            refine lv_istore_n (lv' := [(3, .int (x3_5 + 1)), (0, .ref (ad 0)), (1, .int v1), (2, .int v2), (4, .int (nI i_5))]) hx hb dX8_told_55 rfl hl (by decide) rfl (fun ls hl => ?_)
            refine lv_iinc (v := (nI (i_5 + 1))) (lv' := [(4, .int (nI (i_5 + 1))), (3, .int (x3_5 + 1)), (0, .ref (ad 0)), (1, .int v1), (2, .int v2)]) hx hb dX8_told_56 hl (k := 4) rfl (nI_add _ _) (by decide) rfl (fun ls hl => ?_)
            refine lv_goto (tgt := 5) hx hb dX8_told_59 (by decide) ?_
            have hL_5 : (m_told_L5 RA v1 v2 (n_5 + 1) i_5 x3_5) = (m_told_L5 RA v1 v2 n_5 (i_5 + 1) (x3_5 + 1)) := by rw [m_told_L5.eq_2, if_pos c_7, if_neg c_8, if_pos c_9]
            try rw [hL_5] at hk_5
            exact ih_5 (i_5 + 1) (x3_5 + 1) (by omega) _ (lv_sub hl [2, 3, 4, 1, 0] rfl)  hk_5
  exact loop_5 (RN 3) 0 0 (by omega) _ (lv_sub hl [2, 3, 4, 1, 0] rfl)  (fun ls hl  => rest_5 (m_told_L5 RA v1 v2 (RN 3) 0 0) _ hl  (by rw [m_told]))
-- X8_fits
def m_fits (RA : Nat → Nat → Int32) (RN : Nat → Nat) : Int32 := if (RA 2 (7 * (RN 3))) = 98 then (if (m_told RA RN 114 (-4)) ≤ (RA 2 ((7 * (RN 3)) + 1)) then 0 else (if (m_told RA RN 98 (RA 2 ((7 * (RN 3)) + 1))) = 4 then 0 else 1)) else (if (RA 2 (7 * (RN 3))) = 112 then (if (m_told RA RN 114 (-4)) ≤ (RA 2 ((7 * (RN 3)) + 1)) then 0 else 1) else (if (RA 2 (7 * (RN 3))) = 99 then (if (((RA 2 ((7 * (RN 3)) + 2)) + (RA 2 (((7 * (RN 3)) + 2) + 1))) + (RA 2 (((7 * (RN 3)) + 2) + 2))) = 10 then 1 else 0) else (if (RA 2 (7 * (RN 3))) = 114 then (if (m_told RA RN 114 (-4)) = 8 then 0 else 1) else 1)))
set_option maxHeartbeats 4000000 in
set_option maxRecDepth 100000 in
theorem c_m_fits (hI : kInj ad 24) (him : RN 3 ≤ 170) : Met l yX8_fits (.code yX8_fits cX8_fits 6 (some .boolean) :: kT) ({ frames := 1, cells := 0, slots := 0, locals := 24 } : Room) (va_Pc [.ref (ad 0)] (kB (dC, dI) [(cI, .int)] (RWs cI ad RA RS RN RL))) (kR (some (.int (m_fits RA RN)))) 0 0 (fun _ => False) := by
  refine kMet (by decide) (fun p e s m args below meth c ls hx hb hr hml hts hown hlocks hname hargs hB hl => ?_) (Nat.le_of_ble_eq_true rfl)
  obtain ⟨hP, hK, hN⟩ := hB
  have hl : lv_has ls 6 [(0, .ref (ad 0))] := hl
  refine lv_aload_n hx hb dX8_fits_0 rfl (lv_at hl 0 rfl) ?_
  refine m_get (v := .ref (ad 2)) hx hb hts hown hK hP 2 (by decide) rfl kX8_13 rfl dX8_fits_1 ?_
  refine lv_bipush (v := 7) hx hb dX8_fits_4 (by decide) ?_
  refine lv_aload_n hx hb dX8_fits_6 rfl (lv_at hl 0 rfl) ?_
  refine m_get (v := .int (nI (RN 3))) hx hb hts hown hK hP 3 (by decide) rfl kX8_111 rfl dX8_fits_7 ?_
  refine kn_imul hx hb 7 (RN 3) rfl rfl dX8_fits_10 ?_
  refine kn_iald (f := (RA 2)) (v := (RA 2 (7 * (RN 3)))) hx hb hK hP 2 rfl (7 * (RN 3)) rfl (by omega) (by omega) rfl dX8_fits_11 ?_
  refine lv_istore_n (lv' := [(1, .int (RA 2 (7 * (RN 3)))), (0, .ref (ad 0))]) hx hb dX8_fits_12 rfl hl (by decide) rfl (fun ls hl => ?_)
  refine lv_aload_n hx hb dX8_fits_13 rfl (lv_at hl 1 rfl) ?_
  refine m_get (v := .ref (ad 2)) hx hb hts hown hK hP 2 (by decide) rfl kX8_13 rfl dX8_fits_14 ?_
  refine lv_bipush (v := 7) hx hb dX8_fits_17 (by decide) ?_
  refine lv_aload_n hx hb dX8_fits_19 rfl (lv_at hl 1 rfl) ?_
  refine m_get (v := .int (nI (RN 3))) hx hb hts hown hK hP 3 (by decide) rfl kX8_111 rfl dX8_fits_20 ?_
  refine kn_imul hx hb 7 (RN 3) rfl rfl dX8_fits_23 ?_
  refine lv_iconst (v := 1) hx hb dX8_fits_24 (by decide) ?_
  refine kn_iadd hx hb (7 * (RN 3)) 1 rfl rfl dX8_fits_25 ?_
  refine kn_iald (f := (RA 2)) (v := (RA 2 ((7 * (RN 3)) + 1))) hx hb hK hP 2 rfl ((7 * (RN 3)) + 1) rfl (by omega) (by omega) rfl dX8_fits_26 ?_
  refine lv_istore_n (lv' := [(2, .int (RA 2 ((7 * (RN 3)) + 1))), (1, .int (RA 2 (7 * (RN 3)))), (0, .ref (ad 0))]) hx hb dX8_fits_27 rfl hl (by decide) rfl (fun ls hl => ?_)
  refine lv_iload_n hx hb dX8_fits_28 rfl (lv_at hl 1 rfl) ?_
  refine lv_bipush (v := 98) hx hb dX8_fits_29 (by decide) ?_
  refine lv_icmp_eq (tgt := 40) hx hb dX8_fits_31 (by decide) (fun c_30 => ?_) (fun c_30 => ?_)
  · refine lv_iconst (v := 1) hx hb dX8_fits_40 (by decide) ?_
    refine lv_goto (tgt := 45) hx hb dX8_fits_41 (by decide) ?_
    refine lv_istore_n (lv' := [(3, .int 1), (2, .int (RA 2 ((7 * (RN 3)) + 1))), (1, .int (RA 2 (7 * (RN 3)))), (0, .ref (ad 0))]) hx hb dX8_fits_45 rfl hl (by decide) rfl (fun ls hl => ?_)
    refine lv_bipush (v := 7) hx hb dX8_fits_46 (by decide) ?_
    refine lv_aload_n hx hb dX8_fits_48 rfl (lv_at hl 3 rfl) ?_
    refine m_get (v := .int (nI (RN 3))) hx hb hts hown hK hP 3 (by decide) rfl kX8_111 rfl dX8_fits_49 ?_
    refine kn_imul hx hb 7 (RN 3) rfl rfl dX8_fits_52 ?_
    refine lv_iconst (v := 2) hx hb dX8_fits_53 (by decide) ?_
    refine kn_iadd hx hb (7 * (RN 3)) 2 rfl rfl dX8_fits_54 ?_
    refine lv_istore (lv' := [(4, .int (nI ((7 * (RN 3)) + 2))), (3, .int 1), (2, .int (RA 2 ((7 * (RN 3)) + 1))), (1, .int (RA 2 (7 * (RN 3)))), (0, .ref (ad 0))]) hx hb dX8_fits_55 hl (by decide) rfl (fun ls hl => ?_)
    refine lv_iload_n hx hb dX8_fits_57 rfl (lv_at hl 3 rfl) ?_
    refine lv_bipush (v := 99) hx hb dX8_fits_58 (by decide) ?_
    refine lv_icmp_ne (tgt := 95) hx hb dX8_fits_60 (by decide) (fun _ => ?_) (fun c_31 => absurd c_31 (by rw [c_30]; decide))
    refine lv_iconst (v := 1) hx hb dX8_fits_95 (by decide) ?_
    refine lv_goto (tgt := 100) hx hb dX8_fits_96 (by decide) ?_
    refine lv_istore (lv' := [(5, .int 1), (4, .int (nI ((7 * (RN 3)) + 2))), (3, .int 1), (2, .int (RA 2 ((7 * (RN 3)) + 1))), (1, .int (RA 2 (7 * (RN 3)))), (0, .ref (ad 0))]) hx hb dX8_fits_100 hl (by decide) rfl (fun ls hl => ?_)
    refine lv_iload hx hb dX8_fits_102 (lv_at hl 0 rfl) ?_
    refine lv_if_eq (tgt := 163) hx hb dX8_fits_104 (by decide) (fun c_32 => absurd c_32 (by decide)) (fun _ => ?_)
    refine lv_iload_n hx hb dX8_fits_107 rfl (lv_at hl 4 rfl) ?_
    refine lv_bipush (v := 114) hx hb dX8_fits_108 (by decide) ?_
    refine lv_icmp_ne (tgt := 126) hx hb dX8_fits_110 (by decide) (fun _ => ?_) (fun c_33 => absurd c_33 (by rw [c_30]; decide))
    refine lv_iload_n hx hb dX8_fits_126 rfl (lv_at hl 2 rfl) ?_
    refine lv_if_eq (tgt := 142) hx hb dX8_fits_127 (by decide) (fun c_34 => absurd c_34 (by decide)) (fun _ => ?_)
    refine lv_iload_n hx hb dX8_fits_130 rfl (lv_at hl 3 rfl) ?_
    refine lv_aload_n hx hb dX8_fits_131 rfl (lv_at hl 5 rfl) ?_
    refine lv_bipush (v := 114) hx hb dX8_fits_132 (by decide) ?_
    refine lv_bipush (v := (-4)) hx hb dX8_fits_134 (by decide) ?_
    refine k_rV (v := .int (m_told RA RN 114 (-4))) (As := [.int 114, .int (-4)]) (rest := [.int (RA 2 ((7 * (RN 3)) + 1))]) hx hb hml hown hts hl.1 hP hK hN (c_m_told hI 114 (-4) (show (RN 3) ≤ 170 by omega)) eX8_132 (ci := 7) (q0 := 0) rfl rfl rfl rfl rfl (Nat.le_of_ble_eq_true rfl) ⟨Nat.le_of_ble_eq_true rfl, Nat.le_of_ble_eq_true rfl⟩ ⟨rfl, rfl⟩ ⟨Nat.le_of_ble_eq_true rfl, Nat.le_of_ble_eq_true rfl⟩ dX8_fits_136 ?_
    refine lv_icmp_ge (tgt := 163) hx hb dX8_fits_139 (by decide) (fun c_35 => ?_) (fun c_35 => ?_)
    · refine lv_iconst (v := 0) hx hb dX8_fits_163 (by decide) ?_
      have hE : (m_fits RA RN) = 0 := by rw [m_fits, if_pos c_30, if_pos c_35]
      exact W.zret (v := 0) hx hb hr rfl (fun t ht hW => ⟨by rw [hE], ht⟩) (fun _ h => absurd h List.not_mem_nil) dX8_fits_164 hlocks
    · refine lv_iload_n hx hb dX8_fits_142 rfl (lv_at hl 4 rfl) ?_
      refine lv_bipush (v := 98) hx hb dX8_fits_143 (by decide) ?_
      refine lv_icmp_ne (tgt := 159) hx hb dX8_fits_145 (by decide) (fun c_36 => absurd c_30 c_36) (fun _ => ?_)
      refine lv_aload_n hx hb dX8_fits_148 rfl (lv_at hl 5 rfl) ?_
      refine lv_bipush (v := 98) hx hb dX8_fits_149 (by decide) ?_
      refine lv_iload_n hx hb dX8_fits_151 rfl (lv_at hl 3 rfl) ?_
      refine k_rV (v := .int (m_told RA RN 98 (RA 2 ((7 * (RN 3)) + 1)))) (As := [.int 98, .int (RA 2 ((7 * (RN 3)) + 1))]) (rest := []) hx hb hml hown hts hl.1 hP hK hN (c_m_told hI 98 (RA 2 ((7 * (RN 3)) + 1)) (show (RN 3) ≤ 170 by omega)) eX8_132 (ci := 7) (q0 := 0) rfl rfl rfl rfl rfl (Nat.le_of_ble_eq_true rfl) ⟨Nat.le_of_ble_eq_true rfl, Nat.le_of_ble_eq_true rfl⟩ ⟨rfl, rfl⟩ ⟨Nat.le_of_ble_eq_true rfl, Nat.le_of_ble_eq_true rfl⟩ dX8_fits_152 ?_
      refine lv_iconst (v := 4) hx hb dX8_fits_155 (by decide) ?_
      refine lv_icmp_eq (tgt := 163) hx hb dX8_fits_156 (by decide) (fun c_37 => ?_) (fun c_37 => ?_)
      · refine lv_iconst (v := 0) hx hb dX8_fits_163 (by decide) ?_
        have hE : (m_fits RA RN) = 0 := by rw [m_fits, if_pos c_30, if_neg c_35, if_pos c_37]
        exact W.zret (v := 0) hx hb hr rfl (fun t ht hW => ⟨by rw [hE], ht⟩) (fun _ h => absurd h List.not_mem_nil) dX8_fits_164 hlocks
      · refine lv_iconst (v := 1) hx hb dX8_fits_159 (by decide) ?_
        refine lv_goto (tgt := 164) hx hb dX8_fits_160 (by decide) ?_
        have hE : (m_fits RA RN) = 1 := by rw [m_fits, if_pos c_30, if_neg c_35, if_neg c_37]
        exact W.zret (v := 1) hx hb hr rfl (fun t ht hW => ⟨by rw [hE], ht⟩) (fun _ h => absurd h List.not_mem_nil) dX8_fits_164 hlocks
  · refine lv_iload_n hx hb dX8_fits_34 rfl (lv_at hl 1 rfl) ?_
    refine lv_bipush (v := 112) hx hb dX8_fits_35 (by decide) ?_
    refine lv_icmp_ne (tgt := 44) hx hb dX8_fits_37 (by decide) (fun c_38 => ?_) (fun c_38 => ?_)
    · refine lv_iconst (v := 0) hx hb dX8_fits_44 (by decide) ?_
      refine lv_istore_n (lv' := [(3, .int 0), (2, .int (RA 2 ((7 * (RN 3)) + 1))), (1, .int (RA 2 (7 * (RN 3)))), (0, .ref (ad 0))]) hx hb dX8_fits_45 rfl hl (by decide) rfl (fun ls hl => ?_)
      refine lv_bipush (v := 7) hx hb dX8_fits_46 (by decide) ?_
      refine lv_aload_n hx hb dX8_fits_48 rfl (lv_at hl 3 rfl) ?_
      refine m_get (v := .int (nI (RN 3))) hx hb hts hown hK hP 3 (by decide) rfl kX8_111 rfl dX8_fits_49 ?_
      refine kn_imul hx hb 7 (RN 3) rfl rfl dX8_fits_52 ?_
      refine lv_iconst (v := 2) hx hb dX8_fits_53 (by decide) ?_
      refine kn_iadd hx hb (7 * (RN 3)) 2 rfl rfl dX8_fits_54 ?_
      refine lv_istore (lv' := [(4, .int (nI ((7 * (RN 3)) + 2))), (3, .int 0), (2, .int (RA 2 ((7 * (RN 3)) + 1))), (1, .int (RA 2 (7 * (RN 3)))), (0, .ref (ad 0))]) hx hb dX8_fits_55 hl (by decide) rfl (fun ls hl => ?_)
      refine lv_iload_n hx hb dX8_fits_57 rfl (lv_at hl 3 rfl) ?_
      refine lv_bipush (v := 99) hx hb dX8_fits_58 (by decide) ?_
      refine lv_icmp_ne (tgt := 95) hx hb dX8_fits_60 (by decide) (fun c_39 => ?_) (fun c_39 => ?_)
      · refine lv_iconst (v := 1) hx hb dX8_fits_95 (by decide) ?_
        refine lv_goto (tgt := 100) hx hb dX8_fits_96 (by decide) ?_
        refine lv_istore (lv' := [(5, .int 1), (4, .int (nI ((7 * (RN 3)) + 2))), (3, .int 0), (2, .int (RA 2 ((7 * (RN 3)) + 1))), (1, .int (RA 2 (7 * (RN 3)))), (0, .ref (ad 0))]) hx hb dX8_fits_100 hl (by decide) rfl (fun ls hl => ?_)
        refine lv_iload hx hb dX8_fits_102 (lv_at hl 0 rfl) ?_
        refine lv_if_eq (tgt := 163) hx hb dX8_fits_104 (by decide) (fun c_40 => absurd c_40 (by decide)) (fun _ => ?_)
        refine lv_iload_n hx hb dX8_fits_107 rfl (lv_at hl 4 rfl) ?_
        refine lv_bipush (v := 114) hx hb dX8_fits_108 (by decide) ?_
        refine lv_icmp_ne (tgt := 126) hx hb dX8_fits_110 (by decide) (fun c_41 => ?_) (fun c_41 => ?_)
        · refine lv_iload_n hx hb dX8_fits_126 rfl (lv_at hl 2 rfl) ?_
          refine lv_if_eq (tgt := 142) hx hb dX8_fits_127 (by decide) (fun _ => ?_) (fun c_42 => absurd (by decide) c_42)
          refine lv_iload_n hx hb dX8_fits_142 rfl (lv_at hl 4 rfl) ?_
          refine lv_bipush (v := 98) hx hb dX8_fits_143 (by decide) ?_
          refine lv_icmp_ne (tgt := 159) hx hb dX8_fits_145 (by decide) (fun _ => ?_) (fun c_43 => absurd c_43 c_30)
          refine lv_iconst (v := 1) hx hb dX8_fits_159 (by decide) ?_
          refine lv_goto (tgt := 164) hx hb dX8_fits_160 (by decide) ?_
          have hE : (m_fits RA RN) = 1 := by rw [m_fits, if_neg c_30, if_neg c_38, if_neg c_39, if_neg c_41]
          exact W.zret (v := 1) hx hb hr rfl (fun t ht hW => ⟨by rw [hE], ht⟩) (fun _ h => absurd h List.not_mem_nil) dX8_fits_164 hlocks
        · refine lv_aload_n hx hb dX8_fits_113 rfl (lv_at hl 5 rfl) ?_
          refine lv_bipush (v := 114) hx hb dX8_fits_114 (by decide) ?_
          refine lv_bipush (v := (-4)) hx hb dX8_fits_116 (by decide) ?_
          refine k_rV (v := .int (m_told RA RN 114 (-4))) (As := [.int 114, .int (-4)]) (rest := []) hx hb hml hown hts hl.1 hP hK hN (c_m_told hI 114 (-4) (show (RN 3) ≤ 170 by omega)) eX8_132 (ci := 7) (q0 := 0) rfl rfl rfl rfl rfl (Nat.le_of_ble_eq_true rfl) ⟨Nat.le_of_ble_eq_true rfl, Nat.le_of_ble_eq_true rfl⟩ ⟨rfl, rfl⟩ ⟨Nat.le_of_ble_eq_true rfl, Nat.le_of_ble_eq_true rfl⟩ dX8_fits_118 ?_
          refine lv_bipush (v := 8) hx hb dX8_fits_121 (by decide) ?_
          refine lv_icmp_eq (tgt := 163) hx hb dX8_fits_123 (by decide) (fun c_44 => ?_) (fun c_44 => ?_)
          · refine lv_iconst (v := 0) hx hb dX8_fits_163 (by decide) ?_
            have hE : (m_fits RA RN) = 0 := by rw [m_fits, if_neg c_30, if_neg c_38, if_neg c_39, if_pos c_41, if_pos c_44]
            exact W.zret (v := 0) hx hb hr rfl (fun t ht hW => ⟨by rw [hE], ht⟩) (fun _ h => absurd h List.not_mem_nil) dX8_fits_164 hlocks
          · refine lv_iload_n hx hb dX8_fits_126 rfl (lv_at hl 2 rfl) ?_
            refine lv_if_eq (tgt := 142) hx hb dX8_fits_127 (by decide) (fun _ => ?_) (fun c_45 => absurd (by decide) c_45)
            refine lv_iload_n hx hb dX8_fits_142 rfl (lv_at hl 4 rfl) ?_
            refine lv_bipush (v := 98) hx hb dX8_fits_143 (by decide) ?_
            refine lv_icmp_ne (tgt := 159) hx hb dX8_fits_145 (by decide) (fun _ => ?_) (fun c_46 => absurd c_46 c_30)
            refine lv_iconst (v := 1) hx hb dX8_fits_159 (by decide) ?_
            refine lv_goto (tgt := 164) hx hb dX8_fits_160 (by decide) ?_
            have hE : (m_fits RA RN) = 1 := by rw [m_fits, if_neg c_30, if_neg c_38, if_neg c_39, if_pos c_41, if_neg c_44]
            exact W.zret (v := 1) hx hb hr rfl (fun t ht hW => ⟨by rw [hE], ht⟩) (fun _ h => absurd h List.not_mem_nil) dX8_fits_164 hlocks
      · refine lv_aload_n hx hb dX8_fits_63 rfl (lv_at hl 4 rfl) ?_
        refine m_get (v := .ref (ad 2)) hx hb hts hown hK hP 2 (by decide) rfl kX8_13 rfl dX8_fits_64 ?_
        refine lv_iload hx hb dX8_fits_67 (lv_at hl 0 rfl) ?_
        refine kn_iald (f := (RA 2)) (v := (RA 2 ((7 * (RN 3)) + 2))) hx hb hK hP 2 rfl ((7 * (RN 3)) + 2) rfl (by omega) (by omega) rfl dX8_fits_69 ?_
        refine lv_aload_n hx hb dX8_fits_70 rfl (lv_at hl 4 rfl) ?_
        refine m_get (v := .ref (ad 2)) hx hb hts hown hK hP 2 (by decide) rfl kX8_13 rfl dX8_fits_71 ?_
        refine lv_iload hx hb dX8_fits_74 (lv_at hl 0 rfl) ?_
        refine lv_iconst (v := 1) hx hb dX8_fits_76 (by decide) ?_
        refine kn_iadd hx hb ((7 * (RN 3)) + 2) 1 rfl rfl dX8_fits_77 ?_
        refine kn_iald (f := (RA 2)) (v := (RA 2 (((7 * (RN 3)) + 2) + 1))) hx hb hK hP 2 rfl (((7 * (RN 3)) + 2) + 1) rfl (by omega) (by omega) rfl dX8_fits_78 ?_
        refine lv_iadd hx hb dX8_fits_79 ?_
        refine lv_aload_n hx hb dX8_fits_80 rfl (lv_at hl 4 rfl) ?_
        refine m_get (v := .ref (ad 2)) hx hb hts hown hK hP 2 (by decide) rfl kX8_13 rfl dX8_fits_81 ?_
        refine lv_iload hx hb dX8_fits_84 (lv_at hl 0 rfl) ?_
        refine lv_iconst (v := 2) hx hb dX8_fits_86 (by decide) ?_
        refine kn_iadd hx hb ((7 * (RN 3)) + 2) 2 rfl rfl dX8_fits_87 ?_
        refine kn_iald (f := (RA 2)) (v := (RA 2 (((7 * (RN 3)) + 2) + 2))) hx hb hK hP 2 rfl (((7 * (RN 3)) + 2) + 2) rfl (by omega) (by omega) rfl dX8_fits_88 ?_
        refine lv_iadd hx hb dX8_fits_89 ?_
        refine lv_bipush (v := 10) hx hb dX8_fits_90 (by decide) ?_
        refine lv_icmp_ne (tgt := 99) hx hb dX8_fits_92 (by decide) (fun c_47 => ?_) (fun c_47 => ?_)
        · refine lv_iconst (v := 0) hx hb dX8_fits_99 (by decide) ?_
          refine lv_istore (lv' := [(5, .int 0), (4, .int (nI ((7 * (RN 3)) + 2))), (3, .int 0), (2, .int (RA 2 ((7 * (RN 3)) + 1))), (1, .int (RA 2 (7 * (RN 3)))), (0, .ref (ad 0))]) hx hb dX8_fits_100 hl (by decide) rfl (fun ls hl => ?_)
          refine lv_iload hx hb dX8_fits_102 (lv_at hl 0 rfl) ?_
          refine lv_if_eq (tgt := 163) hx hb dX8_fits_104 (by decide) (fun _ => ?_) (fun c_48 => absurd (by decide) c_48)
          refine lv_iconst (v := 0) hx hb dX8_fits_163 (by decide) ?_
          have hE : (m_fits RA RN) = 0 := by rw [m_fits, if_neg c_30, if_neg c_38, if_pos c_39, if_neg c_47]
          exact W.zret (v := 0) hx hb hr rfl (fun t ht hW => ⟨by rw [hE], ht⟩) (fun _ h => absurd h List.not_mem_nil) dX8_fits_164 hlocks
        · refine lv_iconst (v := 1) hx hb dX8_fits_95 (by decide) ?_
          refine lv_goto (tgt := 100) hx hb dX8_fits_96 (by decide) ?_
          refine lv_istore (lv' := [(5, .int 1), (4, .int (nI ((7 * (RN 3)) + 2))), (3, .int 0), (2, .int (RA 2 ((7 * (RN 3)) + 1))), (1, .int (RA 2 (7 * (RN 3)))), (0, .ref (ad 0))]) hx hb dX8_fits_100 hl (by decide) rfl (fun ls hl => ?_)
          refine lv_iload hx hb dX8_fits_102 (lv_at hl 0 rfl) ?_
          refine lv_if_eq (tgt := 163) hx hb dX8_fits_104 (by decide) (fun c_49 => absurd c_49 (by decide)) (fun _ => ?_)
          refine lv_iload_n hx hb dX8_fits_107 rfl (lv_at hl 4 rfl) ?_
          refine lv_bipush (v := 114) hx hb dX8_fits_108 (by decide) ?_
          refine lv_icmp_ne (tgt := 126) hx hb dX8_fits_110 (by decide) (fun _ => ?_) (fun c_50 => absurd c_50 (by rw [c_39]; decide))
          refine lv_iload_n hx hb dX8_fits_126 rfl (lv_at hl 2 rfl) ?_
          refine lv_if_eq (tgt := 142) hx hb dX8_fits_127 (by decide) (fun _ => ?_) (fun c_51 => absurd (by decide) c_51)
          refine lv_iload_n hx hb dX8_fits_142 rfl (lv_at hl 4 rfl) ?_
          refine lv_bipush (v := 98) hx hb dX8_fits_143 (by decide) ?_
          refine lv_icmp_ne (tgt := 159) hx hb dX8_fits_145 (by decide) (fun _ => ?_) (fun c_52 => absurd c_52 c_30)
          refine lv_iconst (v := 1) hx hb dX8_fits_159 (by decide) ?_
          refine lv_goto (tgt := 164) hx hb dX8_fits_160 (by decide) ?_
          have hE : (m_fits RA RN) = 1 := by rw [m_fits, if_neg c_30, if_neg c_38, if_pos c_39, if_pos c_47]
          exact W.zret (v := 1) hx hb hr rfl (fun t ht hW => ⟨by rw [hE], ht⟩) (fun _ h => absurd h List.not_mem_nil) dX8_fits_164 hlocks
    · refine lv_iconst (v := 1) hx hb dX8_fits_40 (by decide) ?_
      refine lv_goto (tgt := 45) hx hb dX8_fits_41 (by decide) ?_
      refine lv_istore_n (lv' := [(3, .int 1), (2, .int (RA 2 ((7 * (RN 3)) + 1))), (1, .int (RA 2 (7 * (RN 3)))), (0, .ref (ad 0))]) hx hb dX8_fits_45 rfl hl (by decide) rfl (fun ls hl => ?_)
      refine lv_bipush (v := 7) hx hb dX8_fits_46 (by decide) ?_
      refine lv_aload_n hx hb dX8_fits_48 rfl (lv_at hl 3 rfl) ?_
      refine m_get (v := .int (nI (RN 3))) hx hb hts hown hK hP 3 (by decide) rfl kX8_111 rfl dX8_fits_49 ?_
      refine kn_imul hx hb 7 (RN 3) rfl rfl dX8_fits_52 ?_
      refine lv_iconst (v := 2) hx hb dX8_fits_53 (by decide) ?_
      refine kn_iadd hx hb (7 * (RN 3)) 2 rfl rfl dX8_fits_54 ?_
      refine lv_istore (lv' := [(4, .int (nI ((7 * (RN 3)) + 2))), (3, .int 1), (2, .int (RA 2 ((7 * (RN 3)) + 1))), (1, .int (RA 2 (7 * (RN 3)))), (0, .ref (ad 0))]) hx hb dX8_fits_55 hl (by decide) rfl (fun ls hl => ?_)
      refine lv_iload_n hx hb dX8_fits_57 rfl (lv_at hl 3 rfl) ?_
      refine lv_bipush (v := 99) hx hb dX8_fits_58 (by decide) ?_
      refine lv_icmp_ne (tgt := 95) hx hb dX8_fits_60 (by decide) (fun _ => ?_) (fun c_53 => absurd c_53 (by rw [c_38]; decide))
      refine lv_iconst (v := 1) hx hb dX8_fits_95 (by decide) ?_
      refine lv_goto (tgt := 100) hx hb dX8_fits_96 (by decide) ?_
      refine lv_istore (lv' := [(5, .int 1), (4, .int (nI ((7 * (RN 3)) + 2))), (3, .int 1), (2, .int (RA 2 ((7 * (RN 3)) + 1))), (1, .int (RA 2 (7 * (RN 3)))), (0, .ref (ad 0))]) hx hb dX8_fits_100 hl (by decide) rfl (fun ls hl => ?_)
      refine lv_iload hx hb dX8_fits_102 (lv_at hl 0 rfl) ?_
      refine lv_if_eq (tgt := 163) hx hb dX8_fits_104 (by decide) (fun c_54 => absurd c_54 (by decide)) (fun _ => ?_)
      refine lv_iload_n hx hb dX8_fits_107 rfl (lv_at hl 4 rfl) ?_
      refine lv_bipush (v := 114) hx hb dX8_fits_108 (by decide) ?_
      refine lv_icmp_ne (tgt := 126) hx hb dX8_fits_110 (by decide) (fun _ => ?_) (fun c_55 => absurd c_55 (by rw [c_38]; decide))
      refine lv_iload_n hx hb dX8_fits_126 rfl (lv_at hl 2 rfl) ?_
      refine lv_if_eq (tgt := 142) hx hb dX8_fits_127 (by decide) (fun c_56 => absurd c_56 (by decide)) (fun _ => ?_)
      refine lv_iload_n hx hb dX8_fits_130 rfl (lv_at hl 3 rfl) ?_
      refine lv_aload_n hx hb dX8_fits_131 rfl (lv_at hl 5 rfl) ?_
      refine lv_bipush (v := 114) hx hb dX8_fits_132 (by decide) ?_
      refine lv_bipush (v := (-4)) hx hb dX8_fits_134 (by decide) ?_
      refine k_rV (v := .int (m_told RA RN 114 (-4))) (As := [.int 114, .int (-4)]) (rest := [.int (RA 2 ((7 * (RN 3)) + 1))]) hx hb hml hown hts hl.1 hP hK hN (c_m_told hI 114 (-4) (show (RN 3) ≤ 170 by omega)) eX8_132 (ci := 7) (q0 := 0) rfl rfl rfl rfl rfl (Nat.le_of_ble_eq_true rfl) ⟨Nat.le_of_ble_eq_true rfl, Nat.le_of_ble_eq_true rfl⟩ ⟨rfl, rfl⟩ ⟨Nat.le_of_ble_eq_true rfl, Nat.le_of_ble_eq_true rfl⟩ dX8_fits_136 ?_
      refine lv_icmp_ge (tgt := 163) hx hb dX8_fits_139 (by decide) (fun c_57 => ?_) (fun c_57 => ?_)
      · refine lv_iconst (v := 0) hx hb dX8_fits_163 (by decide) ?_
        have hE : (m_fits RA RN) = 0 := by rw [m_fits, if_neg c_30, if_pos c_38, if_pos c_57]
        exact W.zret (v := 0) hx hb hr rfl (fun t ht hW => ⟨by rw [hE], ht⟩) (fun _ h => absurd h List.not_mem_nil) dX8_fits_164 hlocks
      · refine lv_iload_n hx hb dX8_fits_142 rfl (lv_at hl 4 rfl) ?_
        refine lv_bipush (v := 98) hx hb dX8_fits_143 (by decide) ?_
        refine lv_icmp_ne (tgt := 159) hx hb dX8_fits_145 (by decide) (fun _ => ?_) (fun c_58 => absurd c_58 c_30)
        refine lv_iconst (v := 1) hx hb dX8_fits_159 (by decide) ?_
        refine lv_goto (tgt := 164) hx hb dX8_fits_160 (by decide) ?_
        have hE : (m_fits RA RN) = 1 := by rw [m_fits, if_neg c_30, if_pos c_38, if_neg c_57]
        exact W.zret (v := 1) hx hb hr rfl (fun t ht hW => ⟨by rw [hE], ht⟩) (fun _ h => absurd h List.not_mem_nil) dX8_fits_164 hlocks
-- X8_roofBy
def m_roofBy (RA : Nat → Nat → Int32) (v1 : Nat) (v2 : Int32) (v3 : Int32) (v4 : Int32) (v5 : Int32) (v6 : Int32) : (Nat → Int32) × (Nat → Int32) × (Nat → Int32) × (Nat → Int32) := ((upd (RA 5) v1 v4), (upd (RA 6) v1 v5), (upd (RA 7) v1 v6), (upd (upd (RA 21) (2 * v1) v2) ((2 * v1) + 1) v3))
set_option maxHeartbeats 4000000 in
set_option maxRecDepth 100000 in
theorem c_m_roofBy (hI : kInj ad 24) (v1 : Nat) (v2 : Int32) (v3 : Int32) (v4 : Int32) (v5 : Int32) (v6 : Int32) (hi : v1 < 8) : Met l yX8_roofBy (.code yX8_roofBy cX8_roofBy 7 none :: kT) ({ frames := 0, cells := 0, slots := 0, locals := 0 } : Room) (va_Pc [.ref (ad 0), .int (nI v1), .int v2, .int v3, .int v4, .int v5, .int v6] (kB (dC, dI) [(cI, .int)] (RWs cI ad RA RS RN RL))) (kQ none (kB (dC, dI) [(cI, .int)] (RWs cI ad (va_up (va_up (va_up (va_up RA 5 ((m_roofBy RA v1 v2 v3 v4 v5 v6).1)) 6 ((m_roofBy RA v1 v2 v3 v4 v5 v6).2.1)) 7 ((m_roofBy RA v1 v2 v3 v4 v5 v6).2.2.1)) 21 ((m_roofBy RA v1 v2 v3 v4 v5 v6).2.2.2)) RS RN RL)) (kAA ad 24)) 0 0 (kAA ad 24) := by
  refine kMet (by decide) (fun p e s m args below meth c ls hx hb hr hml hts hown hlocks hname hargs hB hl => ?_) (Nat.le_of_ble_eq_true rfl)
  obtain ⟨hP, hK, hN⟩ := hB
  have hl : lv_has ls 7 [(0, .ref (ad 0)), (1, .int (nI v1)), (2, .int v2), (3, .int v3), (4, .int v4), (5, .int v5), (6, .int v6)] := hl
  have hS : va_S (kAA ad 24) s.heap s.heap [] := va_S.rf
  refine lv_aload_n hx hb dX8_roofBy_0 rfl (lv_at hl 0 rfl) ?_
  refine m_get (v := .ref (ad 13)) hx hb hts hown hK hP 21 (by decide) rfl kX8_46 rfl dX8_roofBy_1 ?_
  refine lv_iconst (v := 2) hx hb dX8_roofBy_4 (by decide) ?_
  refine lv_iload_n hx hb dX8_roofBy_5 rfl (lv_at hl 1 rfl) ?_
  refine kn_imul hx hb 2 v1 rfl rfl dX8_roofBy_6 ?_
  refine lv_iload_n hx hb dX8_roofBy_7 rfl (lv_at hl 2 rfl) ?_
  refine kn_iast (f := (RA 21)) (ws' := RWs cI ad (va_up RA 21 (upd (RA 21) (2 * v1) v2)) RS RN RL) hx hb hK hP (RWsD hI) hS 13 rfl (2 * v1) rfl (by omega) (by omega) rfl dX8_roofBy_8 (fun H locs hP hS => ?_)
  refine lv_aload_n hx hb dX8_roofBy_9 rfl (lv_at hl 0 rfl) ?_
  refine m_get (v := .ref (ad 13)) hx hb hts hown hK hP 21 (by decide) rfl kX8_46 rfl dX8_roofBy_10 ?_
  refine lv_iconst (v := 2) hx hb dX8_roofBy_13 (by decide) ?_
  refine lv_iload_n hx hb dX8_roofBy_14 rfl (lv_at hl 1 rfl) ?_
  refine kn_imul hx hb 2 v1 rfl rfl dX8_roofBy_15 ?_
  refine lv_iconst (v := 1) hx hb dX8_roofBy_16 (by decide) ?_
  refine kn_iadd hx hb (2 * v1) 1 rfl rfl dX8_roofBy_17 ?_
  refine lv_iload_n hx hb dX8_roofBy_18 rfl (lv_at hl 3 rfl) ?_
  refine kn_iast (f := (upd (RA 21) (2 * v1) v2)) (ws' := RWs cI ad (va_up RA 21 (upd (upd (RA 21) (2 * v1) v2) ((2 * v1) + 1) v3)) RS RN RL) hx hb hK hP (RWsD hI) hS 13 rfl ((2 * v1) + 1) rfl (by omega) (by omega) rfl dX8_roofBy_19 (fun H locs hP hS => ?_)
  refine lv_aload_n hx hb dX8_roofBy_20 rfl (lv_at hl 0 rfl) ?_
  refine m_get (v := .ref (ad 3)) hx hb hts hown hK hP 5 (by decide) rfl kX8_16 rfl dX8_roofBy_21 ?_
  refine lv_iload_n hx hb dX8_roofBy_24 rfl (lv_at hl 1 rfl) ?_
  refine lv_iload hx hb dX8_roofBy_25 (lv_at hl 4 rfl) ?_
  refine kn_iast (f := (RA 5)) (ws' := RWs cI ad (va_up (va_up RA 5 (upd (RA 5) v1 v4)) 21 (upd (upd (RA 21) (2 * v1) v2) ((2 * v1) + 1) v3)) RS RN RL) hx hb hK hP (RWsD hI) hS 3 rfl v1 rfl (by omega) (by omega) rfl dX8_roofBy_27 (fun H locs hP hS => ?_)
  refine lv_aload_n hx hb dX8_roofBy_28 rfl (lv_at hl 0 rfl) ?_
  refine m_get (v := .ref (ad 4)) hx hb hts hown hK hP 6 (by decide) rfl kX8_19 rfl dX8_roofBy_29 ?_
  refine lv_iload_n hx hb dX8_roofBy_32 rfl (lv_at hl 1 rfl) ?_
  refine lv_iload hx hb dX8_roofBy_33 (lv_at hl 5 rfl) ?_
  refine kn_iast (f := (RA 6)) (ws' := RWs cI ad (va_up (va_up (va_up RA 5 (upd (RA 5) v1 v4)) 6 (upd (RA 6) v1 v5)) 21 (upd (upd (RA 21) (2 * v1) v2) ((2 * v1) + 1) v3)) RS RN RL) hx hb hK hP (RWsD hI) hS 4 rfl v1 rfl (by omega) (by omega) rfl dX8_roofBy_35 (fun H locs hP hS => ?_)
  refine lv_aload_n hx hb dX8_roofBy_36 rfl (lv_at hl 0 rfl) ?_
  refine m_get (v := .ref (ad 5)) hx hb hts hown hK hP 7 (by decide) rfl kX8_22 rfl dX8_roofBy_37 ?_
  refine lv_iload_n hx hb dX8_roofBy_40 rfl (lv_at hl 1 rfl) ?_
  refine lv_iload hx hb dX8_roofBy_41 (lv_at hl 6 rfl) ?_
  refine kn_iast (f := (RA 7)) (ws' := RWs cI ad (va_up (va_up (va_up (va_up RA 5 (upd (RA 5) v1 v4)) 6 (upd (RA 6) v1 v5)) 7 (upd (RA 7) v1 v6)) 21 (upd (upd (RA 21) (2 * v1) v2) ((2 * v1) + 1) v3)) RS RN RL) hx hb hK hP (RWsD hI) hS 5 rfl v1 rfl (by omega) (by omega) rfl dX8_roofBy_43 (fun H locs hP hS => ?_)
  have hE : (m_roofBy RA v1 v2 v3 v4 v5 v6) = ((upd (RA 5) v1 v4), (upd (RA 6) v1 v5), (upd (RA 7) v1 v6), (upd (upd (RA 21) (2 * v1) v2) ((2 * v1) + 1) v3)) := by rw [m_roofBy]
  exact W.vret hx hb hr (fun t ht hW => ⟨rfl, by rw [hE]; exact kB.of (ws := RWs cI ad (va_up (va_up (va_up (va_up RA 5 (upd (RA 5) v1 v4)) 6 (upd (RA 6) v1 v5)) 7 (upd (RA 7) v1 v6)) 21 (upd (upd (RA 21) (2 * v1) v2) ((2 * v1) + 1) v3)) RS RN RL) hP hK hN ht hW, hS.F ht⟩) hS.2.2 dX8_roofBy_44 hlocks
-- X8_reset
def m_reset_k74 (a9 : Nat → Int32) (a12 : Nat → Int32) (a13 : Nat → Int32) (a14 : Nat → Int32) (n4 : Nat) (n28 : Nat) (s15 : Int32) (s16 : Int32) (s17 : Int32) (s18 : Int32) (s19 : Int32) (s20 : Int32) : (Nat → Int32) × (Nat → Int32) × (Nat → Int32) × (Nat → Int32) × Nat × Nat × Int32 × Int32 × Int32 × Int32 × Int32 × Int32 := (a9, a12, a13, a14, n4, n28, s15, s16, s17, s18, s19, s20)
def m_reset_L74  : Nat → Nat → (Nat → Int32) → (Nat → Int32) → (Nat → Int32) × (Nat → Int32)
  | 0, i, a13, a14 => (a13, a14)
  | n + 1, i, a13, a14 => if (nI (i % 3)) = 0 then m_reset_L74 n (i + 1) (upd a13 i 0) (upd a14 i 4) else m_reset_L74 n (i + 1) (upd a13 i 0) (upd a14 i 3)
def m_reset_k46 (RA : Nat → Nat → Int32) (a9 : Nat → Int32) (a12 : Nat → Int32) (n4 : Nat) (n28 : Nat) (s15 : Int32) (s16 : Int32) (s17 : Int32) (s18 : Int32) (s19 : Int32) (s20 : Int32) : (Nat → Int32) × (Nat → Int32) × (Nat → Int32) × (Nat → Int32) × Nat × Nat × Int32 × Int32 × Int32 × Int32 × Int32 × Int32 := m_reset_k74 a9 a12 (m_reset_L74 9 0 (RA 13) (RA 14)).1 (m_reset_L74 9 0 (RA 13) (RA 14)).2 n4 n28 s15 s16 s17 s18 s19 s20
def m_reset_L46  : Nat → Nat → (Nat → Int32) → (Nat → Int32) → (Nat → Int32) × (Nat → Int32)
  | 0, i, a9, a12 => (a9, a12)
  | n + 1, i, a9, a12 => m_reset_L46 n (i + 1) (upd a9 i 0) (upd a12 i 0)
def m_reset (RA : Nat → Nat → Int32) : (Nat → Int32) × (Nat → Int32) × (Nat → Int32) × (Nat → Int32) × Nat × Nat × Int32 × Int32 × Int32 × Int32 × Int32 × Int32 := m_reset_k46 RA (m_reset_L46 8 0 (RA 9) (RA 12)).1 (m_reset_L46 8 0 (RA 9) (RA 12)).2 0 0 1 10 10 50 3 100
set_option maxHeartbeats 4000000 in
set_option maxRecDepth 100000 in
theorem c_m_reset (hI : kInj ad 24)  : Met l yX8_reset (.code yX8_reset cX8_reset 2 none :: kT) ({ frames := 0, cells := 0, slots := 0, locals := 0 } : Room) (va_Pc [.ref (ad 0)] (kB (dC, dI) [(cI, .int)] (RWs cI ad RA RS RN RL))) (kQ none (kB (dC, dI) [(cI, .int)] (RWs cI ad (va_up (va_up (va_up (va_up RA 9 ((m_reset RA).1)) 12 ((m_reset RA).2.1)) 13 ((m_reset RA).2.2.1)) 14 ((m_reset RA).2.2.2.1)) (va_up (va_up (va_up (va_up (va_up (va_up RS 15 ((m_reset RA).2.2.2.2.2.2.1)) 16 ((m_reset RA).2.2.2.2.2.2.2.1)) 17 ((m_reset RA).2.2.2.2.2.2.2.2.1)) 18 ((m_reset RA).2.2.2.2.2.2.2.2.2.1)) 19 ((m_reset RA).2.2.2.2.2.2.2.2.2.2.1)) 20 ((m_reset RA).2.2.2.2.2.2.2.2.2.2.2)) (va_up (va_up RN 4 ((m_reset RA).2.2.2.2.1)) 28 ((m_reset RA).2.2.2.2.2.1)) RL)) (kAA ad 24)) 0 0 (kAA ad 24) := by
  refine kMet (by decide) (fun p e s m args below meth c ls hx hb hr hml hts hown hlocks hname hargs hB hl => ?_) (Nat.le_of_ble_eq_true rfl)
  obtain ⟨hP, hK, hN⟩ := hB
  have hl : lv_has ls 2 [(0, .ref (ad 0))] := hl
  have hS : va_S (kAA ad 24) s.heap s.heap [] := va_S.rf
  refine lv_aload_n hx hb dX8_reset_0 rfl (lv_at hl 0 rfl) ?_
  refine lv_iconst (v := 0) hx hb dX8_reset_1 (by decide) ?_
  refine m_put (RS' := RS) (RN' := (va_up RN 4 0)) (RL' := RL) (ty := .int) hx hb hts hown hI hK hP hS 4 (by decide) rfl kX8_82 rfl (by decide +kernel) rfl rfl rfl dX8_reset_2 (fun H locs hP hS => ?_)
  refine lv_aload_n hx hb dX8_reset_5 rfl (lv_at hl 0 rfl) ?_
  refine lv_iconst (v := 1) hx hb dX8_reset_6 (by decide) ?_
  refine m_put (RS' := (va_up RS 15 1)) (RN' := (va_up RN 4 0)) (RL' := RL) (ty := .int) hx hb hts hown hI hK hP hS 15 (by decide) rfl kX8_142 rfl (by decide +kernel) rfl rfl rfl dX8_reset_7 (fun H locs hP hS => ?_)
  refine lv_aload_n hx hb dX8_reset_10 rfl (lv_at hl 0 rfl) ?_
  refine lv_bipush (v := 10) hx hb dX8_reset_11 (by decide) ?_
  refine m_put (RS' := (va_up (va_up RS 15 1) 16 10)) (RN' := (va_up RN 4 0)) (RL' := RL) (ty := .int) hx hb hts hown hI hK hP hS 16 (by decide) rfl kX8_145 rfl (by decide +kernel) rfl rfl rfl dX8_reset_13 (fun H locs hP hS => ?_)
  refine lv_aload_n hx hb dX8_reset_16 rfl (lv_at hl 0 rfl) ?_
  refine lv_bipush (v := 10) hx hb dX8_reset_17 (by decide) ?_
  refine m_put (RS' := (va_up (va_up (va_up RS 15 1) 16 10) 17 10)) (RN' := (va_up RN 4 0)) (RL' := RL) (ty := .int) hx hb hts hown hI hK hP hS 17 (by decide) rfl kX8_148 rfl (by decide +kernel) rfl rfl rfl dX8_reset_19 (fun H locs hP hS => ?_)
  refine lv_aload_n hx hb dX8_reset_22 rfl (lv_at hl 0 rfl) ?_
  refine lv_bipush (v := 50) hx hb dX8_reset_23 (by decide) ?_
  refine m_put (RS' := (va_up (va_up (va_up (va_up RS 15 1) 16 10) 17 10) 18 50)) (RN' := (va_up RN 4 0)) (RL' := RL) (ty := .int) hx hb hts hown hI hK hP hS 18 (by decide) rfl kX8_151 rfl (by decide +kernel) rfl rfl rfl dX8_reset_25 (fun H locs hP hS => ?_)
  refine lv_aload_n hx hb dX8_reset_28 rfl (lv_at hl 0 rfl) ?_
  refine lv_iconst (v := 3) hx hb dX8_reset_29 (by decide) ?_
  refine m_put (RS' := (va_up (va_up (va_up (va_up (va_up RS 15 1) 16 10) 17 10) 18 50) 19 3)) (RN' := (va_up RN 4 0)) (RL' := RL) (ty := .int) hx hb hts hown hI hK hP hS 19 (by decide) rfl kX8_154 rfl (by decide +kernel) rfl rfl rfl dX8_reset_30 (fun H locs hP hS => ?_)
  refine lv_aload_n hx hb dX8_reset_33 rfl (lv_at hl 0 rfl) ?_
  refine lv_bipush (v := 100) hx hb dX8_reset_34 (by decide) ?_
  refine m_put (RS' := (va_up (va_up (va_up (va_up (va_up (va_up RS 15 1) 16 10) 17 10) 18 50) 19 3) 20 100)) (RN' := (va_up RN 4 0)) (RL' := RL) (ty := .int) hx hb hts hown hI hK hP hS 20 (by decide) rfl kX8_157 rfl (by decide +kernel) rfl rfl rfl dX8_reset_36 (fun H locs hP hS => ?_)
  refine lv_aload_n hx hb dX8_reset_39 rfl (lv_at hl 0 rfl) ?_
  refine lv_iconst (v := 0) hx hb dX8_reset_40 (by decide) ?_
  refine m_put (RS' := (va_up (va_up (va_up (va_up (va_up (va_up RS 15 1) 16 10) 17 10) 18 50) 19 3) 20 100)) (RN' := (va_up (va_up RN 4 0) 28 0)) (RL' := RL) (ty := .int) hx hb hts hown hI hK hP hS 28 (by decide) rfl kX8_160 rfl (by decide +kernel) rfl rfl rfl dX8_reset_41 (fun H locs hP hS => ?_)
  refine lv_iconst (v := 0) hx hb dX8_reset_44 (by decide) ?_
  refine lv_istore_n (lv' := [(1, .int 0), (0, .ref (ad 0))]) hx hb dX8_reset_45 rfl hl (by decide) rfl (fun ls hl => ?_)
  have rest_46 : ∀ (a9_46 : Nat → Int32) (a12_46 : Nat → Int32), ∀ (H : Heap) (locs : List Loc) (ls : Array Slot), va_P (dC, dI) vwCl (RWs cI ad (va_up (va_up RA 9 a9_46) 12 a12_46) (va_up (va_up (va_up (va_up (va_up (va_up RS 15 1) 16 10) 17 10) 18 50) 19 3) 20 100) (va_up (va_up RN 4 0) 28 0) RL) H → va_S (kAA ad 24) s.heap H locs → lv_has ls 2 [(0, .ref (ad 0))] → (m_reset RA) = m_reset_k46 RA a9_46 a12_46 0 0 1 10 10 50 3 100 → W p l e ({ frames := 0, cells := 0, slots := 0, locals := 0 } : Room) s m args below meth c H locs 0 0 (MQ below (kQ none (kB (dC, dI) [(cI, .int)] (RWs cI ad (va_up (va_up (va_up (va_up RA 9 ((m_reset RA).1)) 12 ((m_reset RA).2.1)) 13 ((m_reset RA).2.2.1)) 14 ((m_reset RA).2.2.2.1)) (va_up (va_up (va_up (va_up (va_up (va_up RS 15 ((m_reset RA).2.2.2.2.2.2.1)) 16 ((m_reset RA).2.2.2.2.2.2.2.1)) 17 ((m_reset RA).2.2.2.2.2.2.2.2.1)) 18 ((m_reset RA).2.2.2.2.2.2.2.2.2.1)) 19 ((m_reset RA).2.2.2.2.2.2.2.2.2.2.1)) 20 ((m_reset RA).2.2.2.2.2.2.2.2.2.2.2)) (va_up (va_up RN 4 ((m_reset RA).2.2.2.2.1)) 28 ((m_reset RA).2.2.2.2.2.1)) RL)) (kAA ad 24)) args s 0 0 (kAA ad 24)) (F0 m 72 ls []) := by
    intro a9_46 a12_46 H locs ls hP hS hl  hF_46
    refine lv_iconst (v := 0) hx hb dX8_reset_72 (by decide) ?_
    refine lv_istore_n (lv' := [(1, .int 0), (0, .ref (ad 0))]) hx hb dX8_reset_73 rfl hl (by decide) rfl (fun ls hl => ?_)
    have rest_74 : ∀ (a13_74 : Nat → Int32) (a14_74 : Nat → Int32), ∀ (H : Heap) (locs : List Loc) (ls : Array Slot), va_P (dC, dI) vwCl (RWs cI ad (va_up (va_up (va_up (va_up RA 9 a9_46) 12 a12_46) 13 a13_74) 14 a14_74) (va_up (va_up (va_up (va_up (va_up (va_up RS 15 1) 16 10) 17 10) 18 50) 19 3) 20 100) (va_up (va_up RN 4 0) 28 0) RL) H → va_S (kAA ad 24) s.heap H locs → lv_has ls 2 [] → (m_reset RA) = m_reset_k74 a9_46 a12_46 a13_74 a14_74 0 0 1 10 10 50 3 100 → W p l e ({ frames := 0, cells := 0, slots := 0, locals := 0 } : Room) s m args below meth c H locs 0 0 (MQ below (kQ none (kB (dC, dI) [(cI, .int)] (RWs cI ad (va_up (va_up (va_up (va_up RA 9 ((m_reset RA).1)) 12 ((m_reset RA).2.1)) 13 ((m_reset RA).2.2.1)) 14 ((m_reset RA).2.2.2.1)) (va_up (va_up (va_up (va_up (va_up (va_up RS 15 ((m_reset RA).2.2.2.2.2.2.1)) 16 ((m_reset RA).2.2.2.2.2.2.2.1)) 17 ((m_reset RA).2.2.2.2.2.2.2.2.1)) 18 ((m_reset RA).2.2.2.2.2.2.2.2.2.1)) 19 ((m_reset RA).2.2.2.2.2.2.2.2.2.2.1)) 20 ((m_reset RA).2.2.2.2.2.2.2.2.2.2.2)) (va_up (va_up RN 4 ((m_reset RA).2.2.2.2.1)) 28 ((m_reset RA).2.2.2.2.2.1)) RL)) (kAA ad 24)) args s 0 0 (kAA ad 24)) (F0 m 110 ls []) := by
      intro a13_74 a14_74 H locs ls hP hS hl  hF_74
      have hE : (m_reset RA) = (a9_46, a12_46, a13_74, a14_74, 0, 0, 1, 10, 10, 50, 3, 100) := hF_74.trans (by rw [m_reset_k74])
      exact W.vret hx hb hr (fun t ht hW => ⟨rfl, by rw [hE]; exact kB.of (ws := RWs cI ad (va_up (va_up (va_up (va_up RA 9 a9_46) 12 a12_46) 13 a13_74) 14 a14_74) (va_up (va_up (va_up (va_up (va_up (va_up RS 15 1) 16 10) 17 10) 18 50) 19 3) 20 100) (va_up (va_up RN 4 0) 28 0) RL) hP hK hN ht hW, hS.F ht⟩) hS.2.2 dX8_reset_110 hlocks
    have loop_74 : ∀ (n_74 i_74 : Nat) (a13_74 : Nat → Int32) (a14_74 : Nat → Int32), i_74 + n_74 = 9 → ∀ (H : Heap) (locs : List Loc) (ls : Array Slot), va_P (dC, dI) vwCl (RWs cI ad (va_up (va_up (va_up (va_up RA 9 a9_46) 12 a12_46) 13 a13_74) 14 a14_74) (va_up (va_up (va_up (va_up (va_up (va_up RS 15 1) 16 10) 17 10) 18 50) 19 3) 20 100) (va_up (va_up RN 4 0) 28 0) RL) H → va_S (kAA ad 24) s.heap H locs → lv_has ls 2 [(0, .ref (ad 0)), (1, .int (nI i_74))] → (∀ (H : Heap) (locs : List Loc) (ls : Array Slot), va_P (dC, dI) vwCl (RWs cI ad (va_up (va_up (va_up (va_up RA 9 a9_46) 12 a12_46) 13 ((m_reset_L74 n_74 i_74 a13_74 a14_74).1)) 14 ((m_reset_L74 n_74 i_74 a13_74 a14_74).2)) (va_up (va_up (va_up (va_up (va_up (va_up RS 15 1) 16 10) 17 10) 18 50) 19 3) 20 100) (va_up (va_up RN 4 0) 28 0) RL) H → va_S (kAA ad 24) s.heap H locs → lv_has ls 2 [] → W p l e ({ frames := 0, cells := 0, slots := 0, locals := 0 } : Room) s m args below meth c H locs 0 0 (MQ below (kQ none (kB (dC, dI) [(cI, .int)] (RWs cI ad (va_up (va_up (va_up (va_up RA 9 ((m_reset RA).1)) 12 ((m_reset RA).2.1)) 13 ((m_reset RA).2.2.1)) 14 ((m_reset RA).2.2.2.1)) (va_up (va_up (va_up (va_up (va_up (va_up RS 15 ((m_reset RA).2.2.2.2.2.2.1)) 16 ((m_reset RA).2.2.2.2.2.2.2.1)) 17 ((m_reset RA).2.2.2.2.2.2.2.2.1)) 18 ((m_reset RA).2.2.2.2.2.2.2.2.2.1)) 19 ((m_reset RA).2.2.2.2.2.2.2.2.2.2.1)) 20 ((m_reset RA).2.2.2.2.2.2.2.2.2.2.2)) (va_up (va_up RN 4 ((m_reset RA).2.2.2.2.1)) 28 ((m_reset RA).2.2.2.2.2.1)) RL)) (kAA ad 24)) args s 0 0 (kAA ad 24)) (F0 m 110 ls [])) → W p l e ({ frames := 0, cells := 0, slots := 0, locals := 0 } : Room) s m args below meth c H locs 0 0 (MQ below (kQ none (kB (dC, dI) [(cI, .int)] (RWs cI ad (va_up (va_up (va_up (va_up RA 9 ((m_reset RA).1)) 12 ((m_reset RA).2.1)) 13 ((m_reset RA).2.2.1)) 14 ((m_reset RA).2.2.2.1)) (va_up (va_up (va_up (va_up (va_up (va_up RS 15 ((m_reset RA).2.2.2.2.2.2.1)) 16 ((m_reset RA).2.2.2.2.2.2.2.1)) 17 ((m_reset RA).2.2.2.2.2.2.2.2.1)) 18 ((m_reset RA).2.2.2.2.2.2.2.2.2.1)) 19 ((m_reset RA).2.2.2.2.2.2.2.2.2.2.1)) 20 ((m_reset RA).2.2.2.2.2.2.2.2.2.2.2)) (va_up (va_up RN 4 ((m_reset RA).2.2.2.2.1)) 28 ((m_reset RA).2.2.2.2.2.1)) RL)) (kAA ad 24)) args s 0 0 (kAA ad 24)) (F0 m 74 ls []) := by
      intro n_74
      induction n_74 with
      | zero =>
        intro i_74 a13_74 a14_74 hin_74 H locs ls hP hS hl  hk_74
        refine lv_iload_n hx hb dX8_reset_74 rfl (lv_at hl 1 rfl) ?_
        refine lv_bipush (v := 9) hx hb dX8_reset_75 (by decide) ?_
        refine lv_icmp_ge (tgt := 110) hx hb dX8_reset_77 (by decide) (fun _ => ?_) (fun c_4 => absurd (kct_ge (N := 9) rfl (by omega) (by omega)) c_4)
        have hL_74 : (m_reset_L74 0 i_74 a13_74 a14_74) = (a13_74, a14_74) := by rw [m_reset_L74.eq_1]
        try rw [hL_74] at hk_74
        exact hk_74 _ _ _ hP hS (lv_sub hl [] rfl) 
      | succ n_74 ih_74 =>
        intro i_74 a13_74 a14_74 hin_74 H locs ls hP hS hl  hk_74
        refine lv_iload_n hx hb dX8_reset_74 rfl (lv_at hl 1 rfl) ?_
        refine lv_bipush (v := 9) hx hb dX8_reset_75 (by decide) ?_
        refine lv_icmp_ge (tgt := 110) hx hb dX8_reset_77 (by decide) (fun c_5 => absurd c_5 (kct_lt (N := 9) rfl (by omega))) (fun _ => ?_)
        refine lv_aload_n hx hb dX8_reset_80 rfl (lv_at hl 0 rfl) ?_
        refine m_get (v := .ref (ad 11)) hx hb hts hown hK hP 13 (by decide) rfl kX8_40 rfl dX8_reset_81 ?_
        refine lv_iload_n hx hb dX8_reset_84 rfl (lv_at hl 1 rfl) ?_
        refine lv_iconst (v := 0) hx hb dX8_reset_85 (by decide) ?_
        refine kn_iast (f := a13_74) (ws' := RWs cI ad (va_up (va_up (va_up (va_up RA 9 a9_46) 12 a12_46) 13 (upd a13_74 i_74 0)) 14 a14_74) (va_up (va_up (va_up (va_up (va_up (va_up RS 15 1) 16 10) 17 10) 18 50) 19 3) 20 100) (va_up (va_up RN 4 0) 28 0) RL) hx hb hK hP (RWsD hI) hS 11 rfl i_74 rfl (by omega) (by omega) rfl dX8_reset_86 (fun H locs hP hS => ?_)
        refine lv_aload_n hx hb dX8_reset_87 rfl (lv_at hl 0 rfl) ?_
        refine m_get (v := .ref (ad 12)) hx hb hts hown hK hP 14 (by decide) rfl kX8_43 rfl dX8_reset_88 ?_
        refine lv_iload_n hx hb dX8_reset_91 rfl (lv_at hl 1 rfl) ?_
        refine lv_iload_n hx hb dX8_reset_92 rfl (lv_at hl 1 rfl) ?_
        refine lv_iconst (v := 3) hx hb dX8_reset_93 (by decide) ?_
        refine lv_irem hx hb dX8_reset_94 (by decide) ?_
        refine kn_top (x' := (nI (i_74 % 3))) (pk_rem (a := i_74) (d := 3) (by omega) (by omega) (by omega)) ?_
        refine lv_if_ne (tgt := 102) hx hb dX8_reset_95 (by decide) (fun c_6 => ?_) (fun c_6 => ?_)
        · refine lv_iconst (v := 3) hx hb dX8_reset_102 (by decide) ?_
          refine kn_iast (f := a14_74) (ws' := RWs cI ad (va_up (va_up (va_up (va_up RA 9 a9_46) 12 a12_46) 13 (upd a13_74 i_74 0)) 14 (upd a14_74 i_74 3)) (va_up (va_up (va_up (va_up (va_up (va_up RS 15 1) 16 10) 17 10) 18 50) 19 3) 20 100) (va_up (va_up RN 4 0) 28 0) RL) hx hb hK hP (RWsD hI) hS 12 rfl i_74 rfl (by omega) (by omega) rfl dX8_reset_103 (fun H locs hP hS => ?_)
          refine lv_iinc (v := (nI (i_74 + 1))) (lv' := [(1, .int (nI (i_74 + 1))), (0, .ref (ad 0))]) hx hb dX8_reset_104 hl (k := 1) rfl (nI_add _ _) (by decide) rfl (fun ls hl => ?_)
          refine lv_goto (tgt := 74) hx hb dX8_reset_107 (by decide) ?_
          have hL_74 : (m_reset_L74 (n_74 + 1) i_74 a13_74 a14_74) = (m_reset_L74 n_74 (i_74 + 1) (upd a13_74 i_74 0) (upd a14_74 i_74 3)) := by rw [m_reset_L74.eq_2, if_neg c_6]
          try rw [hL_74] at hk_74
          exact ih_74 (i_74 + 1) (upd a13_74 i_74 0) (upd a14_74 i_74 3) (by omega) _ _ _ hP hS (lv_sub hl [1, 0] rfl)  hk_74
        · refine lv_iconst (v := 4) hx hb dX8_reset_98 (by decide) ?_
          refine lv_goto (tgt := 103) hx hb dX8_reset_99 (by decide) ?_
          refine kn_iast (f := a14_74) (ws' := RWs cI ad (va_up (va_up (va_up (va_up RA 9 a9_46) 12 a12_46) 13 (upd a13_74 i_74 0)) 14 (upd a14_74 i_74 4)) (va_up (va_up (va_up (va_up (va_up (va_up RS 15 1) 16 10) 17 10) 18 50) 19 3) 20 100) (va_up (va_up RN 4 0) 28 0) RL) hx hb hK hP (RWsD hI) hS 12 rfl i_74 rfl (by omega) (by omega) rfl dX8_reset_103 (fun H locs hP hS => ?_)
          refine lv_iinc (v := (nI (i_74 + 1))) (lv' := [(1, .int (nI (i_74 + 1))), (0, .ref (ad 0))]) hx hb dX8_reset_104 hl (k := 1) rfl (nI_add _ _) (by decide) rfl (fun ls hl => ?_)
          refine lv_goto (tgt := 74) hx hb dX8_reset_107 (by decide) ?_
          have hL_74 : (m_reset_L74 (n_74 + 1) i_74 a13_74 a14_74) = (m_reset_L74 n_74 (i_74 + 1) (upd a13_74 i_74 0) (upd a14_74 i_74 4)) := by rw [m_reset_L74.eq_2, if_pos c_6]
          try rw [hL_74] at hk_74
          exact ih_74 (i_74 + 1) (upd a13_74 i_74 0) (upd a14_74 i_74 4) (by omega) _ _ _ hP hS (lv_sub hl [1, 0] rfl)  hk_74
    have hP : va_P (dC, dI) vwCl (RWs cI ad (va_up (va_up (va_up (va_up RA 9 a9_46) 12 a12_46) 13 (RA 13)) 14 (RA 14)) (va_up (va_up (va_up (va_up (va_up (va_up RS 15 1) 16 10) 17 10) 18 50) 19 3) 20 100) (va_up (va_up RN 4 0) 28 0) RL) H := (RWs_conv rfl rfl rfl rfl rfl rfl rfl rfl rfl rfl rfl rfl rfl rfl rfl rfl rfl rfl rfl rfl rfl rfl rfl rfl rfl rfl rfl rfl rfl rfl rfl rfl rfl rfl rfl rfl rfl rfl rfl rfl rfl hP)
    exact loop_74 9 0 (RA 13) (RA 14) (by omega) _ _ _ hP hS (lv_sub hl [1, 0] rfl)  (fun H locs ls hP hS hl  => rest_74 (m_reset_L74 9 0 (RA 13) (RA 14)).1 (m_reset_L74 9 0 (RA 13) (RA 14)).2 _ _ _ hP hS hl  (hF_46.trans (by rw [m_reset_k46])))
  have loop_46 : ∀ (n_46 i_46 : Nat) (a9_46 : Nat → Int32) (a12_46 : Nat → Int32), i_46 + n_46 = 8 → ∀ (H : Heap) (locs : List Loc) (ls : Array Slot), va_P (dC, dI) vwCl (RWs cI ad (va_up (va_up RA 9 a9_46) 12 a12_46) (va_up (va_up (va_up (va_up (va_up (va_up RS 15 1) 16 10) 17 10) 18 50) 19 3) 20 100) (va_up (va_up RN 4 0) 28 0) RL) H → va_S (kAA ad 24) s.heap H locs → lv_has ls 2 [(0, .ref (ad 0)), (1, .int (nI i_46))] → (∀ (H : Heap) (locs : List Loc) (ls : Array Slot), va_P (dC, dI) vwCl (RWs cI ad (va_up (va_up RA 9 ((m_reset_L46 n_46 i_46 a9_46 a12_46).1)) 12 ((m_reset_L46 n_46 i_46 a9_46 a12_46).2)) (va_up (va_up (va_up (va_up (va_up (va_up RS 15 1) 16 10) 17 10) 18 50) 19 3) 20 100) (va_up (va_up RN 4 0) 28 0) RL) H → va_S (kAA ad 24) s.heap H locs → lv_has ls 2 [(0, .ref (ad 0))] → W p l e ({ frames := 0, cells := 0, slots := 0, locals := 0 } : Room) s m args below meth c H locs 0 0 (MQ below (kQ none (kB (dC, dI) [(cI, .int)] (RWs cI ad (va_up (va_up (va_up (va_up RA 9 ((m_reset RA).1)) 12 ((m_reset RA).2.1)) 13 ((m_reset RA).2.2.1)) 14 ((m_reset RA).2.2.2.1)) (va_up (va_up (va_up (va_up (va_up (va_up RS 15 ((m_reset RA).2.2.2.2.2.2.1)) 16 ((m_reset RA).2.2.2.2.2.2.2.1)) 17 ((m_reset RA).2.2.2.2.2.2.2.2.1)) 18 ((m_reset RA).2.2.2.2.2.2.2.2.2.1)) 19 ((m_reset RA).2.2.2.2.2.2.2.2.2.2.1)) 20 ((m_reset RA).2.2.2.2.2.2.2.2.2.2.2)) (va_up (va_up RN 4 ((m_reset RA).2.2.2.2.1)) 28 ((m_reset RA).2.2.2.2.2.1)) RL)) (kAA ad 24)) args s 0 0 (kAA ad 24)) (F0 m 72 ls [])) → W p l e ({ frames := 0, cells := 0, slots := 0, locals := 0 } : Room) s m args below meth c H locs 0 0 (MQ below (kQ none (kB (dC, dI) [(cI, .int)] (RWs cI ad (va_up (va_up (va_up (va_up RA 9 ((m_reset RA).1)) 12 ((m_reset RA).2.1)) 13 ((m_reset RA).2.2.1)) 14 ((m_reset RA).2.2.2.1)) (va_up (va_up (va_up (va_up (va_up (va_up RS 15 ((m_reset RA).2.2.2.2.2.2.1)) 16 ((m_reset RA).2.2.2.2.2.2.2.1)) 17 ((m_reset RA).2.2.2.2.2.2.2.2.1)) 18 ((m_reset RA).2.2.2.2.2.2.2.2.2.1)) 19 ((m_reset RA).2.2.2.2.2.2.2.2.2.2.1)) 20 ((m_reset RA).2.2.2.2.2.2.2.2.2.2.2)) (va_up (va_up RN 4 ((m_reset RA).2.2.2.2.1)) 28 ((m_reset RA).2.2.2.2.2.1)) RL)) (kAA ad 24)) args s 0 0 (kAA ad 24)) (F0 m 46 ls []) := by
    intro n_46
    induction n_46 with
    | zero =>
      intro i_46 a9_46 a12_46 hin_46 H locs ls hP hS hl  hk_46
      refine lv_iload_n hx hb dX8_reset_46 rfl (lv_at hl 1 rfl) ?_
      refine lv_bipush (v := 8) hx hb dX8_reset_47 (by decide) ?_
      refine lv_icmp_ge (tgt := 72) hx hb dX8_reset_49 (by decide) (fun _ => ?_) (fun c_7 => absurd (kct_ge (N := 8) rfl (by omega) (by omega)) c_7)
      have hL_46 : (m_reset_L46 0 i_46 a9_46 a12_46) = (a9_46, a12_46) := by rw [m_reset_L46.eq_1]
      try rw [hL_46] at hk_46
      exact hk_46 _ _ _ hP hS (lv_sub hl [0] rfl) 
    | succ n_46 ih_46 =>
      intro i_46 a9_46 a12_46 hin_46 H locs ls hP hS hl  hk_46
      refine lv_iload_n hx hb dX8_reset_46 rfl (lv_at hl 1 rfl) ?_
      refine lv_bipush (v := 8) hx hb dX8_reset_47 (by decide) ?_
      refine lv_icmp_ge (tgt := 72) hx hb dX8_reset_49 (by decide) (fun c_8 => absurd c_8 (kct_lt (N := 8) rfl (by omega))) (fun _ => ?_)
      refine lv_aload_n hx hb dX8_reset_52 rfl (lv_at hl 0 rfl) ?_
      refine m_get (v := .ref (ad 7)) hx hb hts hown hK hP 9 (by decide) rfl kX8_28 rfl dX8_reset_53 ?_
      refine lv_iload_n hx hb dX8_reset_56 rfl (lv_at hl 1 rfl) ?_
      refine lv_iconst (v := 0) hx hb dX8_reset_57 (by decide) ?_
      refine kn_iast (f := a9_46) (ws' := RWs cI ad (va_up (va_up RA 9 (upd a9_46 i_46 0)) 12 a12_46) (va_up (va_up (va_up (va_up (va_up (va_up RS 15 1) 16 10) 17 10) 18 50) 19 3) 20 100) (va_up (va_up RN 4 0) 28 0) RL) hx hb hK hP (RWsD hI) hS 7 rfl i_46 rfl (by omega) (by omega) rfl dX8_reset_58 (fun H locs hP hS => ?_)
      refine lv_aload_n hx hb dX8_reset_59 rfl (lv_at hl 0 rfl) ?_
      refine m_get (v := .ref (ad 10)) hx hb hts hown hK hP 12 (by decide) rfl kX8_37 rfl dX8_reset_60 ?_
      refine lv_iload_n hx hb dX8_reset_63 rfl (lv_at hl 1 rfl) ?_
      refine lv_iconst (v := 0) hx hb dX8_reset_64 (by decide) ?_
      refine kn_iast (f := a12_46) (ws' := RWs cI ad (va_up (va_up RA 9 (upd a9_46 i_46 0)) 12 (upd a12_46 i_46 0)) (va_up (va_up (va_up (va_up (va_up (va_up RS 15 1) 16 10) 17 10) 18 50) 19 3) 20 100) (va_up (va_up RN 4 0) 28 0) RL) hx hb hK hP (RWsD hI) hS 10 rfl i_46 rfl (by omega) (by omega) rfl dX8_reset_65 (fun H locs hP hS => ?_)
      refine lv_iinc (v := (nI (i_46 + 1))) (lv' := [(1, .int (nI (i_46 + 1))), (0, .ref (ad 0))]) hx hb dX8_reset_66 hl (k := 1) rfl (nI_add _ _) (by decide) rfl (fun ls hl => ?_)
      refine lv_goto (tgt := 46) hx hb dX8_reset_69 (by decide) ?_
      have hL_46 : (m_reset_L46 (n_46 + 1) i_46 a9_46 a12_46) = (m_reset_L46 n_46 (i_46 + 1) (upd a9_46 i_46 0) (upd a12_46 i_46 0)) := by rw [m_reset_L46.eq_2]
      try rw [hL_46] at hk_46
      exact ih_46 (i_46 + 1) (upd a9_46 i_46 0) (upd a12_46 i_46 0) (by omega) _ _ _ hP hS (lv_sub hl [1, 0] rfl)  hk_46
  have hP : va_P (dC, dI) vwCl (RWs cI ad (va_up (va_up RA 9 (RA 9)) 12 (RA 12)) (va_up (va_up (va_up (va_up (va_up (va_up RS 15 1) 16 10) 17 10) 18 50) 19 3) 20 100) (va_up (va_up RN 4 0) 28 0) RL) H := (RWs_conv rfl rfl rfl rfl rfl rfl rfl rfl rfl rfl rfl rfl rfl rfl rfl rfl rfl rfl rfl rfl rfl rfl rfl rfl rfl rfl rfl rfl rfl rfl rfl rfl rfl rfl rfl rfl rfl rfl rfl rfl rfl hP)
  exact loop_46 8 0 (RA 9) (RA 12) (by omega) _ _ _ hP hS (lv_sub hl [1, 0] rfl)  (fun H locs ls hP hS hl  => rest_46 (m_reset_L46 8 0 (RA 9) (RA 12)).1 (m_reset_L46 8 0 (RA 9) (RA 12)).2 _ _ _ hP hS hl  (by rw [m_reset]))
-- X8_bearsOf
def m_bearsOf (RA : Nat → Nat → Int32) (v1 : Nat) : (Nat → Int32) × (Nat → Int32) × (Nat → Int32) × (Nat → Int32) × (Nat → Int32) × (Nat → Int32) := if (RA 12 v1) = 0 then ((upd (RA 10) (4 * v1) 500), (upd (RA 11) (4 * v1) 10), (upd (RA 12) v1 1), (upd (RA 22) v1 ((1 <<< (((upd (RA 12) v1 1) v1) &&& 31)) - 1)), (upd (RA 23) v1 0), (upd (RA 25) v1 0)) else ((RA 10), (RA 11), (RA 12), (upd (RA 22) v1 ((1 <<< ((RA 12 v1) &&& 31)) - 1)), (upd (RA 23) v1 0), (upd (RA 25) v1 0))
set_option maxHeartbeats 4000000 in
set_option maxRecDepth 100000 in
theorem c_m_bearsOf (hI : kInj ad 24) (v1 : Nat) (hi : v1 < 8) : Met l yX8_bearsOf (.code yX8_bearsOf cX8_bearsOf 2 none :: kT) ({ frames := 0, cells := 0, slots := 0, locals := 0 } : Room) (va_Pc [.ref (ad 0), .int (nI v1)] (kB (dC, dI) [(cI, .int)] (RWs cI ad RA RS RN RL))) (kQ none (kB (dC, dI) [(cI, .int)] (RWs cI ad (va_up (va_up (va_up (va_up (va_up (va_up RA 10 ((m_bearsOf RA v1).1)) 11 ((m_bearsOf RA v1).2.1)) 12 ((m_bearsOf RA v1).2.2.1)) 22 ((m_bearsOf RA v1).2.2.2.1)) 23 ((m_bearsOf RA v1).2.2.2.2.1)) 25 ((m_bearsOf RA v1).2.2.2.2.2)) RS RN RL)) (kAA ad 24)) 0 0 (kAA ad 24) := by
  refine kMet (by decide) (fun p e s m args below meth c ls hx hb hr hml hts hown hlocks hname hargs hB hl => ?_) (Nat.le_of_ble_eq_true rfl)
  obtain ⟨hP, hK, hN⟩ := hB
  have hl : lv_has ls 2 [(0, .ref (ad 0)), (1, .int (nI v1))] := hl
  have hS : va_S (kAA ad 24) s.heap s.heap [] := va_S.rf
  refine lv_aload_n hx hb dX8_bearsOf_0 rfl (lv_at hl 0 rfl) ?_
  refine m_get (v := .ref (ad 10)) hx hb hts hown hK hP 12 (by decide) rfl kX8_37 rfl dX8_bearsOf_1 ?_
  refine lv_iload_n hx hb dX8_bearsOf_4 rfl (lv_at hl 1 rfl) ?_
  refine kn_iald (f := (RA 12)) (v := (RA 12 v1)) hx hb hK hP 10 rfl v1 rfl (by omega) (by omega) rfl dX8_bearsOf_5 ?_
  refine lv_if_ne (tgt := 37) hx hb dX8_bearsOf_6 (by decide) (fun c_2 => ?_) (fun c_2 => ?_)
  · refine lv_aload_n hx hb dX8_bearsOf_37 rfl (lv_at hl 0 rfl) ?_
    refine m_get (v := .ref (ad 14)) hx hb hts hown hK hP 22 (by decide) rfl kX8_49 rfl dX8_bearsOf_38 ?_
    refine lv_iload_n hx hb dX8_bearsOf_41 rfl (lv_at hl 1 rfl) ?_
    refine lv_iconst (v := 1) hx hb dX8_bearsOf_42 (by decide) ?_
    refine lv_aload_n hx hb dX8_bearsOf_43 rfl (lv_at hl 0 rfl) ?_
    refine m_get (v := .ref (ad 10)) hx hb hts hown hK hP 12 (by decide) rfl kX8_37 rfl dX8_bearsOf_44 ?_
    refine lv_iload_n hx hb dX8_bearsOf_47 rfl (lv_at hl 1 rfl) ?_
    refine kn_iald (f := (RA 12)) (v := (RA 12 v1)) hx hb hK hP 10 rfl v1 rfl (by omega) (by omega) rfl dX8_bearsOf_48 ?_
    refine lv_ishl hx hb dX8_bearsOf_49 ?_
    refine lv_iconst (v := 1) hx hb dX8_bearsOf_50 (by decide) ?_
    refine lv_isub hx hb dX8_bearsOf_51 ?_
    refine kn_iast (f := (RA 22)) (ws' := RWs cI ad (va_up RA 22 (upd (RA 22) v1 ((1 <<< ((RA 12 v1) &&& 31)) - 1))) RS RN RL) hx hb hK hP (RWsD hI) hS 14 rfl v1 rfl (by omega) (by omega) rfl dX8_bearsOf_52 (fun H locs hP hS => ?_)
    refine lv_aload_n hx hb dX8_bearsOf_53 rfl (lv_at hl 0 rfl) ?_
    refine m_get (v := .ref (ad 15)) hx hb hts hown hK hP 23 (by decide) rfl kX8_52 rfl dX8_bearsOf_54 ?_
    refine lv_iload_n hx hb dX8_bearsOf_57 rfl (lv_at hl 1 rfl) ?_
    refine lv_iconst (v := 0) hx hb dX8_bearsOf_58 (by decide) ?_
    refine kn_iast (f := (RA 23)) (ws' := RWs cI ad (va_up (va_up RA 22 (upd (RA 22) v1 ((1 <<< ((RA 12 v1) &&& 31)) - 1))) 23 (upd (RA 23) v1 0)) RS RN RL) hx hb hK hP (RWsD hI) hS 15 rfl v1 rfl (by omega) (by omega) rfl dX8_bearsOf_59 (fun H locs hP hS => ?_)
    refine lv_aload_n hx hb dX8_bearsOf_60 rfl (lv_at hl 0 rfl) ?_
    refine m_get (v := .ref (ad 17)) hx hb hts hown hK hP 25 (by decide) rfl kX8_58 rfl dX8_bearsOf_61 ?_
    refine lv_iload_n hx hb dX8_bearsOf_64 rfl (lv_at hl 1 rfl) ?_
    refine lv_iconst (v := 0) hx hb dX8_bearsOf_65 (by decide) ?_
    refine kn_iast (f := (RA 25)) (ws' := RWs cI ad (va_up (va_up (va_up RA 22 (upd (RA 22) v1 ((1 <<< ((RA 12 v1) &&& 31)) - 1))) 23 (upd (RA 23) v1 0)) 25 (upd (RA 25) v1 0)) RS RN RL) hx hb hK hP (RWsD hI) hS 17 rfl v1 rfl (by omega) (by omega) rfl dX8_bearsOf_66 (fun H locs hP hS => ?_)
    have hE : (m_bearsOf RA v1) = ((RA 10), (RA 11), (RA 12), (upd (RA 22) v1 ((1 <<< ((RA 12 v1) &&& 31)) - 1)), (upd (RA 23) v1 0), (upd (RA 25) v1 0)) := by rw [m_bearsOf, if_neg c_2]
    exact W.vret hx hb hr (fun t ht hW => ⟨rfl, by rw [hE]; exact kB.of (ws := RWs cI ad (va_up (va_up (va_up (va_up (va_up (va_up RA 10 (RA 10)) 11 (RA 11)) 12 (RA 12)) 22 (upd (RA 22) v1 ((1 <<< ((RA 12 v1) &&& 31)) - 1))) 23 (upd (RA 23) v1 0)) 25 (upd (RA 25) v1 0)) RS RN RL) (RWs_conv rfl rfl rfl rfl rfl rfl rfl rfl rfl rfl rfl rfl rfl rfl rfl rfl rfl rfl rfl rfl rfl rfl rfl rfl rfl rfl rfl rfl rfl rfl rfl rfl rfl rfl rfl rfl rfl rfl rfl rfl rfl hP) hK hN ht hW, hS.F ht⟩) hS.2.2 dX8_bearsOf_67 hlocks
  · refine lv_aload_n hx hb dX8_bearsOf_9 rfl (lv_at hl 0 rfl) ?_
    refine m_get (v := .ref (ad 8)) hx hb hts hown hK hP 10 (by decide) rfl kX8_31 rfl dX8_bearsOf_10 ?_
    refine lv_iconst (v := 4) hx hb dX8_bearsOf_13 (by decide) ?_
    refine lv_iload_n hx hb dX8_bearsOf_14 rfl (lv_at hl 1 rfl) ?_
    refine kn_imul hx hb 4 v1 rfl rfl dX8_bearsOf_15 ?_
    refine lv_sipush (v := 500) hx hb dX8_bearsOf_16 (by decide) ?_
    refine kn_iast (f := (RA 10)) (ws' := RWs cI ad (va_up RA 10 (upd (RA 10) (4 * v1) 500)) RS RN RL) hx hb hK hP (RWsD hI) hS 8 rfl (4 * v1) rfl (by omega) (by omega) rfl dX8_bearsOf_19 (fun H locs hP hS => ?_)
    refine lv_aload_n hx hb dX8_bearsOf_20 rfl (lv_at hl 0 rfl) ?_
    refine m_get (v := .ref (ad 9)) hx hb hts hown hK hP 11 (by decide) rfl kX8_34 rfl dX8_bearsOf_21 ?_
    refine lv_iconst (v := 4) hx hb dX8_bearsOf_24 (by decide) ?_
    refine lv_iload_n hx hb dX8_bearsOf_25 rfl (lv_at hl 1 rfl) ?_
    refine kn_imul hx hb 4 v1 rfl rfl dX8_bearsOf_26 ?_
    refine lv_bipush (v := 10) hx hb dX8_bearsOf_27 (by decide) ?_
    refine kn_iast (f := (RA 11)) (ws' := RWs cI ad (va_up (va_up RA 10 (upd (RA 10) (4 * v1) 500)) 11 (upd (RA 11) (4 * v1) 10)) RS RN RL) hx hb hK hP (RWsD hI) hS 9 rfl (4 * v1) rfl (by omega) (by omega) rfl dX8_bearsOf_29 (fun H locs hP hS => ?_)
    refine lv_aload_n hx hb dX8_bearsOf_30 rfl (lv_at hl 0 rfl) ?_
    refine m_get (v := .ref (ad 10)) hx hb hts hown hK hP 12 (by decide) rfl kX8_37 rfl dX8_bearsOf_31 ?_
    refine lv_iload_n hx hb dX8_bearsOf_34 rfl (lv_at hl 1 rfl) ?_
    refine lv_iconst (v := 1) hx hb dX8_bearsOf_35 (by decide) ?_
    refine kn_iast (f := (RA 12)) (ws' := RWs cI ad (va_up (va_up (va_up RA 10 (upd (RA 10) (4 * v1) 500)) 11 (upd (RA 11) (4 * v1) 10)) 12 (upd (RA 12) v1 1)) RS RN RL) hx hb hK hP (RWsD hI) hS 10 rfl v1 rfl (by omega) (by omega) rfl dX8_bearsOf_36 (fun H locs hP hS => ?_)
    refine lv_aload_n hx hb dX8_bearsOf_37 rfl (lv_at hl 0 rfl) ?_
    refine m_get (v := .ref (ad 14)) hx hb hts hown hK hP 22 (by decide) rfl kX8_49 rfl dX8_bearsOf_38 ?_
    refine lv_iload_n hx hb dX8_bearsOf_41 rfl (lv_at hl 1 rfl) ?_
    refine lv_iconst (v := 1) hx hb dX8_bearsOf_42 (by decide) ?_
    refine lv_aload_n hx hb dX8_bearsOf_43 rfl (lv_at hl 0 rfl) ?_
    refine m_get (v := .ref (ad 10)) hx hb hts hown hK hP 12 (by decide) rfl kX8_37 rfl dX8_bearsOf_44 ?_
    refine lv_iload_n hx hb dX8_bearsOf_47 rfl (lv_at hl 1 rfl) ?_
    refine kn_iald (f := (upd (RA 12) v1 1)) (v := ((upd (RA 12) v1 1) v1)) hx hb hK hP 10 rfl v1 rfl (by omega) (by omega) rfl dX8_bearsOf_48 ?_
    refine lv_ishl hx hb dX8_bearsOf_49 ?_
    refine lv_iconst (v := 1) hx hb dX8_bearsOf_50 (by decide) ?_
    refine lv_isub hx hb dX8_bearsOf_51 ?_
    refine kn_iast (f := (RA 22)) (ws' := RWs cI ad (va_up (va_up (va_up (va_up RA 10 (upd (RA 10) (4 * v1) 500)) 11 (upd (RA 11) (4 * v1) 10)) 12 (upd (RA 12) v1 1)) 22 (upd (RA 22) v1 ((1 <<< (((upd (RA 12) v1 1) v1) &&& 31)) - 1))) RS RN RL) hx hb hK hP (RWsD hI) hS 14 rfl v1 rfl (by omega) (by omega) rfl dX8_bearsOf_52 (fun H locs hP hS => ?_)
    refine lv_aload_n hx hb dX8_bearsOf_53 rfl (lv_at hl 0 rfl) ?_
    refine m_get (v := .ref (ad 15)) hx hb hts hown hK hP 23 (by decide) rfl kX8_52 rfl dX8_bearsOf_54 ?_
    refine lv_iload_n hx hb dX8_bearsOf_57 rfl (lv_at hl 1 rfl) ?_
    refine lv_iconst (v := 0) hx hb dX8_bearsOf_58 (by decide) ?_
    refine kn_iast (f := (RA 23)) (ws' := RWs cI ad (va_up (va_up (va_up (va_up (va_up RA 10 (upd (RA 10) (4 * v1) 500)) 11 (upd (RA 11) (4 * v1) 10)) 12 (upd (RA 12) v1 1)) 22 (upd (RA 22) v1 ((1 <<< (((upd (RA 12) v1 1) v1) &&& 31)) - 1))) 23 (upd (RA 23) v1 0)) RS RN RL) hx hb hK hP (RWsD hI) hS 15 rfl v1 rfl (by omega) (by omega) rfl dX8_bearsOf_59 (fun H locs hP hS => ?_)
    refine lv_aload_n hx hb dX8_bearsOf_60 rfl (lv_at hl 0 rfl) ?_
    refine m_get (v := .ref (ad 17)) hx hb hts hown hK hP 25 (by decide) rfl kX8_58 rfl dX8_bearsOf_61 ?_
    refine lv_iload_n hx hb dX8_bearsOf_64 rfl (lv_at hl 1 rfl) ?_
    refine lv_iconst (v := 0) hx hb dX8_bearsOf_65 (by decide) ?_
    refine kn_iast (f := (RA 25)) (ws' := RWs cI ad (va_up (va_up (va_up (va_up (va_up (va_up RA 10 (upd (RA 10) (4 * v1) 500)) 11 (upd (RA 11) (4 * v1) 10)) 12 (upd (RA 12) v1 1)) 22 (upd (RA 22) v1 ((1 <<< (((upd (RA 12) v1 1) v1) &&& 31)) - 1))) 23 (upd (RA 23) v1 0)) 25 (upd (RA 25) v1 0)) RS RN RL) hx hb hK hP (RWsD hI) hS 17 rfl v1 rfl (by omega) (by omega) rfl dX8_bearsOf_66 (fun H locs hP hS => ?_)
    have hE : (m_bearsOf RA v1) = ((upd (RA 10) (4 * v1) 500), (upd (RA 11) (4 * v1) 10), (upd (RA 12) v1 1), (upd (RA 22) v1 ((1 <<< (((upd (RA 12) v1 1) v1) &&& 31)) - 1)), (upd (RA 23) v1 0), (upd (RA 25) v1 0)) := by rw [m_bearsOf, if_pos c_2]
    exact W.vret hx hb hr (fun t ht hW => ⟨rfl, by rw [hE]; exact kB.of (ws := RWs cI ad (va_up (va_up (va_up (va_up (va_up (va_up RA 10 (upd (RA 10) (4 * v1) 500)) 11 (upd (RA 11) (4 * v1) 10)) 12 (upd (RA 12) v1 1)) 22 (upd (RA 22) v1 ((1 <<< (((upd (RA 12) v1 1) v1) &&& 31)) - 1))) 23 (upd (RA 23) v1 0)) 25 (upd (RA 25) v1 0)) RS RN RL) hP hK hN ht hW, hS.F ht⟩) hS.2.2 dX8_bearsOf_67 hlocks
-- X8_mayBeLaid
def m_mayBeLaid_k104 (v2 : Int32) : Int32 := v2
def m_mayBeLaid_b104_k133 (v2 : Int32) (v5 : Int32) : Int32 := if v2 = 0 then 0 else (if v5 = 10 then 1 else 0)
def m_mayBeLaid_L133 (RA : Nat → Nat → Int32) (v4 : Nat) : Nat → Nat → Int32 → Int32
  | 0, i, v5 => v5
  | n + 1, i, v5 => if (RA 2 (7 * i)) = 98 then (if (RA 2 ((7 * i) + 1)) = (nI v4) then m_mayBeLaid_L133 RA v4 n (i + 1) (v5 + (RA 2 ((7 * i) + 3))) else m_mayBeLaid_L133 RA v4 n (i + 1) (v5 + 0)) else m_mayBeLaid_L133 RA v4 n (i + 1) (v5 + 0)
def m_mayBeLaid_b104 (RA : Nat → Nat → Int32) (RN : Nat → Nat) (i : Nat) (v2 : Int32) : Int32 := if (m_told RA RN 98 (nI i)) = 0 then m_mayBeLaid_b104_k133 v2 (m_mayBeLaid_L133 RA i (RN 3) 0 10) else m_mayBeLaid_b104_k133 v2 (m_mayBeLaid_L133 RA i (RN 3) 0 0)
def m_mayBeLaid_L104 (RA : Nat → Nat → Int32) (RN : Nat → Nat) : Nat → Nat → Int32 → Int32
  | 0, i, v2 => v2
  | n + 1, i, v2 => m_mayBeLaid_L104 RA RN n (i + 1) (m_mayBeLaid_b104 RA RN i v2)
def m_mayBeLaid_k24 (RA : Nat → Nat → Int32) (RN : Nat → Nat) (v2 : Int32) : Int32 := m_mayBeLaid_k104 (m_mayBeLaid_L104 RA RN 8 0 v2)
def m_mayBeLaid_L24 (RA : Nat → Nat → Int32) (v1 : Int32) : Nat → Nat → Int32 → Int32 → Int32 × Int32
  | 0, i, v2, v3 => (v2, v3)
  | n + 1, i, v2, v3 => if (RA 2 (7 * i)) = 114 then (if v2 = 0 then m_mayBeLaid_L24 RA v1 n (i + 1) 0 (v3 + 1) else (if (RA 2 ((7 * i) + 6)) = 8 then m_mayBeLaid_L24 RA v1 n (i + 1) 1 (v3 + 1) else (if v1 ≤ (RA 2 ((7 * i) + 6)) then m_mayBeLaid_L24 RA v1 n (i + 1) 0 (v3 + 1) else (if (RA 2 ((7 * i) + 6)) = v3 then m_mayBeLaid_L24 RA v1 n (i + 1) 0 (v3 + 1) else m_mayBeLaid_L24 RA v1 n (i + 1) 1 (v3 + 1))))) else m_mayBeLaid_L24 RA v1 n (i + 1) v2 v3
def m_mayBeLaid (RA : Nat → Nat → Int32) (RN : Nat → Nat) : Int32 := if (m_told RA RN 114 (-4)) ≤ 0 then m_mayBeLaid_k24 RA RN (m_mayBeLaid_L24 RA (m_told RA RN 114 (-4)) (RN 3) 0 0 0).1 else m_mayBeLaid_k24 RA RN (m_mayBeLaid_L24 RA (m_told RA RN 114 (-4)) (RN 3) 0 1 0).1
set_option maxHeartbeats 4000000 in
set_option maxRecDepth 100000 in
theorem c_m_mayBeLaid (hI : kInj ad 24) (him : RN 3 ≤ 170) : Met l yX8_mayBeLaid (.code yX8_mayBeLaid cX8_mayBeLaid 7 (some .boolean) :: kT) ({ frames := 1, cells := 0, slots := 0, locals := 24 } : Room) (va_Pc [.ref (ad 0)] (kB (dC, dI) [(cI, .int)] (RWs cI ad RA RS RN RL))) (kR (some (.int (m_mayBeLaid RA RN)))) 0 0 (fun _ => False) := by
  refine kMet (by decide) (fun p e s m args below meth c ls hx hb hr hml hts hown hlocks hname hargs hB hl => ?_) (Nat.le_of_ble_eq_true rfl)
  obtain ⟨hP, hK, hN⟩ := hB
  have hl : lv_has ls 7 [(0, .ref (ad 0))] := hl
  refine lv_aload_n hx hb dX8_mayBeLaid_0 rfl (lv_at hl 0 rfl) ?_
  refine lv_bipush (v := 114) hx hb dX8_mayBeLaid_1 (by decide) ?_
  refine lv_bipush (v := (-4)) hx hb dX8_mayBeLaid_3 (by decide) ?_
  refine k_rV (v := .int (m_told RA RN 114 (-4))) (As := [.int 114, .int (-4)]) (rest := []) hx hb hml hown hts hl.1 hP hK hN (c_m_told hI 114 (-4) (show (RN 3) ≤ 170 by omega)) eX8_132 (ci := 7) (q0 := 0) rfl rfl rfl rfl rfl (Nat.le_of_ble_eq_true rfl) ⟨Nat.le_of_ble_eq_true rfl, Nat.le_of_ble_eq_true rfl⟩ ⟨rfl, rfl⟩ ⟨Nat.le_of_ble_eq_true rfl, Nat.le_of_ble_eq_true rfl⟩ dX8_mayBeLaid_5 ?_
  refine lv_istore_n (lv' := [(1, .int (m_told RA RN 114 (-4))), (0, .ref (ad 0))]) hx hb dX8_mayBeLaid_8 rfl hl (by decide) rfl (fun ls hl => ?_)
  refine lv_iload_n hx hb dX8_mayBeLaid_9 rfl (lv_at hl 0 rfl) ?_
  refine lv_if_le (tgt := 17) hx hb dX8_mayBeLaid_10 (by decide) (fun c_15 => ?_) (fun c_15 => ?_)
  · refine lv_iconst (v := 0) hx hb dX8_mayBeLaid_17 (by decide) ?_
    refine lv_istore_n (lv' := [(2, .int 0), (1, .int (m_told RA RN 114 (-4))), (0, .ref (ad 0))]) hx hb dX8_mayBeLaid_18 rfl hl (by decide) rfl (fun ls hl => ?_)
    refine lv_iconst (v := 0) hx hb dX8_mayBeLaid_19 (by decide) ?_
    refine lv_istore_n (lv' := [(3, .int 0), (2, .int 0), (1, .int (m_told RA RN 114 (-4))), (0, .ref (ad 0))]) hx hb dX8_mayBeLaid_20 rfl hl (by decide) rfl (fun ls hl => ?_)
    refine lv_iconst (v := 0) hx hb dX8_mayBeLaid_21 (by decide) ?_
    refine lv_istore (lv' := [(4, .int 0), (3, .int 0), (2, .int 0), (1, .int (m_told RA RN 114 (-4))), (0, .ref (ad 0))]) hx hb dX8_mayBeLaid_22 hl (by decide) rfl (fun ls hl => ?_)
    have rest_24 : ∀ (x2_24 : Int32) (x3_24 : Int32), ∀ (ls : Array Slot), lv_has ls 7 [(0, .ref (ad 0)), (2, .int x2_24)] → (x2_24 = 0 ∨ x2_24 = 1) → (m_mayBeLaid RA RN) = m_mayBeLaid_k24 RA RN x2_24 → W p l e ({ frames := 1, cells := 0, slots := 0, locals := 24 } : Room) s m args below meth c s.heap [] 0 0 (MQ below (kR (some (.int (m_mayBeLaid RA RN)))) args s 0 0 (fun _ => False)) (F0 m 101 ls []) := by
      intro x2_24 x3_24 ls hl hx_24a hF_24
      refine lv_iconst (v := 0) hx hb dX8_mayBeLaid_101 (by decide) ?_
      refine lv_istore (lv' := [(4, .int 0), (0, .ref (ad 0)), (2, .int x2_24)]) hx hb dX8_mayBeLaid_102 hl (by decide) rfl (fun ls hl => ?_)
      have rest_104 : ∀ (x2_104 : Int32), ∀ (ls : Array Slot), lv_has ls 7 [(2, .int x2_104)] → (x2_104 = 0 ∨ x2_104 = 1) → (m_mayBeLaid RA RN) = m_mayBeLaid_k104 x2_104 → W p l e ({ frames := 1, cells := 0, slots := 0, locals := 24 } : Room) s m args below meth c s.heap [] 0 0 (MQ below (kR (some (.int (m_mayBeLaid RA RN)))) args s 0 0 (fun _ => False)) (F0 m 224 ls []) := by
        intro x2_104 ls hl hx_104a hF_104
        refine lv_iload_n hx hb dX8_mayBeLaid_224 rfl (lv_at hl 0 rfl) ?_
        have hE : (m_mayBeLaid RA RN) = x2_104 := hF_104.trans (by rw [m_mayBeLaid_k104])
        exact W.zret (v := x2_104) hx hb hr (k_bool (by assumption)) (fun t ht hW => ⟨by rw [hE], ht⟩) (fun _ h => absurd h List.not_mem_nil) dX8_mayBeLaid_225 hlocks
      have loop_104 : ∀ (n_104 i_104 : Nat) (x2_104 : Int32), i_104 + n_104 = 8 → ∀ (ls : Array Slot), lv_has ls 7 [(0, .ref (ad 0)), (2, .int x2_104), (4, .int (nI i_104))] → (x2_104 = 0 ∨ x2_104 = 1) → (∀ (ls : Array Slot), lv_has ls 7 [(2, .int (m_mayBeLaid_L104 RA RN n_104 i_104 x2_104))] → ((m_mayBeLaid_L104 RA RN n_104 i_104 x2_104) = 0 ∨ (m_mayBeLaid_L104 RA RN n_104 i_104 x2_104) = 1) → W p l e ({ frames := 1, cells := 0, slots := 0, locals := 24 } : Room) s m args below meth c s.heap [] 0 0 (MQ below (kR (some (.int (m_mayBeLaid RA RN)))) args s 0 0 (fun _ => False)) (F0 m 224 ls [])) → W p l e ({ frames := 1, cells := 0, slots := 0, locals := 24 } : Room) s m args below meth c s.heap [] 0 0 (MQ below (kR (some (.int (m_mayBeLaid RA RN)))) args s 0 0 (fun _ => False)) (F0 m 104 ls []) := by
        intro n_104
        induction n_104 with
        | zero =>
          intro i_104 x2_104 hin_104 ls hl hinv_104a hk_104
          refine lv_iload hx hb dX8_mayBeLaid_104 (lv_at hl 2 rfl) ?_
          refine lv_bipush (v := 8) hx hb dX8_mayBeLaid_106 (by decide) ?_
          refine lv_icmp_ge (tgt := 224) hx hb dX8_mayBeLaid_108 (by decide) (fun _ => ?_) (fun c_16 => absurd (kct_ge (N := 8) rfl (by omega) (by omega)) c_16)
          have hL_104 : (m_mayBeLaid_L104 RA RN 0 i_104 x2_104) = x2_104 := by rw [m_mayBeLaid_L104.eq_1]
          try rw [hL_104] at hk_104
          exact hk_104 _ (lv_sub hl [1] rfl) (hinv_104a)
        | succ n_104 ih_104 =>
          intro i_104 x2_104 hin_104 ls hl hinv_104a hk_104
          refine lv_iload hx hb dX8_mayBeLaid_104 (lv_at hl 2 rfl) ?_
          refine lv_bipush (v := 8) hx hb dX8_mayBeLaid_106 (by decide) ?_
          refine lv_icmp_ge (tgt := 224) hx hb dX8_mayBeLaid_108 (by decide) (fun c_17 => absurd c_17 (kct_lt (N := 8) rfl (by omega))) (fun _ => ?_)
          refine lv_aload_n hx hb dX8_mayBeLaid_111 rfl (lv_at hl 0 rfl) ?_
          refine lv_bipush (v := 98) hx hb dX8_mayBeLaid_112 (by decide) ?_
          refine lv_iload hx hb dX8_mayBeLaid_114 (lv_at hl 2 rfl) ?_
          refine k_rV (v := .int (m_told RA RN 98 (nI i_104))) (As := [.int 98, .int (nI i_104)]) (rest := []) hx hb hml hown hts hl.1 hP hK hN (c_m_told hI 98 (nI i_104) (show (RN 3) ≤ 170 by omega)) eX8_132 (ci := 7) (q0 := 0) rfl rfl rfl rfl rfl (Nat.le_of_ble_eq_true rfl) ⟨Nat.le_of_ble_eq_true rfl, Nat.le_of_ble_eq_true rfl⟩ ⟨rfl, rfl⟩ ⟨Nat.le_of_ble_eq_true rfl, Nat.le_of_ble_eq_true rfl⟩ dX8_mayBeLaid_116 ?_
          refine lv_if_ne (tgt := 127) hx hb dX8_mayBeLaid_119 (by decide) (fun c_18 => ?_) (fun c_18 => ?_)
          · refine lv_iconst (v := 0) hx hb dX8_mayBeLaid_127 (by decide) ?_
            refine lv_istore (lv' := [(5, .int 0), (0, .ref (ad 0)), (2, .int x2_104), (4, .int (nI i_104))]) hx hb dX8_mayBeLaid_128 hl (by decide) rfl (fun ls hl => ?_)
            refine lv_iconst (v := 0) hx hb dX8_mayBeLaid_130 (by decide) ?_
            refine lv_istore (lv' := [(6, .int 0), (5, .int 0), (0, .ref (ad 0)), (2, .int x2_104), (4, .int (nI i_104))]) hx hb dX8_mayBeLaid_131 hl (by decide) rfl (fun ls hl => ?_)
            have rest_133 : ∀ (x5_133 : Int32), ∀ (ls : Array Slot), lv_has ls 7 [(0, .ref (ad 0)), (2, .int x2_104), (4, .int (nI i_104)), (5, .int x5_133)] → (m_mayBeLaid_b104 RA RN i_104 x2_104) = m_mayBeLaid_b104_k133 x2_104 x5_133 → W p l e ({ frames := 1, cells := 0, slots := 0, locals := 24 } : Room) s m args below meth c s.heap [] 0 0 (MQ below (kR (some (.int (m_mayBeLaid RA RN)))) args s 0 0 (fun _ => False)) (F0 m 201 ls []) := by
              intro x5_133 ls hl  hF_133
              refine lv_iload_n hx hb dX8_mayBeLaid_201 rfl (lv_at hl 1 rfl) ?_
              refine lv_if_eq (tgt := 216) hx hb dX8_mayBeLaid_202 (by decide) (fun c_19 => ?_) (fun c_19 => ?_)
              · refine lv_iconst (v := 0) hx hb dX8_mayBeLaid_216 (by decide) ?_
                refine lv_istore_n (lv' := [(2, .int 0), (0, .ref (ad 0)), (4, .int (nI i_104)), (5, .int x5_133)]) hx hb dX8_mayBeLaid_217 rfl hl (by decide) rfl (fun ls hl => ?_)
                refine lv_iinc (v := (nI (i_104 + 1))) (lv' := [(4, .int (nI (i_104 + 1))), (2, .int 0), (0, .ref (ad 0)), (5, .int x5_133)]) hx hb dX8_mayBeLaid_218 hl (k := 2) rfl (nI_add _ _) (by decide) rfl (fun ls hl => ?_)
                refine lv_goto (tgt := 104) hx hb dX8_mayBeLaid_221 (by decide) ?_
                have hb_104 : (m_mayBeLaid_b104 RA RN i_104 x2_104) = 0 := hF_133.trans (by rw [m_mayBeLaid_b104_k133, if_pos c_19])
                have hL_104 : (m_mayBeLaid_L104 RA RN (n_104 + 1) i_104 x2_104) = (m_mayBeLaid_L104 RA RN n_104 (i_104 + 1) 0) := by rw [m_mayBeLaid_L104.eq_2, hb_104]
                try rw [hL_104] at hk_104
                exact ih_104 (i_104 + 1) 0 (by omega) _ (lv_sub hl [2, 1, 0] rfl) (by first | exact Or.inl rfl | exact Or.inr rfl | assumption) hk_104
              · refine lv_iload hx hb dX8_mayBeLaid_205 (lv_at hl 3 rfl) ?_
                refine lv_bipush (v := 10) hx hb dX8_mayBeLaid_207 (by decide) ?_
                refine lv_icmp_ne (tgt := 216) hx hb dX8_mayBeLaid_209 (by decide) (fun c_20 => ?_) (fun c_20 => ?_)
                · refine lv_iconst (v := 0) hx hb dX8_mayBeLaid_216 (by decide) ?_
                  refine lv_istore_n (lv' := [(2, .int 0), (0, .ref (ad 0)), (4, .int (nI i_104)), (5, .int x5_133)]) hx hb dX8_mayBeLaid_217 rfl hl (by decide) rfl (fun ls hl => ?_)
                  refine lv_iinc (v := (nI (i_104 + 1))) (lv' := [(4, .int (nI (i_104 + 1))), (2, .int 0), (0, .ref (ad 0)), (5, .int x5_133)]) hx hb dX8_mayBeLaid_218 hl (k := 2) rfl (nI_add _ _) (by decide) rfl (fun ls hl => ?_)
                  refine lv_goto (tgt := 104) hx hb dX8_mayBeLaid_221 (by decide) ?_
                  have hb_104 : (m_mayBeLaid_b104 RA RN i_104 x2_104) = 0 := hF_133.trans (by rw [m_mayBeLaid_b104_k133, if_neg c_19, if_neg c_20])
                  have hL_104 : (m_mayBeLaid_L104 RA RN (n_104 + 1) i_104 x2_104) = (m_mayBeLaid_L104 RA RN n_104 (i_104 + 1) 0) := by rw [m_mayBeLaid_L104.eq_2, hb_104]
                  try rw [hL_104] at hk_104
                  exact ih_104 (i_104 + 1) 0 (by omega) _ (lv_sub hl [2, 1, 0] rfl) (by first | exact Or.inl rfl | exact Or.inr rfl | assumption) hk_104
                · refine lv_iconst (v := 1) hx hb dX8_mayBeLaid_212 (by decide) ?_
                  refine lv_goto (tgt := 217) hx hb dX8_mayBeLaid_213 (by decide) ?_
                  refine lv_istore_n (lv' := [(2, .int 1), (0, .ref (ad 0)), (4, .int (nI i_104)), (5, .int x5_133)]) hx hb dX8_mayBeLaid_217 rfl hl (by decide) rfl (fun ls hl => ?_)
                  refine lv_iinc (v := (nI (i_104 + 1))) (lv' := [(4, .int (nI (i_104 + 1))), (2, .int 1), (0, .ref (ad 0)), (5, .int x5_133)]) hx hb dX8_mayBeLaid_218 hl (k := 2) rfl (nI_add _ _) (by decide) rfl (fun ls hl => ?_)
                  refine lv_goto (tgt := 104) hx hb dX8_mayBeLaid_221 (by decide) ?_
                  have hb_104 : (m_mayBeLaid_b104 RA RN i_104 x2_104) = 1 := hF_133.trans (by rw [m_mayBeLaid_b104_k133, if_neg c_19, if_pos c_20])
                  have hL_104 : (m_mayBeLaid_L104 RA RN (n_104 + 1) i_104 x2_104) = (m_mayBeLaid_L104 RA RN n_104 (i_104 + 1) 1) := by rw [m_mayBeLaid_L104.eq_2, hb_104]
                  try rw [hL_104] at hk_104
                  exact ih_104 (i_104 + 1) 1 (by omega) _ (lv_sub hl [2, 1, 0] rfl) (by first | exact Or.inl rfl | exact Or.inr rfl | assumption) hk_104
            have loop_133 : ∀ (n_133 i_133 : Nat) (x5_133 : Int32), i_133 + n_133 = (RN 3) → ∀ (ls : Array Slot), lv_has ls 7 [(0, .ref (ad 0)), (2, .int x2_104), (4, .int (nI i_104)), (5, .int x5_133), (6, .int (nI i_133))] → (∀ (ls : Array Slot), lv_has ls 7 [(0, .ref (ad 0)), (2, .int x2_104), (4, .int (nI i_104)), (5, .int (m_mayBeLaid_L133 RA i_104 n_133 i_133 x5_133))] → W p l e ({ frames := 1, cells := 0, slots := 0, locals := 24 } : Room) s m args below meth c s.heap [] 0 0 (MQ below (kR (some (.int (m_mayBeLaid RA RN)))) args s 0 0 (fun _ => False)) (F0 m 201 ls [])) → W p l e ({ frames := 1, cells := 0, slots := 0, locals := 24 } : Room) s m args below meth c s.heap [] 0 0 (MQ below (kR (some (.int (m_mayBeLaid RA RN)))) args s 0 0 (fun _ => False)) (F0 m 133 ls []) := by
              intro n_133
              induction n_133 with
              | zero =>
                intro i_133 x5_133 hin_133 ls hl  hk_133
                refine lv_iload hx hb dX8_mayBeLaid_133 (lv_at hl 4 rfl) ?_
                refine lv_aload_n hx hb dX8_mayBeLaid_135 rfl (lv_at hl 0 rfl) ?_
                refine m_get (v := .int (nI (RN 3))) hx hb hts hown hK hP 3 (by decide) rfl kX8_111 rfl dX8_mayBeLaid_136 ?_
                refine lv_icmp_ge (tgt := 201) hx hb dX8_mayBeLaid_139 (by decide) (fun _ => ?_) (fun c_21 => absurd (kct_ge (N := (RN 3)) (nI_clamp (by omega)) (by omega) (by omega)) c_21)
                have hL_133 : (m_mayBeLaid_L133 RA i_104 0 i_133 x5_133) = x5_133 := by rw [m_mayBeLaid_L133.eq_1]
                try rw [hL_133] at hk_133
                exact hk_133 _ (lv_sub hl [0, 1, 2, 3] rfl) 
              | succ n_133 ih_133 =>
                intro i_133 x5_133 hin_133 ls hl  hk_133
                refine lv_iload hx hb dX8_mayBeLaid_133 (lv_at hl 4 rfl) ?_
                refine lv_aload_n hx hb dX8_mayBeLaid_135 rfl (lv_at hl 0 rfl) ?_
                refine m_get (v := .int (nI (RN 3))) hx hb hts hown hK hP 3 (by decide) rfl kX8_111 rfl dX8_mayBeLaid_136 ?_
                refine lv_icmp_ge (tgt := 201) hx hb dX8_mayBeLaid_139 (by decide) (fun c_22 => absurd c_22 (kct_lt (N := (RN 3)) (nI_clamp (by omega)) (by omega))) (fun _ => ?_)
                refine lv_iload hx hb dX8_mayBeLaid_142 (lv_at hl 3 rfl) ?_
                refine lv_aload_n hx hb dX8_mayBeLaid_144 rfl (lv_at hl 0 rfl) ?_
                refine m_get (v := .ref (ad 2)) hx hb hts hown hK hP 2 (by decide) rfl kX8_13 rfl dX8_mayBeLaid_145 ?_
                refine lv_bipush (v := 7) hx hb dX8_mayBeLaid_148 (by decide) ?_
                refine lv_iload hx hb dX8_mayBeLaid_150 (lv_at hl 4 rfl) ?_
                refine kn_imul hx hb 7 i_133 rfl rfl dX8_mayBeLaid_152 ?_
                refine kn_iald (f := (RA 2)) (v := (RA 2 (7 * i_133))) hx hb hK hP 2 rfl (7 * i_133) rfl (by omega) (by omega) rfl dX8_mayBeLaid_153 ?_
                refine lv_bipush (v := 98) hx hb dX8_mayBeLaid_154 (by decide) ?_
                refine lv_icmp_ne (tgt := 191) hx hb dX8_mayBeLaid_156 (by decide) (fun c_23 => ?_) (fun c_23 => ?_)
                · refine lv_iconst (v := 0) hx hb dX8_mayBeLaid_191 (by decide) ?_
                  refine lv_iadd hx hb dX8_mayBeLaid_192 ?_
                  refine lv_istore (lv' := [(5, .int (x5_133 + 0)), (0, .ref (ad 0)), (2, .int x2_104), (4, .int (nI i_104)), (6, .int (nI i_133))]) hx hb dX8_mayBeLaid_193 hl (by decide) rfl (fun ls hl => ?_)
                  refine lv_iinc (v := (nI (i_133 + 1))) (lv' := [(6, .int (nI (i_133 + 1))), (5, .int (x5_133 + 0)), (0, .ref (ad 0)), (2, .int x2_104), (4, .int (nI i_104))]) hx hb dX8_mayBeLaid_195 hl (k := 4) rfl (nI_add _ _) (by decide) rfl (fun ls hl => ?_)
                  refine lv_goto (tgt := 133) hx hb dX8_mayBeLaid_198 (by decide) ?_
                  have hL_133 : (m_mayBeLaid_L133 RA i_104 (n_133 + 1) i_133 x5_133) = (m_mayBeLaid_L133 RA i_104 n_133 (i_133 + 1) (x5_133 + 0)) := by rw [m_mayBeLaid_L133.eq_2, if_neg c_23]
                  try rw [hL_133] at hk_133
                  exact ih_133 (i_133 + 1) (x5_133 + 0) (by omega) _ (lv_sub hl [2, 3, 4, 1, 0] rfl)  hk_133
                · refine lv_aload_n hx hb dX8_mayBeLaid_159 rfl (lv_at hl 0 rfl) ?_
                  refine m_get (v := .ref (ad 2)) hx hb hts hown hK hP 2 (by decide) rfl kX8_13 rfl dX8_mayBeLaid_160 ?_
                  refine lv_bipush (v := 7) hx hb dX8_mayBeLaid_163 (by decide) ?_
                  refine lv_iload hx hb dX8_mayBeLaid_165 (lv_at hl 4 rfl) ?_
                  refine kn_imul hx hb 7 i_133 rfl rfl dX8_mayBeLaid_167 ?_
                  refine lv_iconst (v := 1) hx hb dX8_mayBeLaid_168 (by decide) ?_
                  refine kn_iadd hx hb (7 * i_133) 1 rfl rfl dX8_mayBeLaid_169 ?_
                  refine kn_iald (f := (RA 2)) (v := (RA 2 ((7 * i_133) + 1))) hx hb hK hP 2 rfl ((7 * i_133) + 1) rfl (by omega) (by omega) rfl dX8_mayBeLaid_170 ?_
                  refine lv_iload hx hb dX8_mayBeLaid_171 (lv_at hl 2 rfl) ?_
                  refine lv_icmp_ne (tgt := 191) hx hb dX8_mayBeLaid_173 (by decide) (fun c_24 => ?_) (fun c_24 => ?_)
                  · refine lv_iconst (v := 0) hx hb dX8_mayBeLaid_191 (by decide) ?_
                    refine lv_iadd hx hb dX8_mayBeLaid_192 ?_
                    refine lv_istore (lv' := [(5, .int (x5_133 + 0)), (0, .ref (ad 0)), (2, .int x2_104), (4, .int (nI i_104)), (6, .int (nI i_133))]) hx hb dX8_mayBeLaid_193 hl (by decide) rfl (fun ls hl => ?_)
                    refine lv_iinc (v := (nI (i_133 + 1))) (lv' := [(6, .int (nI (i_133 + 1))), (5, .int (x5_133 + 0)), (0, .ref (ad 0)), (2, .int x2_104), (4, .int (nI i_104))]) hx hb dX8_mayBeLaid_195 hl (k := 4) rfl (nI_add _ _) (by decide) rfl (fun ls hl => ?_)
                    refine lv_goto (tgt := 133) hx hb dX8_mayBeLaid_198 (by decide) ?_
                    have hL_133 : (m_mayBeLaid_L133 RA i_104 (n_133 + 1) i_133 x5_133) = (m_mayBeLaid_L133 RA i_104 n_133 (i_133 + 1) (x5_133 + 0)) := by rw [m_mayBeLaid_L133.eq_2, if_pos c_23, if_neg c_24]
                    try rw [hL_133] at hk_133
                    exact ih_133 (i_133 + 1) (x5_133 + 0) (by omega) _ (lv_sub hl [2, 3, 4, 1, 0] rfl)  hk_133
                  · refine lv_aload_n hx hb dX8_mayBeLaid_176 rfl (lv_at hl 0 rfl) ?_
                    refine m_get (v := .ref (ad 2)) hx hb hts hown hK hP 2 (by decide) rfl kX8_13 rfl dX8_mayBeLaid_177 ?_
                    refine lv_bipush (v := 7) hx hb dX8_mayBeLaid_180 (by decide) ?_
                    refine lv_iload hx hb dX8_mayBeLaid_182 (lv_at hl 4 rfl) ?_
                    refine kn_imul hx hb 7 i_133 rfl rfl dX8_mayBeLaid_184 ?_
                    refine lv_iconst (v := 3) hx hb dX8_mayBeLaid_185 (by decide) ?_
                    refine kn_iadd hx hb (7 * i_133) 3 rfl rfl dX8_mayBeLaid_186 ?_
                    refine kn_iald (f := (RA 2)) (v := (RA 2 ((7 * i_133) + 3))) hx hb hK hP 2 rfl ((7 * i_133) + 3) rfl (by omega) (by omega) rfl dX8_mayBeLaid_187 ?_
                    refine lv_goto (tgt := 192) hx hb dX8_mayBeLaid_188 (by decide) ?_
                    refine lv_iadd hx hb dX8_mayBeLaid_192 ?_
                    refine lv_istore (lv' := [(5, .int (x5_133 + (RA 2 ((7 * i_133) + 3)))), (0, .ref (ad 0)), (2, .int x2_104), (4, .int (nI i_104)), (6, .int (nI i_133))]) hx hb dX8_mayBeLaid_193 hl (by decide) rfl (fun ls hl => ?_)
                    refine lv_iinc (v := (nI (i_133 + 1))) (lv' := [(6, .int (nI (i_133 + 1))), (5, .int (x5_133 + (RA 2 ((7 * i_133) + 3)))), (0, .ref (ad 0)), (2, .int x2_104), (4, .int (nI i_104))]) hx hb dX8_mayBeLaid_195 hl (k := 4) rfl (nI_add _ _) (by decide) rfl (fun ls hl => ?_)
                    refine lv_goto (tgt := 133) hx hb dX8_mayBeLaid_198 (by decide) ?_
                    have hL_133 : (m_mayBeLaid_L133 RA i_104 (n_133 + 1) i_133 x5_133) = (m_mayBeLaid_L133 RA i_104 n_133 (i_133 + 1) (x5_133 + (RA 2 ((7 * i_133) + 3)))) := by rw [m_mayBeLaid_L133.eq_2, if_pos c_23, if_pos c_24]
                    try rw [hL_133] at hk_133
                    exact ih_133 (i_133 + 1) (x5_133 + (RA 2 ((7 * i_133) + 3))) (by omega) _ (lv_sub hl [2, 3, 4, 1, 0] rfl)  hk_133
            exact loop_133 (RN 3) 0 0 (by omega) _ (lv_sub hl [2, 3, 4, 1, 0] rfl)  (fun ls hl  => rest_133 (m_mayBeLaid_L133 RA i_104 (RN 3) 0 0) _ hl  (by rw [m_mayBeLaid_b104, if_neg c_18]))
          · refine lv_bipush (v := 10) hx hb dX8_mayBeLaid_122 (by decide) ?_
            refine lv_goto (tgt := 128) hx hb dX8_mayBeLaid_124 (by decide) ?_
            refine lv_istore (lv' := [(5, .int 10), (0, .ref (ad 0)), (2, .int x2_104), (4, .int (nI i_104))]) hx hb dX8_mayBeLaid_128 hl (by decide) rfl (fun ls hl => ?_)
            refine lv_iconst (v := 0) hx hb dX8_mayBeLaid_130 (by decide) ?_
            refine lv_istore (lv' := [(6, .int 0), (5, .int 10), (0, .ref (ad 0)), (2, .int x2_104), (4, .int (nI i_104))]) hx hb dX8_mayBeLaid_131 hl (by decide) rfl (fun ls hl => ?_)
            have rest_133 : ∀ (x5_133 : Int32), ∀ (ls : Array Slot), lv_has ls 7 [(0, .ref (ad 0)), (2, .int x2_104), (4, .int (nI i_104)), (5, .int x5_133)] → (m_mayBeLaid_b104 RA RN i_104 x2_104) = m_mayBeLaid_b104_k133 x2_104 x5_133 → W p l e ({ frames := 1, cells := 0, slots := 0, locals := 24 } : Room) s m args below meth c s.heap [] 0 0 (MQ below (kR (some (.int (m_mayBeLaid RA RN)))) args s 0 0 (fun _ => False)) (F0 m 201 ls []) := by
              intro x5_133 ls hl  hF_133
              refine lv_iload_n hx hb dX8_mayBeLaid_201 rfl (lv_at hl 1 rfl) ?_
              refine lv_if_eq (tgt := 216) hx hb dX8_mayBeLaid_202 (by decide) (fun c_25 => ?_) (fun c_25 => ?_)
              · refine lv_iconst (v := 0) hx hb dX8_mayBeLaid_216 (by decide) ?_
                refine lv_istore_n (lv' := [(2, .int 0), (0, .ref (ad 0)), (4, .int (nI i_104)), (5, .int x5_133)]) hx hb dX8_mayBeLaid_217 rfl hl (by decide) rfl (fun ls hl => ?_)
                refine lv_iinc (v := (nI (i_104 + 1))) (lv' := [(4, .int (nI (i_104 + 1))), (2, .int 0), (0, .ref (ad 0)), (5, .int x5_133)]) hx hb dX8_mayBeLaid_218 hl (k := 2) rfl (nI_add _ _) (by decide) rfl (fun ls hl => ?_)
                refine lv_goto (tgt := 104) hx hb dX8_mayBeLaid_221 (by decide) ?_
                have hb_104 : (m_mayBeLaid_b104 RA RN i_104 x2_104) = 0 := hF_133.trans (by rw [m_mayBeLaid_b104_k133, if_pos c_25])
                have hL_104 : (m_mayBeLaid_L104 RA RN (n_104 + 1) i_104 x2_104) = (m_mayBeLaid_L104 RA RN n_104 (i_104 + 1) 0) := by rw [m_mayBeLaid_L104.eq_2, hb_104]
                try rw [hL_104] at hk_104
                exact ih_104 (i_104 + 1) 0 (by omega) _ (lv_sub hl [2, 1, 0] rfl) (by first | exact Or.inl rfl | exact Or.inr rfl | assumption) hk_104
              · refine lv_iload hx hb dX8_mayBeLaid_205 (lv_at hl 3 rfl) ?_
                refine lv_bipush (v := 10) hx hb dX8_mayBeLaid_207 (by decide) ?_
                refine lv_icmp_ne (tgt := 216) hx hb dX8_mayBeLaid_209 (by decide) (fun c_26 => ?_) (fun c_26 => ?_)
                · refine lv_iconst (v := 0) hx hb dX8_mayBeLaid_216 (by decide) ?_
                  refine lv_istore_n (lv' := [(2, .int 0), (0, .ref (ad 0)), (4, .int (nI i_104)), (5, .int x5_133)]) hx hb dX8_mayBeLaid_217 rfl hl (by decide) rfl (fun ls hl => ?_)
                  refine lv_iinc (v := (nI (i_104 + 1))) (lv' := [(4, .int (nI (i_104 + 1))), (2, .int 0), (0, .ref (ad 0)), (5, .int x5_133)]) hx hb dX8_mayBeLaid_218 hl (k := 2) rfl (nI_add _ _) (by decide) rfl (fun ls hl => ?_)
                  refine lv_goto (tgt := 104) hx hb dX8_mayBeLaid_221 (by decide) ?_
                  have hb_104 : (m_mayBeLaid_b104 RA RN i_104 x2_104) = 0 := hF_133.trans (by rw [m_mayBeLaid_b104_k133, if_neg c_25, if_neg c_26])
                  have hL_104 : (m_mayBeLaid_L104 RA RN (n_104 + 1) i_104 x2_104) = (m_mayBeLaid_L104 RA RN n_104 (i_104 + 1) 0) := by rw [m_mayBeLaid_L104.eq_2, hb_104]
                  try rw [hL_104] at hk_104
                  exact ih_104 (i_104 + 1) 0 (by omega) _ (lv_sub hl [2, 1, 0] rfl) (by first | exact Or.inl rfl | exact Or.inr rfl | assumption) hk_104
                · refine lv_iconst (v := 1) hx hb dX8_mayBeLaid_212 (by decide) ?_
                  refine lv_goto (tgt := 217) hx hb dX8_mayBeLaid_213 (by decide) ?_
                  refine lv_istore_n (lv' := [(2, .int 1), (0, .ref (ad 0)), (4, .int (nI i_104)), (5, .int x5_133)]) hx hb dX8_mayBeLaid_217 rfl hl (by decide) rfl (fun ls hl => ?_)
                  refine lv_iinc (v := (nI (i_104 + 1))) (lv' := [(4, .int (nI (i_104 + 1))), (2, .int 1), (0, .ref (ad 0)), (5, .int x5_133)]) hx hb dX8_mayBeLaid_218 hl (k := 2) rfl (nI_add _ _) (by decide) rfl (fun ls hl => ?_)
                  refine lv_goto (tgt := 104) hx hb dX8_mayBeLaid_221 (by decide) ?_
                  have hb_104 : (m_mayBeLaid_b104 RA RN i_104 x2_104) = 1 := hF_133.trans (by rw [m_mayBeLaid_b104_k133, if_neg c_25, if_pos c_26])
                  have hL_104 : (m_mayBeLaid_L104 RA RN (n_104 + 1) i_104 x2_104) = (m_mayBeLaid_L104 RA RN n_104 (i_104 + 1) 1) := by rw [m_mayBeLaid_L104.eq_2, hb_104]
                  try rw [hL_104] at hk_104
                  exact ih_104 (i_104 + 1) 1 (by omega) _ (lv_sub hl [2, 1, 0] rfl) (by first | exact Or.inl rfl | exact Or.inr rfl | assumption) hk_104
            have loop_133 : ∀ (n_133 i_133 : Nat) (x5_133 : Int32), i_133 + n_133 = (RN 3) → ∀ (ls : Array Slot), lv_has ls 7 [(0, .ref (ad 0)), (2, .int x2_104), (4, .int (nI i_104)), (5, .int x5_133), (6, .int (nI i_133))] → (∀ (ls : Array Slot), lv_has ls 7 [(0, .ref (ad 0)), (2, .int x2_104), (4, .int (nI i_104)), (5, .int (m_mayBeLaid_L133 RA i_104 n_133 i_133 x5_133))] → W p l e ({ frames := 1, cells := 0, slots := 0, locals := 24 } : Room) s m args below meth c s.heap [] 0 0 (MQ below (kR (some (.int (m_mayBeLaid RA RN)))) args s 0 0 (fun _ => False)) (F0 m 201 ls [])) → W p l e ({ frames := 1, cells := 0, slots := 0, locals := 24 } : Room) s m args below meth c s.heap [] 0 0 (MQ below (kR (some (.int (m_mayBeLaid RA RN)))) args s 0 0 (fun _ => False)) (F0 m 133 ls []) := by
              intro n_133
              induction n_133 with
              | zero =>
                intro i_133 x5_133 hin_133 ls hl  hk_133
                refine lv_iload hx hb dX8_mayBeLaid_133 (lv_at hl 4 rfl) ?_
                refine lv_aload_n hx hb dX8_mayBeLaid_135 rfl (lv_at hl 0 rfl) ?_
                refine m_get (v := .int (nI (RN 3))) hx hb hts hown hK hP 3 (by decide) rfl kX8_111 rfl dX8_mayBeLaid_136 ?_
                refine lv_icmp_ge (tgt := 201) hx hb dX8_mayBeLaid_139 (by decide) (fun _ => ?_) (fun c_27 => absurd (kct_ge (N := (RN 3)) (nI_clamp (by omega)) (by omega) (by omega)) c_27)
                have hL_133 : (m_mayBeLaid_L133 RA i_104 0 i_133 x5_133) = x5_133 := by rw [m_mayBeLaid_L133.eq_1]
                try rw [hL_133] at hk_133
                exact hk_133 _ (lv_sub hl [0, 1, 2, 3] rfl) 
              | succ n_133 ih_133 =>
                intro i_133 x5_133 hin_133 ls hl  hk_133
                refine lv_iload hx hb dX8_mayBeLaid_133 (lv_at hl 4 rfl) ?_
                refine lv_aload_n hx hb dX8_mayBeLaid_135 rfl (lv_at hl 0 rfl) ?_
                refine m_get (v := .int (nI (RN 3))) hx hb hts hown hK hP 3 (by decide) rfl kX8_111 rfl dX8_mayBeLaid_136 ?_
                refine lv_icmp_ge (tgt := 201) hx hb dX8_mayBeLaid_139 (by decide) (fun c_28 => absurd c_28 (kct_lt (N := (RN 3)) (nI_clamp (by omega)) (by omega))) (fun _ => ?_)
                refine lv_iload hx hb dX8_mayBeLaid_142 (lv_at hl 3 rfl) ?_
                refine lv_aload_n hx hb dX8_mayBeLaid_144 rfl (lv_at hl 0 rfl) ?_
                refine m_get (v := .ref (ad 2)) hx hb hts hown hK hP 2 (by decide) rfl kX8_13 rfl dX8_mayBeLaid_145 ?_
                refine lv_bipush (v := 7) hx hb dX8_mayBeLaid_148 (by decide) ?_
                refine lv_iload hx hb dX8_mayBeLaid_150 (lv_at hl 4 rfl) ?_
                refine kn_imul hx hb 7 i_133 rfl rfl dX8_mayBeLaid_152 ?_
                refine kn_iald (f := (RA 2)) (v := (RA 2 (7 * i_133))) hx hb hK hP 2 rfl (7 * i_133) rfl (by omega) (by omega) rfl dX8_mayBeLaid_153 ?_
                refine lv_bipush (v := 98) hx hb dX8_mayBeLaid_154 (by decide) ?_
                refine lv_icmp_ne (tgt := 191) hx hb dX8_mayBeLaid_156 (by decide) (fun c_29 => ?_) (fun c_29 => ?_)
                · refine lv_iconst (v := 0) hx hb dX8_mayBeLaid_191 (by decide) ?_
                  refine lv_iadd hx hb dX8_mayBeLaid_192 ?_
                  refine lv_istore (lv' := [(5, .int (x5_133 + 0)), (0, .ref (ad 0)), (2, .int x2_104), (4, .int (nI i_104)), (6, .int (nI i_133))]) hx hb dX8_mayBeLaid_193 hl (by decide) rfl (fun ls hl => ?_)
                  refine lv_iinc (v := (nI (i_133 + 1))) (lv' := [(6, .int (nI (i_133 + 1))), (5, .int (x5_133 + 0)), (0, .ref (ad 0)), (2, .int x2_104), (4, .int (nI i_104))]) hx hb dX8_mayBeLaid_195 hl (k := 4) rfl (nI_add _ _) (by decide) rfl (fun ls hl => ?_)
                  refine lv_goto (tgt := 133) hx hb dX8_mayBeLaid_198 (by decide) ?_
                  have hL_133 : (m_mayBeLaid_L133 RA i_104 (n_133 + 1) i_133 x5_133) = (m_mayBeLaid_L133 RA i_104 n_133 (i_133 + 1) (x5_133 + 0)) := by rw [m_mayBeLaid_L133.eq_2, if_neg c_29]
                  try rw [hL_133] at hk_133
                  exact ih_133 (i_133 + 1) (x5_133 + 0) (by omega) _ (lv_sub hl [2, 3, 4, 1, 0] rfl)  hk_133
                · refine lv_aload_n hx hb dX8_mayBeLaid_159 rfl (lv_at hl 0 rfl) ?_
                  refine m_get (v := .ref (ad 2)) hx hb hts hown hK hP 2 (by decide) rfl kX8_13 rfl dX8_mayBeLaid_160 ?_
                  refine lv_bipush (v := 7) hx hb dX8_mayBeLaid_163 (by decide) ?_
                  refine lv_iload hx hb dX8_mayBeLaid_165 (lv_at hl 4 rfl) ?_
                  refine kn_imul hx hb 7 i_133 rfl rfl dX8_mayBeLaid_167 ?_
                  refine lv_iconst (v := 1) hx hb dX8_mayBeLaid_168 (by decide) ?_
                  refine kn_iadd hx hb (7 * i_133) 1 rfl rfl dX8_mayBeLaid_169 ?_
                  refine kn_iald (f := (RA 2)) (v := (RA 2 ((7 * i_133) + 1))) hx hb hK hP 2 rfl ((7 * i_133) + 1) rfl (by omega) (by omega) rfl dX8_mayBeLaid_170 ?_
                  refine lv_iload hx hb dX8_mayBeLaid_171 (lv_at hl 2 rfl) ?_
                  refine lv_icmp_ne (tgt := 191) hx hb dX8_mayBeLaid_173 (by decide) (fun c_30 => ?_) (fun c_30 => ?_)
                  · refine lv_iconst (v := 0) hx hb dX8_mayBeLaid_191 (by decide) ?_
                    refine lv_iadd hx hb dX8_mayBeLaid_192 ?_
                    refine lv_istore (lv' := [(5, .int (x5_133 + 0)), (0, .ref (ad 0)), (2, .int x2_104), (4, .int (nI i_104)), (6, .int (nI i_133))]) hx hb dX8_mayBeLaid_193 hl (by decide) rfl (fun ls hl => ?_)
                    refine lv_iinc (v := (nI (i_133 + 1))) (lv' := [(6, .int (nI (i_133 + 1))), (5, .int (x5_133 + 0)), (0, .ref (ad 0)), (2, .int x2_104), (4, .int (nI i_104))]) hx hb dX8_mayBeLaid_195 hl (k := 4) rfl (nI_add _ _) (by decide) rfl (fun ls hl => ?_)
                    refine lv_goto (tgt := 133) hx hb dX8_mayBeLaid_198 (by decide) ?_
                    have hL_133 : (m_mayBeLaid_L133 RA i_104 (n_133 + 1) i_133 x5_133) = (m_mayBeLaid_L133 RA i_104 n_133 (i_133 + 1) (x5_133 + 0)) := by rw [m_mayBeLaid_L133.eq_2, if_pos c_29, if_neg c_30]
                    try rw [hL_133] at hk_133
                    exact ih_133 (i_133 + 1) (x5_133 + 0) (by omega) _ (lv_sub hl [2, 3, 4, 1, 0] rfl)  hk_133
                  · refine lv_aload_n hx hb dX8_mayBeLaid_176 rfl (lv_at hl 0 rfl) ?_
                    refine m_get (v := .ref (ad 2)) hx hb hts hown hK hP 2 (by decide) rfl kX8_13 rfl dX8_mayBeLaid_177 ?_
                    refine lv_bipush (v := 7) hx hb dX8_mayBeLaid_180 (by decide) ?_
                    refine lv_iload hx hb dX8_mayBeLaid_182 (lv_at hl 4 rfl) ?_
                    refine kn_imul hx hb 7 i_133 rfl rfl dX8_mayBeLaid_184 ?_
                    refine lv_iconst (v := 3) hx hb dX8_mayBeLaid_185 (by decide) ?_
                    refine kn_iadd hx hb (7 * i_133) 3 rfl rfl dX8_mayBeLaid_186 ?_
                    refine kn_iald (f := (RA 2)) (v := (RA 2 ((7 * i_133) + 3))) hx hb hK hP 2 rfl ((7 * i_133) + 3) rfl (by omega) (by omega) rfl dX8_mayBeLaid_187 ?_
                    refine lv_goto (tgt := 192) hx hb dX8_mayBeLaid_188 (by decide) ?_
                    refine lv_iadd hx hb dX8_mayBeLaid_192 ?_
                    refine lv_istore (lv' := [(5, .int (x5_133 + (RA 2 ((7 * i_133) + 3)))), (0, .ref (ad 0)), (2, .int x2_104), (4, .int (nI i_104)), (6, .int (nI i_133))]) hx hb dX8_mayBeLaid_193 hl (by decide) rfl (fun ls hl => ?_)
                    refine lv_iinc (v := (nI (i_133 + 1))) (lv' := [(6, .int (nI (i_133 + 1))), (5, .int (x5_133 + (RA 2 ((7 * i_133) + 3)))), (0, .ref (ad 0)), (2, .int x2_104), (4, .int (nI i_104))]) hx hb dX8_mayBeLaid_195 hl (k := 4) rfl (nI_add _ _) (by decide) rfl (fun ls hl => ?_)
                    refine lv_goto (tgt := 133) hx hb dX8_mayBeLaid_198 (by decide) ?_
                    have hL_133 : (m_mayBeLaid_L133 RA i_104 (n_133 + 1) i_133 x5_133) = (m_mayBeLaid_L133 RA i_104 n_133 (i_133 + 1) (x5_133 + (RA 2 ((7 * i_133) + 3)))) := by rw [m_mayBeLaid_L133.eq_2, if_pos c_29, if_pos c_30]
                    try rw [hL_133] at hk_133
                    exact ih_133 (i_133 + 1) (x5_133 + (RA 2 ((7 * i_133) + 3))) (by omega) _ (lv_sub hl [2, 3, 4, 1, 0] rfl)  hk_133
            exact loop_133 (RN 3) 0 10 (by omega) _ (lv_sub hl [2, 3, 4, 1, 0] rfl)  (fun ls hl  => rest_133 (m_mayBeLaid_L133 RA i_104 (RN 3) 0 10) _ hl  (by rw [m_mayBeLaid_b104, if_pos c_18]))
      exact loop_104 8 0 x2_24 (by omega) _ (lv_sub hl [1, 2, 0] rfl) (hx_24a) (fun ls hl hx_104a => rest_104 (m_mayBeLaid_L104 RA RN 8 0 x2_24) _ hl hx_104a (hF_24.trans (by rw [m_mayBeLaid_k24])))
    have loop_24 : ∀ (n_24 i_24 : Nat) (x2_24 : Int32) (x3_24 : Int32), i_24 + n_24 = (RN 3) → ∀ (ls : Array Slot), lv_has ls 7 [(0, .ref (ad 0)), (1, .int (m_told RA RN 114 (-4))), (2, .int x2_24), (3, .int x3_24), (4, .int (nI i_24))] → (x2_24 = 0 ∨ x2_24 = 1) → (∀ (ls : Array Slot), lv_has ls 7 [(0, .ref (ad 0)), (2, .int ((m_mayBeLaid_L24 RA (m_told RA RN 114 (-4)) n_24 i_24 x2_24 x3_24).1))] → ((m_mayBeLaid_L24 RA (m_told RA RN 114 (-4)) n_24 i_24 x2_24 x3_24).1 = 0 ∨ (m_mayBeLaid_L24 RA (m_told RA RN 114 (-4)) n_24 i_24 x2_24 x3_24).1 = 1) → W p l e ({ frames := 1, cells := 0, slots := 0, locals := 24 } : Room) s m args below meth c s.heap [] 0 0 (MQ below (kR (some (.int (m_mayBeLaid RA RN)))) args s 0 0 (fun _ => False)) (F0 m 101 ls [])) → W p l e ({ frames := 1, cells := 0, slots := 0, locals := 24 } : Room) s m args below meth c s.heap [] 0 0 (MQ below (kR (some (.int (m_mayBeLaid RA RN)))) args s 0 0 (fun _ => False)) (F0 m 24 ls []) := by
      intro n_24
      induction n_24 with
      | zero =>
        intro i_24 x2_24 x3_24 hin_24 ls hl hinv_24a hk_24
        refine lv_iload hx hb dX8_mayBeLaid_24 (lv_at hl 4 rfl) ?_
        refine lv_aload_n hx hb dX8_mayBeLaid_26 rfl (lv_at hl 0 rfl) ?_
        refine m_get (v := .int (nI (RN 3))) hx hb hts hown hK hP 3 (by decide) rfl kX8_111 rfl dX8_mayBeLaid_27 ?_
        refine lv_icmp_ge (tgt := 101) hx hb dX8_mayBeLaid_30 (by decide) (fun _ => ?_) (fun c_31 => absurd (kct_ge (N := (RN 3)) (nI_clamp (by omega)) (by omega) (by omega)) c_31)
        have hL_24 : (m_mayBeLaid_L24 RA (m_told RA RN 114 (-4)) 0 i_24 x2_24 x3_24) = (x2_24, x3_24) := by rw [m_mayBeLaid_L24.eq_1]
        try rw [hL_24] at hk_24
        exact hk_24 _ (lv_sub hl [0, 2] rfl) (hinv_24a)
      | succ n_24 ih_24 =>
        intro i_24 x2_24 x3_24 hin_24 ls hl hinv_24a hk_24
        refine lv_iload hx hb dX8_mayBeLaid_24 (lv_at hl 4 rfl) ?_
        refine lv_aload_n hx hb dX8_mayBeLaid_26 rfl (lv_at hl 0 rfl) ?_
        refine m_get (v := .int (nI (RN 3))) hx hb hts hown hK hP 3 (by decide) rfl kX8_111 rfl dX8_mayBeLaid_27 ?_
        refine lv_icmp_ge (tgt := 101) hx hb dX8_mayBeLaid_30 (by decide) (fun c_32 => absurd c_32 (kct_lt (N := (RN 3)) (nI_clamp (by omega)) (by omega))) (fun _ => ?_)
        refine lv_aload_n hx hb dX8_mayBeLaid_33 rfl (lv_at hl 0 rfl) ?_
        refine m_get (v := .ref (ad 2)) hx hb hts hown hK hP 2 (by decide) rfl kX8_13 rfl dX8_mayBeLaid_34 ?_
        refine lv_bipush (v := 7) hx hb dX8_mayBeLaid_37 (by decide) ?_
        refine lv_iload hx hb dX8_mayBeLaid_39 (lv_at hl 4 rfl) ?_
        refine kn_imul hx hb 7 i_24 rfl rfl dX8_mayBeLaid_41 ?_
        refine kn_iald (f := (RA 2)) (v := (RA 2 (7 * i_24))) hx hb hK hP 2 rfl (7 * i_24) rfl (by omega) (by omega) rfl dX8_mayBeLaid_42 ?_
        refine lv_bipush (v := 114) hx hb dX8_mayBeLaid_43 (by decide) ?_
        refine lv_icmp_ne (tgt := 95) hx hb dX8_mayBeLaid_45 (by decide) (fun c_33 => ?_) (fun c_33 => ?_)
        · refine lv_iinc (v := (nI (i_24 + 1))) (lv' := [(4, .int (nI (i_24 + 1))), (0, .ref (ad 0)), (1, .int (m_told RA RN 114 (-4))), (2, .int x2_24), (3, .int x3_24)]) hx hb dX8_mayBeLaid_95 hl (k := 4) rfl (nI_add _ _) (by decide) rfl (fun ls hl => ?_)
          refine lv_goto (tgt := 24) hx hb dX8_mayBeLaid_98 (by decide) ?_
          have hL_24 : (m_mayBeLaid_L24 RA (m_told RA RN 114 (-4)) (n_24 + 1) i_24 x2_24 x3_24) = (m_mayBeLaid_L24 RA (m_told RA RN 114 (-4)) n_24 (i_24 + 1) x2_24 x3_24) := by rw [m_mayBeLaid_L24.eq_2, if_neg c_33]
          try rw [hL_24] at hk_24
          exact ih_24 (i_24 + 1) x2_24 x3_24 (by omega) _ (lv_sub hl [1, 2, 3, 4, 0] rfl) (by first | exact Or.inl rfl | exact Or.inr rfl | assumption) hk_24
        · refine lv_aload_n hx hb dX8_mayBeLaid_48 rfl (lv_at hl 0 rfl) ?_
          refine m_get (v := .ref (ad 2)) hx hb hts hown hK hP 2 (by decide) rfl kX8_13 rfl dX8_mayBeLaid_49 ?_
          refine lv_bipush (v := 7) hx hb dX8_mayBeLaid_52 (by decide) ?_
          refine lv_iload hx hb dX8_mayBeLaid_54 (lv_at hl 4 rfl) ?_
          refine kn_imul hx hb 7 i_24 rfl rfl dX8_mayBeLaid_56 ?_
          refine lv_bipush (v := 6) hx hb dX8_mayBeLaid_57 (by decide) ?_
          refine kn_iadd hx hb (7 * i_24) 6 rfl rfl dX8_mayBeLaid_59 ?_
          refine kn_iald (f := (RA 2)) (v := (RA 2 ((7 * i_24) + 6))) hx hb hK hP 2 rfl ((7 * i_24) + 6) rfl (by omega) (by omega) rfl dX8_mayBeLaid_60 ?_
          refine lv_istore (lv' := [(5, .int (RA 2 ((7 * i_24) + 6))), (0, .ref (ad 0)), (1, .int (m_told RA RN 114 (-4))), (2, .int x2_24), (3, .int x3_24), (4, .int (nI i_24))]) hx hb dX8_mayBeLaid_61 hl (by decide) rfl (fun ls hl => ?_)
          refine lv_iload_n hx hb dX8_mayBeLaid_63 rfl (lv_at hl 3 rfl) ?_
          refine lv_if_eq (tgt := 90) hx hb dX8_mayBeLaid_64 (by decide) (fun c_34 => ?_) (fun c_34 => ?_)
          · refine lv_iconst (v := 0) hx hb dX8_mayBeLaid_90 (by decide) ?_
            refine lv_istore_n (lv' := [(2, .int 0), (5, .int (RA 2 ((7 * i_24) + 6))), (0, .ref (ad 0)), (1, .int (m_told RA RN 114 (-4))), (3, .int x3_24), (4, .int (nI i_24))]) hx hb dX8_mayBeLaid_91 rfl hl (by decide) rfl (fun ls hl => ?_)
            refine lv_iinc (v := (x3_24 + 1)) (lv' := [(3, .int (x3_24 + 1)), (2, .int 0), (5, .int (RA 2 ((7 * i_24) + 6))), (0, .ref (ad 0)), (1, .int (m_told RA RN 114 (-4))), (4, .int (nI i_24))]) hx hb dX8_mayBeLaid_92 hl (k := 4) rfl rfl (by decide) rfl (fun ls hl => ?_)
            refine lv_iinc (v := (nI (i_24 + 1))) (lv' := [(4, .int (nI (i_24 + 1))), (3, .int (x3_24 + 1)), (2, .int 0), (5, .int (RA 2 ((7 * i_24) + 6))), (0, .ref (ad 0)), (1, .int (m_told RA RN 114 (-4)))]) hx hb dX8_mayBeLaid_95 hl (k := 5) rfl (nI_add _ _) (by decide) rfl (fun ls hl => ?_)
            refine lv_goto (tgt := 24) hx hb dX8_mayBeLaid_98 (by decide) ?_
            have hL_24 : (m_mayBeLaid_L24 RA (m_told RA RN 114 (-4)) (n_24 + 1) i_24 x2_24 x3_24) = (m_mayBeLaid_L24 RA (m_told RA RN 114 (-4)) n_24 (i_24 + 1) 0 (x3_24 + 1)) := by rw [m_mayBeLaid_L24.eq_2, if_pos c_33, if_pos c_34]
            try rw [hL_24] at hk_24
            exact ih_24 (i_24 + 1) 0 (x3_24 + 1) (by omega) _ (lv_sub hl [4, 5, 2, 1, 0] rfl) (by first | exact Or.inl rfl | exact Or.inr rfl | assumption) hk_24
          · refine lv_iload hx hb dX8_mayBeLaid_67 (lv_at hl 0 rfl) ?_
            refine lv_bipush (v := 8) hx hb dX8_mayBeLaid_69 (by decide) ?_
            refine lv_icmp_eq (tgt := 86) hx hb dX8_mayBeLaid_71 (by decide) (fun c_35 => ?_) (fun c_35 => ?_)
            · refine lv_iconst (v := 1) hx hb dX8_mayBeLaid_86 (by decide) ?_
              refine lv_goto (tgt := 91) hx hb dX8_mayBeLaid_87 (by decide) ?_
              refine lv_istore_n (lv' := [(2, .int 1), (5, .int (RA 2 ((7 * i_24) + 6))), (0, .ref (ad 0)), (1, .int (m_told RA RN 114 (-4))), (3, .int x3_24), (4, .int (nI i_24))]) hx hb dX8_mayBeLaid_91 rfl hl (by decide) rfl (fun ls hl => ?_)
              refine lv_iinc (v := (x3_24 + 1)) (lv' := [(3, .int (x3_24 + 1)), (2, .int 1), (5, .int (RA 2 ((7 * i_24) + 6))), (0, .ref (ad 0)), (1, .int (m_told RA RN 114 (-4))), (4, .int (nI i_24))]) hx hb dX8_mayBeLaid_92 hl (k := 4) rfl rfl (by decide) rfl (fun ls hl => ?_)
              refine lv_iinc (v := (nI (i_24 + 1))) (lv' := [(4, .int (nI (i_24 + 1))), (3, .int (x3_24 + 1)), (2, .int 1), (5, .int (RA 2 ((7 * i_24) + 6))), (0, .ref (ad 0)), (1, .int (m_told RA RN 114 (-4)))]) hx hb dX8_mayBeLaid_95 hl (k := 5) rfl (nI_add _ _) (by decide) rfl (fun ls hl => ?_)
              refine lv_goto (tgt := 24) hx hb dX8_mayBeLaid_98 (by decide) ?_
              have hL_24 : (m_mayBeLaid_L24 RA (m_told RA RN 114 (-4)) (n_24 + 1) i_24 x2_24 x3_24) = (m_mayBeLaid_L24 RA (m_told RA RN 114 (-4)) n_24 (i_24 + 1) 1 (x3_24 + 1)) := by rw [m_mayBeLaid_L24.eq_2, if_pos c_33, if_neg c_34, if_pos c_35]
              try rw [hL_24] at hk_24
              exact ih_24 (i_24 + 1) 1 (x3_24 + 1) (by omega) _ (lv_sub hl [4, 5, 2, 1, 0] rfl) (by first | exact Or.inl rfl | exact Or.inr rfl | assumption) hk_24
            · refine lv_iload hx hb dX8_mayBeLaid_74 (lv_at hl 0 rfl) ?_
              refine lv_iload_n hx hb dX8_mayBeLaid_76 rfl (lv_at hl 2 rfl) ?_
              refine lv_icmp_ge (tgt := 90) hx hb dX8_mayBeLaid_77 (by decide) (fun c_36 => ?_) (fun c_36 => ?_)
              · refine lv_iconst (v := 0) hx hb dX8_mayBeLaid_90 (by decide) ?_
                refine lv_istore_n (lv' := [(2, .int 0), (5, .int (RA 2 ((7 * i_24) + 6))), (0, .ref (ad 0)), (1, .int (m_told RA RN 114 (-4))), (3, .int x3_24), (4, .int (nI i_24))]) hx hb dX8_mayBeLaid_91 rfl hl (by decide) rfl (fun ls hl => ?_)
                refine lv_iinc (v := (x3_24 + 1)) (lv' := [(3, .int (x3_24 + 1)), (2, .int 0), (5, .int (RA 2 ((7 * i_24) + 6))), (0, .ref (ad 0)), (1, .int (m_told RA RN 114 (-4))), (4, .int (nI i_24))]) hx hb dX8_mayBeLaid_92 hl (k := 4) rfl rfl (by decide) rfl (fun ls hl => ?_)
                refine lv_iinc (v := (nI (i_24 + 1))) (lv' := [(4, .int (nI (i_24 + 1))), (3, .int (x3_24 + 1)), (2, .int 0), (5, .int (RA 2 ((7 * i_24) + 6))), (0, .ref (ad 0)), (1, .int (m_told RA RN 114 (-4)))]) hx hb dX8_mayBeLaid_95 hl (k := 5) rfl (nI_add _ _) (by decide) rfl (fun ls hl => ?_)
                refine lv_goto (tgt := 24) hx hb dX8_mayBeLaid_98 (by decide) ?_
                have hL_24 : (m_mayBeLaid_L24 RA (m_told RA RN 114 (-4)) (n_24 + 1) i_24 x2_24 x3_24) = (m_mayBeLaid_L24 RA (m_told RA RN 114 (-4)) n_24 (i_24 + 1) 0 (x3_24 + 1)) := by rw [m_mayBeLaid_L24.eq_2, if_pos c_33, if_neg c_34, if_neg c_35, if_pos c_36]
                try rw [hL_24] at hk_24
                exact ih_24 (i_24 + 1) 0 (x3_24 + 1) (by omega) _ (lv_sub hl [4, 5, 2, 1, 0] rfl) (by first | exact Or.inl rfl | exact Or.inr rfl | assumption) hk_24
              · refine lv_iload hx hb dX8_mayBeLaid_80 (lv_at hl 0 rfl) ?_
                refine lv_iload_n hx hb dX8_mayBeLaid_82 rfl (lv_at hl 4 rfl) ?_
                refine lv_icmp_eq (tgt := 90) hx hb dX8_mayBeLaid_83 (by decide) (fun c_37 => ?_) (fun c_37 => ?_)
                · refine lv_iconst (v := 0) hx hb dX8_mayBeLaid_90 (by decide) ?_
                  refine lv_istore_n (lv' := [(2, .int 0), (5, .int (RA 2 ((7 * i_24) + 6))), (0, .ref (ad 0)), (1, .int (m_told RA RN 114 (-4))), (3, .int x3_24), (4, .int (nI i_24))]) hx hb dX8_mayBeLaid_91 rfl hl (by decide) rfl (fun ls hl => ?_)
                  refine lv_iinc (v := (x3_24 + 1)) (lv' := [(3, .int (x3_24 + 1)), (2, .int 0), (5, .int (RA 2 ((7 * i_24) + 6))), (0, .ref (ad 0)), (1, .int (m_told RA RN 114 (-4))), (4, .int (nI i_24))]) hx hb dX8_mayBeLaid_92 hl (k := 4) rfl rfl (by decide) rfl (fun ls hl => ?_)
                  refine lv_iinc (v := (nI (i_24 + 1))) (lv' := [(4, .int (nI (i_24 + 1))), (3, .int (x3_24 + 1)), (2, .int 0), (5, .int (RA 2 ((7 * i_24) + 6))), (0, .ref (ad 0)), (1, .int (m_told RA RN 114 (-4)))]) hx hb dX8_mayBeLaid_95 hl (k := 5) rfl (nI_add _ _) (by decide) rfl (fun ls hl => ?_)
                  refine lv_goto (tgt := 24) hx hb dX8_mayBeLaid_98 (by decide) ?_
                  have hL_24 : (m_mayBeLaid_L24 RA (m_told RA RN 114 (-4)) (n_24 + 1) i_24 x2_24 x3_24) = (m_mayBeLaid_L24 RA (m_told RA RN 114 (-4)) n_24 (i_24 + 1) 0 (x3_24 + 1)) := by rw [m_mayBeLaid_L24.eq_2, if_pos c_33, if_neg c_34, if_neg c_35, if_neg c_36, if_pos c_37]
                  try rw [hL_24] at hk_24
                  exact ih_24 (i_24 + 1) 0 (x3_24 + 1) (by omega) _ (lv_sub hl [4, 5, 2, 1, 0] rfl) (by first | exact Or.inl rfl | exact Or.inr rfl | assumption) hk_24
                · refine lv_iconst (v := 1) hx hb dX8_mayBeLaid_86 (by decide) ?_
                  refine lv_goto (tgt := 91) hx hb dX8_mayBeLaid_87 (by decide) ?_
                  refine lv_istore_n (lv' := [(2, .int 1), (5, .int (RA 2 ((7 * i_24) + 6))), (0, .ref (ad 0)), (1, .int (m_told RA RN 114 (-4))), (3, .int x3_24), (4, .int (nI i_24))]) hx hb dX8_mayBeLaid_91 rfl hl (by decide) rfl (fun ls hl => ?_)
                  refine lv_iinc (v := (x3_24 + 1)) (lv' := [(3, .int (x3_24 + 1)), (2, .int 1), (5, .int (RA 2 ((7 * i_24) + 6))), (0, .ref (ad 0)), (1, .int (m_told RA RN 114 (-4))), (4, .int (nI i_24))]) hx hb dX8_mayBeLaid_92 hl (k := 4) rfl rfl (by decide) rfl (fun ls hl => ?_)
                  refine lv_iinc (v := (nI (i_24 + 1))) (lv' := [(4, .int (nI (i_24 + 1))), (3, .int (x3_24 + 1)), (2, .int 1), (5, .int (RA 2 ((7 * i_24) + 6))), (0, .ref (ad 0)), (1, .int (m_told RA RN 114 (-4)))]) hx hb dX8_mayBeLaid_95 hl (k := 5) rfl (nI_add _ _) (by decide) rfl (fun ls hl => ?_)
                  refine lv_goto (tgt := 24) hx hb dX8_mayBeLaid_98 (by decide) ?_
                  have hL_24 : (m_mayBeLaid_L24 RA (m_told RA RN 114 (-4)) (n_24 + 1) i_24 x2_24 x3_24) = (m_mayBeLaid_L24 RA (m_told RA RN 114 (-4)) n_24 (i_24 + 1) 1 (x3_24 + 1)) := by rw [m_mayBeLaid_L24.eq_2, if_pos c_33, if_neg c_34, if_neg c_35, if_neg c_36, if_neg c_37]
                  try rw [hL_24] at hk_24
                  exact ih_24 (i_24 + 1) 1 (x3_24 + 1) (by omega) _ (lv_sub hl [4, 5, 2, 1, 0] rfl) (by first | exact Or.inl rfl | exact Or.inr rfl | assumption) hk_24
    exact loop_24 (RN 3) 0 0 0 (by omega) _ (lv_sub hl [4, 3, 2, 1, 0] rfl) (by first | exact Or.inl rfl | exact Or.inr rfl | assumption) (fun ls hl hx_24a => rest_24 (m_mayBeLaid_L24 RA (m_told RA RN 114 (-4)) (RN 3) 0 0 0).1 (m_mayBeLaid_L24 RA (m_told RA RN 114 (-4)) (RN 3) 0 0 0).2 _ hl hx_24a (by rw [m_mayBeLaid, if_pos c_15]))
  · refine lv_iconst (v := 1) hx hb dX8_mayBeLaid_13 (by decide) ?_
    refine lv_goto (tgt := 18) hx hb dX8_mayBeLaid_14 (by decide) ?_
    refine lv_istore_n (lv' := [(2, .int 1), (1, .int (m_told RA RN 114 (-4))), (0, .ref (ad 0))]) hx hb dX8_mayBeLaid_18 rfl hl (by decide) rfl (fun ls hl => ?_)
    refine lv_iconst (v := 0) hx hb dX8_mayBeLaid_19 (by decide) ?_
    refine lv_istore_n (lv' := [(3, .int 0), (2, .int 1), (1, .int (m_told RA RN 114 (-4))), (0, .ref (ad 0))]) hx hb dX8_mayBeLaid_20 rfl hl (by decide) rfl (fun ls hl => ?_)
    refine lv_iconst (v := 0) hx hb dX8_mayBeLaid_21 (by decide) ?_
    refine lv_istore (lv' := [(4, .int 0), (3, .int 0), (2, .int 1), (1, .int (m_told RA RN 114 (-4))), (0, .ref (ad 0))]) hx hb dX8_mayBeLaid_22 hl (by decide) rfl (fun ls hl => ?_)
    have rest_24 : ∀ (x2_24 : Int32) (x3_24 : Int32), ∀ (ls : Array Slot), lv_has ls 7 [(0, .ref (ad 0)), (2, .int x2_24)] → (x2_24 = 0 ∨ x2_24 = 1) → (m_mayBeLaid RA RN) = m_mayBeLaid_k24 RA RN x2_24 → W p l e ({ frames := 1, cells := 0, slots := 0, locals := 24 } : Room) s m args below meth c s.heap [] 0 0 (MQ below (kR (some (.int (m_mayBeLaid RA RN)))) args s 0 0 (fun _ => False)) (F0 m 101 ls []) := by
      intro x2_24 x3_24 ls hl hx_24a hF_24
      refine lv_iconst (v := 0) hx hb dX8_mayBeLaid_101 (by decide) ?_
      refine lv_istore (lv' := [(4, .int 0), (0, .ref (ad 0)), (2, .int x2_24)]) hx hb dX8_mayBeLaid_102 hl (by decide) rfl (fun ls hl => ?_)
      have rest_104 : ∀ (x2_104 : Int32), ∀ (ls : Array Slot), lv_has ls 7 [(2, .int x2_104)] → (x2_104 = 0 ∨ x2_104 = 1) → (m_mayBeLaid RA RN) = m_mayBeLaid_k104 x2_104 → W p l e ({ frames := 1, cells := 0, slots := 0, locals := 24 } : Room) s m args below meth c s.heap [] 0 0 (MQ below (kR (some (.int (m_mayBeLaid RA RN)))) args s 0 0 (fun _ => False)) (F0 m 224 ls []) := by
        intro x2_104 ls hl hx_104a hF_104
        refine lv_iload_n hx hb dX8_mayBeLaid_224 rfl (lv_at hl 0 rfl) ?_
        have hE : (m_mayBeLaid RA RN) = x2_104 := hF_104.trans (by rw [m_mayBeLaid_k104])
        exact W.zret (v := x2_104) hx hb hr (k_bool (by assumption)) (fun t ht hW => ⟨by rw [hE], ht⟩) (fun _ h => absurd h List.not_mem_nil) dX8_mayBeLaid_225 hlocks
      have loop_104 : ∀ (n_104 i_104 : Nat) (x2_104 : Int32), i_104 + n_104 = 8 → ∀ (ls : Array Slot), lv_has ls 7 [(0, .ref (ad 0)), (2, .int x2_104), (4, .int (nI i_104))] → (x2_104 = 0 ∨ x2_104 = 1) → (∀ (ls : Array Slot), lv_has ls 7 [(2, .int (m_mayBeLaid_L104 RA RN n_104 i_104 x2_104))] → ((m_mayBeLaid_L104 RA RN n_104 i_104 x2_104) = 0 ∨ (m_mayBeLaid_L104 RA RN n_104 i_104 x2_104) = 1) → W p l e ({ frames := 1, cells := 0, slots := 0, locals := 24 } : Room) s m args below meth c s.heap [] 0 0 (MQ below (kR (some (.int (m_mayBeLaid RA RN)))) args s 0 0 (fun _ => False)) (F0 m 224 ls [])) → W p l e ({ frames := 1, cells := 0, slots := 0, locals := 24 } : Room) s m args below meth c s.heap [] 0 0 (MQ below (kR (some (.int (m_mayBeLaid RA RN)))) args s 0 0 (fun _ => False)) (F0 m 104 ls []) := by
        intro n_104
        induction n_104 with
        | zero =>
          intro i_104 x2_104 hin_104 ls hl hinv_104a hk_104
          refine lv_iload hx hb dX8_mayBeLaid_104 (lv_at hl 2 rfl) ?_
          refine lv_bipush (v := 8) hx hb dX8_mayBeLaid_106 (by decide) ?_
          refine lv_icmp_ge (tgt := 224) hx hb dX8_mayBeLaid_108 (by decide) (fun _ => ?_) (fun c_38 => absurd (kct_ge (N := 8) rfl (by omega) (by omega)) c_38)
          have hL_104 : (m_mayBeLaid_L104 RA RN 0 i_104 x2_104) = x2_104 := by rw [m_mayBeLaid_L104.eq_1]
          try rw [hL_104] at hk_104
          exact hk_104 _ (lv_sub hl [1] rfl) (hinv_104a)
        | succ n_104 ih_104 =>
          intro i_104 x2_104 hin_104 ls hl hinv_104a hk_104
          refine lv_iload hx hb dX8_mayBeLaid_104 (lv_at hl 2 rfl) ?_
          refine lv_bipush (v := 8) hx hb dX8_mayBeLaid_106 (by decide) ?_
          refine lv_icmp_ge (tgt := 224) hx hb dX8_mayBeLaid_108 (by decide) (fun c_39 => absurd c_39 (kct_lt (N := 8) rfl (by omega))) (fun _ => ?_)
          refine lv_aload_n hx hb dX8_mayBeLaid_111 rfl (lv_at hl 0 rfl) ?_
          refine lv_bipush (v := 98) hx hb dX8_mayBeLaid_112 (by decide) ?_
          refine lv_iload hx hb dX8_mayBeLaid_114 (lv_at hl 2 rfl) ?_
          refine k_rV (v := .int (m_told RA RN 98 (nI i_104))) (As := [.int 98, .int (nI i_104)]) (rest := []) hx hb hml hown hts hl.1 hP hK hN (c_m_told hI 98 (nI i_104) (show (RN 3) ≤ 170 by omega)) eX8_132 (ci := 7) (q0 := 0) rfl rfl rfl rfl rfl (Nat.le_of_ble_eq_true rfl) ⟨Nat.le_of_ble_eq_true rfl, Nat.le_of_ble_eq_true rfl⟩ ⟨rfl, rfl⟩ ⟨Nat.le_of_ble_eq_true rfl, Nat.le_of_ble_eq_true rfl⟩ dX8_mayBeLaid_116 ?_
          refine lv_if_ne (tgt := 127) hx hb dX8_mayBeLaid_119 (by decide) (fun c_40 => ?_) (fun c_40 => ?_)
          · refine lv_iconst (v := 0) hx hb dX8_mayBeLaid_127 (by decide) ?_
            refine lv_istore (lv' := [(5, .int 0), (0, .ref (ad 0)), (2, .int x2_104), (4, .int (nI i_104))]) hx hb dX8_mayBeLaid_128 hl (by decide) rfl (fun ls hl => ?_)
            refine lv_iconst (v := 0) hx hb dX8_mayBeLaid_130 (by decide) ?_
            refine lv_istore (lv' := [(6, .int 0), (5, .int 0), (0, .ref (ad 0)), (2, .int x2_104), (4, .int (nI i_104))]) hx hb dX8_mayBeLaid_131 hl (by decide) rfl (fun ls hl => ?_)
            have rest_133 : ∀ (x5_133 : Int32), ∀ (ls : Array Slot), lv_has ls 7 [(0, .ref (ad 0)), (2, .int x2_104), (4, .int (nI i_104)), (5, .int x5_133)] → (m_mayBeLaid_b104 RA RN i_104 x2_104) = m_mayBeLaid_b104_k133 x2_104 x5_133 → W p l e ({ frames := 1, cells := 0, slots := 0, locals := 24 } : Room) s m args below meth c s.heap [] 0 0 (MQ below (kR (some (.int (m_mayBeLaid RA RN)))) args s 0 0 (fun _ => False)) (F0 m 201 ls []) := by
              intro x5_133 ls hl  hF_133
              refine lv_iload_n hx hb dX8_mayBeLaid_201 rfl (lv_at hl 1 rfl) ?_
              refine lv_if_eq (tgt := 216) hx hb dX8_mayBeLaid_202 (by decide) (fun c_41 => ?_) (fun c_41 => ?_)
              · refine lv_iconst (v := 0) hx hb dX8_mayBeLaid_216 (by decide) ?_
                refine lv_istore_n (lv' := [(2, .int 0), (0, .ref (ad 0)), (4, .int (nI i_104)), (5, .int x5_133)]) hx hb dX8_mayBeLaid_217 rfl hl (by decide) rfl (fun ls hl => ?_)
                refine lv_iinc (v := (nI (i_104 + 1))) (lv' := [(4, .int (nI (i_104 + 1))), (2, .int 0), (0, .ref (ad 0)), (5, .int x5_133)]) hx hb dX8_mayBeLaid_218 hl (k := 2) rfl (nI_add _ _) (by decide) rfl (fun ls hl => ?_)
                refine lv_goto (tgt := 104) hx hb dX8_mayBeLaid_221 (by decide) ?_
                have hb_104 : (m_mayBeLaid_b104 RA RN i_104 x2_104) = 0 := hF_133.trans (by rw [m_mayBeLaid_b104_k133, if_pos c_41])
                have hL_104 : (m_mayBeLaid_L104 RA RN (n_104 + 1) i_104 x2_104) = (m_mayBeLaid_L104 RA RN n_104 (i_104 + 1) 0) := by rw [m_mayBeLaid_L104.eq_2, hb_104]
                try rw [hL_104] at hk_104
                exact ih_104 (i_104 + 1) 0 (by omega) _ (lv_sub hl [2, 1, 0] rfl) (by first | exact Or.inl rfl | exact Or.inr rfl | assumption) hk_104
              · refine lv_iload hx hb dX8_mayBeLaid_205 (lv_at hl 3 rfl) ?_
                refine lv_bipush (v := 10) hx hb dX8_mayBeLaid_207 (by decide) ?_
                refine lv_icmp_ne (tgt := 216) hx hb dX8_mayBeLaid_209 (by decide) (fun c_42 => ?_) (fun c_42 => ?_)
                · refine lv_iconst (v := 0) hx hb dX8_mayBeLaid_216 (by decide) ?_
                  refine lv_istore_n (lv' := [(2, .int 0), (0, .ref (ad 0)), (4, .int (nI i_104)), (5, .int x5_133)]) hx hb dX8_mayBeLaid_217 rfl hl (by decide) rfl (fun ls hl => ?_)
                  refine lv_iinc (v := (nI (i_104 + 1))) (lv' := [(4, .int (nI (i_104 + 1))), (2, .int 0), (0, .ref (ad 0)), (5, .int x5_133)]) hx hb dX8_mayBeLaid_218 hl (k := 2) rfl (nI_add _ _) (by decide) rfl (fun ls hl => ?_)
                  refine lv_goto (tgt := 104) hx hb dX8_mayBeLaid_221 (by decide) ?_
                  have hb_104 : (m_mayBeLaid_b104 RA RN i_104 x2_104) = 0 := hF_133.trans (by rw [m_mayBeLaid_b104_k133, if_neg c_41, if_neg c_42])
                  have hL_104 : (m_mayBeLaid_L104 RA RN (n_104 + 1) i_104 x2_104) = (m_mayBeLaid_L104 RA RN n_104 (i_104 + 1) 0) := by rw [m_mayBeLaid_L104.eq_2, hb_104]
                  try rw [hL_104] at hk_104
                  exact ih_104 (i_104 + 1) 0 (by omega) _ (lv_sub hl [2, 1, 0] rfl) (by first | exact Or.inl rfl | exact Or.inr rfl | assumption) hk_104
                · refine lv_iconst (v := 1) hx hb dX8_mayBeLaid_212 (by decide) ?_
                  refine lv_goto (tgt := 217) hx hb dX8_mayBeLaid_213 (by decide) ?_
                  refine lv_istore_n (lv' := [(2, .int 1), (0, .ref (ad 0)), (4, .int (nI i_104)), (5, .int x5_133)]) hx hb dX8_mayBeLaid_217 rfl hl (by decide) rfl (fun ls hl => ?_)
                  refine lv_iinc (v := (nI (i_104 + 1))) (lv' := [(4, .int (nI (i_104 + 1))), (2, .int 1), (0, .ref (ad 0)), (5, .int x5_133)]) hx hb dX8_mayBeLaid_218 hl (k := 2) rfl (nI_add _ _) (by decide) rfl (fun ls hl => ?_)
                  refine lv_goto (tgt := 104) hx hb dX8_mayBeLaid_221 (by decide) ?_
                  have hb_104 : (m_mayBeLaid_b104 RA RN i_104 x2_104) = 1 := hF_133.trans (by rw [m_mayBeLaid_b104_k133, if_neg c_41, if_pos c_42])
                  have hL_104 : (m_mayBeLaid_L104 RA RN (n_104 + 1) i_104 x2_104) = (m_mayBeLaid_L104 RA RN n_104 (i_104 + 1) 1) := by rw [m_mayBeLaid_L104.eq_2, hb_104]
                  try rw [hL_104] at hk_104
                  exact ih_104 (i_104 + 1) 1 (by omega) _ (lv_sub hl [2, 1, 0] rfl) (by first | exact Or.inl rfl | exact Or.inr rfl | assumption) hk_104
            have loop_133 : ∀ (n_133 i_133 : Nat) (x5_133 : Int32), i_133 + n_133 = (RN 3) → ∀ (ls : Array Slot), lv_has ls 7 [(0, .ref (ad 0)), (2, .int x2_104), (4, .int (nI i_104)), (5, .int x5_133), (6, .int (nI i_133))] → (∀ (ls : Array Slot), lv_has ls 7 [(0, .ref (ad 0)), (2, .int x2_104), (4, .int (nI i_104)), (5, .int (m_mayBeLaid_L133 RA i_104 n_133 i_133 x5_133))] → W p l e ({ frames := 1, cells := 0, slots := 0, locals := 24 } : Room) s m args below meth c s.heap [] 0 0 (MQ below (kR (some (.int (m_mayBeLaid RA RN)))) args s 0 0 (fun _ => False)) (F0 m 201 ls [])) → W p l e ({ frames := 1, cells := 0, slots := 0, locals := 24 } : Room) s m args below meth c s.heap [] 0 0 (MQ below (kR (some (.int (m_mayBeLaid RA RN)))) args s 0 0 (fun _ => False)) (F0 m 133 ls []) := by
              intro n_133
              induction n_133 with
              | zero =>
                intro i_133 x5_133 hin_133 ls hl  hk_133
                refine lv_iload hx hb dX8_mayBeLaid_133 (lv_at hl 4 rfl) ?_
                refine lv_aload_n hx hb dX8_mayBeLaid_135 rfl (lv_at hl 0 rfl) ?_
                refine m_get (v := .int (nI (RN 3))) hx hb hts hown hK hP 3 (by decide) rfl kX8_111 rfl dX8_mayBeLaid_136 ?_
                refine lv_icmp_ge (tgt := 201) hx hb dX8_mayBeLaid_139 (by decide) (fun _ => ?_) (fun c_43 => absurd (kct_ge (N := (RN 3)) (nI_clamp (by omega)) (by omega) (by omega)) c_43)
                have hL_133 : (m_mayBeLaid_L133 RA i_104 0 i_133 x5_133) = x5_133 := by rw [m_mayBeLaid_L133.eq_1]
                try rw [hL_133] at hk_133
                exact hk_133 _ (lv_sub hl [0, 1, 2, 3] rfl) 
              | succ n_133 ih_133 =>
                intro i_133 x5_133 hin_133 ls hl  hk_133
                refine lv_iload hx hb dX8_mayBeLaid_133 (lv_at hl 4 rfl) ?_
                refine lv_aload_n hx hb dX8_mayBeLaid_135 rfl (lv_at hl 0 rfl) ?_
                refine m_get (v := .int (nI (RN 3))) hx hb hts hown hK hP 3 (by decide) rfl kX8_111 rfl dX8_mayBeLaid_136 ?_
                refine lv_icmp_ge (tgt := 201) hx hb dX8_mayBeLaid_139 (by decide) (fun c_44 => absurd c_44 (kct_lt (N := (RN 3)) (nI_clamp (by omega)) (by omega))) (fun _ => ?_)
                refine lv_iload hx hb dX8_mayBeLaid_142 (lv_at hl 3 rfl) ?_
                refine lv_aload_n hx hb dX8_mayBeLaid_144 rfl (lv_at hl 0 rfl) ?_
                refine m_get (v := .ref (ad 2)) hx hb hts hown hK hP 2 (by decide) rfl kX8_13 rfl dX8_mayBeLaid_145 ?_
                refine lv_bipush (v := 7) hx hb dX8_mayBeLaid_148 (by decide) ?_
                refine lv_iload hx hb dX8_mayBeLaid_150 (lv_at hl 4 rfl) ?_
                refine kn_imul hx hb 7 i_133 rfl rfl dX8_mayBeLaid_152 ?_
                refine kn_iald (f := (RA 2)) (v := (RA 2 (7 * i_133))) hx hb hK hP 2 rfl (7 * i_133) rfl (by omega) (by omega) rfl dX8_mayBeLaid_153 ?_
                refine lv_bipush (v := 98) hx hb dX8_mayBeLaid_154 (by decide) ?_
                refine lv_icmp_ne (tgt := 191) hx hb dX8_mayBeLaid_156 (by decide) (fun c_45 => ?_) (fun c_45 => ?_)
                · refine lv_iconst (v := 0) hx hb dX8_mayBeLaid_191 (by decide) ?_
                  refine lv_iadd hx hb dX8_mayBeLaid_192 ?_
                  refine lv_istore (lv' := [(5, .int (x5_133 + 0)), (0, .ref (ad 0)), (2, .int x2_104), (4, .int (nI i_104)), (6, .int (nI i_133))]) hx hb dX8_mayBeLaid_193 hl (by decide) rfl (fun ls hl => ?_)
                  refine lv_iinc (v := (nI (i_133 + 1))) (lv' := [(6, .int (nI (i_133 + 1))), (5, .int (x5_133 + 0)), (0, .ref (ad 0)), (2, .int x2_104), (4, .int (nI i_104))]) hx hb dX8_mayBeLaid_195 hl (k := 4) rfl (nI_add _ _) (by decide) rfl (fun ls hl => ?_)
                  refine lv_goto (tgt := 133) hx hb dX8_mayBeLaid_198 (by decide) ?_
                  have hL_133 : (m_mayBeLaid_L133 RA i_104 (n_133 + 1) i_133 x5_133) = (m_mayBeLaid_L133 RA i_104 n_133 (i_133 + 1) (x5_133 + 0)) := by rw [m_mayBeLaid_L133.eq_2, if_neg c_45]
                  try rw [hL_133] at hk_133
                  exact ih_133 (i_133 + 1) (x5_133 + 0) (by omega) _ (lv_sub hl [2, 3, 4, 1, 0] rfl)  hk_133
                · refine lv_aload_n hx hb dX8_mayBeLaid_159 rfl (lv_at hl 0 rfl) ?_
                  refine m_get (v := .ref (ad 2)) hx hb hts hown hK hP 2 (by decide) rfl kX8_13 rfl dX8_mayBeLaid_160 ?_
                  refine lv_bipush (v := 7) hx hb dX8_mayBeLaid_163 (by decide) ?_
                  refine lv_iload hx hb dX8_mayBeLaid_165 (lv_at hl 4 rfl) ?_
                  refine kn_imul hx hb 7 i_133 rfl rfl dX8_mayBeLaid_167 ?_
                  refine lv_iconst (v := 1) hx hb dX8_mayBeLaid_168 (by decide) ?_
                  refine kn_iadd hx hb (7 * i_133) 1 rfl rfl dX8_mayBeLaid_169 ?_
                  refine kn_iald (f := (RA 2)) (v := (RA 2 ((7 * i_133) + 1))) hx hb hK hP 2 rfl ((7 * i_133) + 1) rfl (by omega) (by omega) rfl dX8_mayBeLaid_170 ?_
                  refine lv_iload hx hb dX8_mayBeLaid_171 (lv_at hl 2 rfl) ?_
                  refine lv_icmp_ne (tgt := 191) hx hb dX8_mayBeLaid_173 (by decide) (fun c_46 => ?_) (fun c_46 => ?_)
                  · refine lv_iconst (v := 0) hx hb dX8_mayBeLaid_191 (by decide) ?_
                    refine lv_iadd hx hb dX8_mayBeLaid_192 ?_
                    refine lv_istore (lv' := [(5, .int (x5_133 + 0)), (0, .ref (ad 0)), (2, .int x2_104), (4, .int (nI i_104)), (6, .int (nI i_133))]) hx hb dX8_mayBeLaid_193 hl (by decide) rfl (fun ls hl => ?_)
                    refine lv_iinc (v := (nI (i_133 + 1))) (lv' := [(6, .int (nI (i_133 + 1))), (5, .int (x5_133 + 0)), (0, .ref (ad 0)), (2, .int x2_104), (4, .int (nI i_104))]) hx hb dX8_mayBeLaid_195 hl (k := 4) rfl (nI_add _ _) (by decide) rfl (fun ls hl => ?_)
                    refine lv_goto (tgt := 133) hx hb dX8_mayBeLaid_198 (by decide) ?_
                    have hL_133 : (m_mayBeLaid_L133 RA i_104 (n_133 + 1) i_133 x5_133) = (m_mayBeLaid_L133 RA i_104 n_133 (i_133 + 1) (x5_133 + 0)) := by rw [m_mayBeLaid_L133.eq_2, if_pos c_45, if_neg c_46]
                    try rw [hL_133] at hk_133
                    exact ih_133 (i_133 + 1) (x5_133 + 0) (by omega) _ (lv_sub hl [2, 3, 4, 1, 0] rfl)  hk_133
                  · refine lv_aload_n hx hb dX8_mayBeLaid_176 rfl (lv_at hl 0 rfl) ?_
                    refine m_get (v := .ref (ad 2)) hx hb hts hown hK hP 2 (by decide) rfl kX8_13 rfl dX8_mayBeLaid_177 ?_
                    refine lv_bipush (v := 7) hx hb dX8_mayBeLaid_180 (by decide) ?_
                    refine lv_iload hx hb dX8_mayBeLaid_182 (lv_at hl 4 rfl) ?_
                    refine kn_imul hx hb 7 i_133 rfl rfl dX8_mayBeLaid_184 ?_
                    refine lv_iconst (v := 3) hx hb dX8_mayBeLaid_185 (by decide) ?_
                    refine kn_iadd hx hb (7 * i_133) 3 rfl rfl dX8_mayBeLaid_186 ?_
                    refine kn_iald (f := (RA 2)) (v := (RA 2 ((7 * i_133) + 3))) hx hb hK hP 2 rfl ((7 * i_133) + 3) rfl (by omega) (by omega) rfl dX8_mayBeLaid_187 ?_
                    refine lv_goto (tgt := 192) hx hb dX8_mayBeLaid_188 (by decide) ?_
                    refine lv_iadd hx hb dX8_mayBeLaid_192 ?_
                    refine lv_istore (lv' := [(5, .int (x5_133 + (RA 2 ((7 * i_133) + 3)))), (0, .ref (ad 0)), (2, .int x2_104), (4, .int (nI i_104)), (6, .int (nI i_133))]) hx hb dX8_mayBeLaid_193 hl (by decide) rfl (fun ls hl => ?_)
                    refine lv_iinc (v := (nI (i_133 + 1))) (lv' := [(6, .int (nI (i_133 + 1))), (5, .int (x5_133 + (RA 2 ((7 * i_133) + 3)))), (0, .ref (ad 0)), (2, .int x2_104), (4, .int (nI i_104))]) hx hb dX8_mayBeLaid_195 hl (k := 4) rfl (nI_add _ _) (by decide) rfl (fun ls hl => ?_)
                    refine lv_goto (tgt := 133) hx hb dX8_mayBeLaid_198 (by decide) ?_
                    have hL_133 : (m_mayBeLaid_L133 RA i_104 (n_133 + 1) i_133 x5_133) = (m_mayBeLaid_L133 RA i_104 n_133 (i_133 + 1) (x5_133 + (RA 2 ((7 * i_133) + 3)))) := by rw [m_mayBeLaid_L133.eq_2, if_pos c_45, if_pos c_46]
                    try rw [hL_133] at hk_133
                    exact ih_133 (i_133 + 1) (x5_133 + (RA 2 ((7 * i_133) + 3))) (by omega) _ (lv_sub hl [2, 3, 4, 1, 0] rfl)  hk_133
            exact loop_133 (RN 3) 0 0 (by omega) _ (lv_sub hl [2, 3, 4, 1, 0] rfl)  (fun ls hl  => rest_133 (m_mayBeLaid_L133 RA i_104 (RN 3) 0 0) _ hl  (by rw [m_mayBeLaid_b104, if_neg c_40]))
          · refine lv_bipush (v := 10) hx hb dX8_mayBeLaid_122 (by decide) ?_
            refine lv_goto (tgt := 128) hx hb dX8_mayBeLaid_124 (by decide) ?_
            refine lv_istore (lv' := [(5, .int 10), (0, .ref (ad 0)), (2, .int x2_104), (4, .int (nI i_104))]) hx hb dX8_mayBeLaid_128 hl (by decide) rfl (fun ls hl => ?_)
            refine lv_iconst (v := 0) hx hb dX8_mayBeLaid_130 (by decide) ?_
            refine lv_istore (lv' := [(6, .int 0), (5, .int 10), (0, .ref (ad 0)), (2, .int x2_104), (4, .int (nI i_104))]) hx hb dX8_mayBeLaid_131 hl (by decide) rfl (fun ls hl => ?_)
            have rest_133 : ∀ (x5_133 : Int32), ∀ (ls : Array Slot), lv_has ls 7 [(0, .ref (ad 0)), (2, .int x2_104), (4, .int (nI i_104)), (5, .int x5_133)] → (m_mayBeLaid_b104 RA RN i_104 x2_104) = m_mayBeLaid_b104_k133 x2_104 x5_133 → W p l e ({ frames := 1, cells := 0, slots := 0, locals := 24 } : Room) s m args below meth c s.heap [] 0 0 (MQ below (kR (some (.int (m_mayBeLaid RA RN)))) args s 0 0 (fun _ => False)) (F0 m 201 ls []) := by
              intro x5_133 ls hl  hF_133
              refine lv_iload_n hx hb dX8_mayBeLaid_201 rfl (lv_at hl 1 rfl) ?_
              refine lv_if_eq (tgt := 216) hx hb dX8_mayBeLaid_202 (by decide) (fun c_47 => ?_) (fun c_47 => ?_)
              · refine lv_iconst (v := 0) hx hb dX8_mayBeLaid_216 (by decide) ?_
                refine lv_istore_n (lv' := [(2, .int 0), (0, .ref (ad 0)), (4, .int (nI i_104)), (5, .int x5_133)]) hx hb dX8_mayBeLaid_217 rfl hl (by decide) rfl (fun ls hl => ?_)
                refine lv_iinc (v := (nI (i_104 + 1))) (lv' := [(4, .int (nI (i_104 + 1))), (2, .int 0), (0, .ref (ad 0)), (5, .int x5_133)]) hx hb dX8_mayBeLaid_218 hl (k := 2) rfl (nI_add _ _) (by decide) rfl (fun ls hl => ?_)
                refine lv_goto (tgt := 104) hx hb dX8_mayBeLaid_221 (by decide) ?_
                have hb_104 : (m_mayBeLaid_b104 RA RN i_104 x2_104) = 0 := hF_133.trans (by rw [m_mayBeLaid_b104_k133, if_pos c_47])
                have hL_104 : (m_mayBeLaid_L104 RA RN (n_104 + 1) i_104 x2_104) = (m_mayBeLaid_L104 RA RN n_104 (i_104 + 1) 0) := by rw [m_mayBeLaid_L104.eq_2, hb_104]
                try rw [hL_104] at hk_104
                exact ih_104 (i_104 + 1) 0 (by omega) _ (lv_sub hl [2, 1, 0] rfl) (by first | exact Or.inl rfl | exact Or.inr rfl | assumption) hk_104
              · refine lv_iload hx hb dX8_mayBeLaid_205 (lv_at hl 3 rfl) ?_
                refine lv_bipush (v := 10) hx hb dX8_mayBeLaid_207 (by decide) ?_
                refine lv_icmp_ne (tgt := 216) hx hb dX8_mayBeLaid_209 (by decide) (fun c_48 => ?_) (fun c_48 => ?_)
                · refine lv_iconst (v := 0) hx hb dX8_mayBeLaid_216 (by decide) ?_
                  refine lv_istore_n (lv' := [(2, .int 0), (0, .ref (ad 0)), (4, .int (nI i_104)), (5, .int x5_133)]) hx hb dX8_mayBeLaid_217 rfl hl (by decide) rfl (fun ls hl => ?_)
                  refine lv_iinc (v := (nI (i_104 + 1))) (lv' := [(4, .int (nI (i_104 + 1))), (2, .int 0), (0, .ref (ad 0)), (5, .int x5_133)]) hx hb dX8_mayBeLaid_218 hl (k := 2) rfl (nI_add _ _) (by decide) rfl (fun ls hl => ?_)
                  refine lv_goto (tgt := 104) hx hb dX8_mayBeLaid_221 (by decide) ?_
                  have hb_104 : (m_mayBeLaid_b104 RA RN i_104 x2_104) = 0 := hF_133.trans (by rw [m_mayBeLaid_b104_k133, if_neg c_47, if_neg c_48])
                  have hL_104 : (m_mayBeLaid_L104 RA RN (n_104 + 1) i_104 x2_104) = (m_mayBeLaid_L104 RA RN n_104 (i_104 + 1) 0) := by rw [m_mayBeLaid_L104.eq_2, hb_104]
                  try rw [hL_104] at hk_104
                  exact ih_104 (i_104 + 1) 0 (by omega) _ (lv_sub hl [2, 1, 0] rfl) (by first | exact Or.inl rfl | exact Or.inr rfl | assumption) hk_104
                · refine lv_iconst (v := 1) hx hb dX8_mayBeLaid_212 (by decide) ?_
                  refine lv_goto (tgt := 217) hx hb dX8_mayBeLaid_213 (by decide) ?_
                  refine lv_istore_n (lv' := [(2, .int 1), (0, .ref (ad 0)), (4, .int (nI i_104)), (5, .int x5_133)]) hx hb dX8_mayBeLaid_217 rfl hl (by decide) rfl (fun ls hl => ?_)
                  refine lv_iinc (v := (nI (i_104 + 1))) (lv' := [(4, .int (nI (i_104 + 1))), (2, .int 1), (0, .ref (ad 0)), (5, .int x5_133)]) hx hb dX8_mayBeLaid_218 hl (k := 2) rfl (nI_add _ _) (by decide) rfl (fun ls hl => ?_)
                  refine lv_goto (tgt := 104) hx hb dX8_mayBeLaid_221 (by decide) ?_
                  have hb_104 : (m_mayBeLaid_b104 RA RN i_104 x2_104) = 1 := hF_133.trans (by rw [m_mayBeLaid_b104_k133, if_neg c_47, if_pos c_48])
                  have hL_104 : (m_mayBeLaid_L104 RA RN (n_104 + 1) i_104 x2_104) = (m_mayBeLaid_L104 RA RN n_104 (i_104 + 1) 1) := by rw [m_mayBeLaid_L104.eq_2, hb_104]
                  try rw [hL_104] at hk_104
                  exact ih_104 (i_104 + 1) 1 (by omega) _ (lv_sub hl [2, 1, 0] rfl) (by first | exact Or.inl rfl | exact Or.inr rfl | assumption) hk_104
            have loop_133 : ∀ (n_133 i_133 : Nat) (x5_133 : Int32), i_133 + n_133 = (RN 3) → ∀ (ls : Array Slot), lv_has ls 7 [(0, .ref (ad 0)), (2, .int x2_104), (4, .int (nI i_104)), (5, .int x5_133), (6, .int (nI i_133))] → (∀ (ls : Array Slot), lv_has ls 7 [(0, .ref (ad 0)), (2, .int x2_104), (4, .int (nI i_104)), (5, .int (m_mayBeLaid_L133 RA i_104 n_133 i_133 x5_133))] → W p l e ({ frames := 1, cells := 0, slots := 0, locals := 24 } : Room) s m args below meth c s.heap [] 0 0 (MQ below (kR (some (.int (m_mayBeLaid RA RN)))) args s 0 0 (fun _ => False)) (F0 m 201 ls [])) → W p l e ({ frames := 1, cells := 0, slots := 0, locals := 24 } : Room) s m args below meth c s.heap [] 0 0 (MQ below (kR (some (.int (m_mayBeLaid RA RN)))) args s 0 0 (fun _ => False)) (F0 m 133 ls []) := by
              intro n_133
              induction n_133 with
              | zero =>
                intro i_133 x5_133 hin_133 ls hl  hk_133
                refine lv_iload hx hb dX8_mayBeLaid_133 (lv_at hl 4 rfl) ?_
                refine lv_aload_n hx hb dX8_mayBeLaid_135 rfl (lv_at hl 0 rfl) ?_
                refine m_get (v := .int (nI (RN 3))) hx hb hts hown hK hP 3 (by decide) rfl kX8_111 rfl dX8_mayBeLaid_136 ?_
                refine lv_icmp_ge (tgt := 201) hx hb dX8_mayBeLaid_139 (by decide) (fun _ => ?_) (fun c_49 => absurd (kct_ge (N := (RN 3)) (nI_clamp (by omega)) (by omega) (by omega)) c_49)
                have hL_133 : (m_mayBeLaid_L133 RA i_104 0 i_133 x5_133) = x5_133 := by rw [m_mayBeLaid_L133.eq_1]
                try rw [hL_133] at hk_133
                exact hk_133 _ (lv_sub hl [0, 1, 2, 3] rfl) 
              | succ n_133 ih_133 =>
                intro i_133 x5_133 hin_133 ls hl  hk_133
                refine lv_iload hx hb dX8_mayBeLaid_133 (lv_at hl 4 rfl) ?_
                refine lv_aload_n hx hb dX8_mayBeLaid_135 rfl (lv_at hl 0 rfl) ?_
                refine m_get (v := .int (nI (RN 3))) hx hb hts hown hK hP 3 (by decide) rfl kX8_111 rfl dX8_mayBeLaid_136 ?_
                refine lv_icmp_ge (tgt := 201) hx hb dX8_mayBeLaid_139 (by decide) (fun c_50 => absurd c_50 (kct_lt (N := (RN 3)) (nI_clamp (by omega)) (by omega))) (fun _ => ?_)
                refine lv_iload hx hb dX8_mayBeLaid_142 (lv_at hl 3 rfl) ?_
                refine lv_aload_n hx hb dX8_mayBeLaid_144 rfl (lv_at hl 0 rfl) ?_
                refine m_get (v := .ref (ad 2)) hx hb hts hown hK hP 2 (by decide) rfl kX8_13 rfl dX8_mayBeLaid_145 ?_
                refine lv_bipush (v := 7) hx hb dX8_mayBeLaid_148 (by decide) ?_
                refine lv_iload hx hb dX8_mayBeLaid_150 (lv_at hl 4 rfl) ?_
                refine kn_imul hx hb 7 i_133 rfl rfl dX8_mayBeLaid_152 ?_
                refine kn_iald (f := (RA 2)) (v := (RA 2 (7 * i_133))) hx hb hK hP 2 rfl (7 * i_133) rfl (by omega) (by omega) rfl dX8_mayBeLaid_153 ?_
                refine lv_bipush (v := 98) hx hb dX8_mayBeLaid_154 (by decide) ?_
                refine lv_icmp_ne (tgt := 191) hx hb dX8_mayBeLaid_156 (by decide) (fun c_51 => ?_) (fun c_51 => ?_)
                · refine lv_iconst (v := 0) hx hb dX8_mayBeLaid_191 (by decide) ?_
                  refine lv_iadd hx hb dX8_mayBeLaid_192 ?_
                  refine lv_istore (lv' := [(5, .int (x5_133 + 0)), (0, .ref (ad 0)), (2, .int x2_104), (4, .int (nI i_104)), (6, .int (nI i_133))]) hx hb dX8_mayBeLaid_193 hl (by decide) rfl (fun ls hl => ?_)
                  refine lv_iinc (v := (nI (i_133 + 1))) (lv' := [(6, .int (nI (i_133 + 1))), (5, .int (x5_133 + 0)), (0, .ref (ad 0)), (2, .int x2_104), (4, .int (nI i_104))]) hx hb dX8_mayBeLaid_195 hl (k := 4) rfl (nI_add _ _) (by decide) rfl (fun ls hl => ?_)
                  refine lv_goto (tgt := 133) hx hb dX8_mayBeLaid_198 (by decide) ?_
                  have hL_133 : (m_mayBeLaid_L133 RA i_104 (n_133 + 1) i_133 x5_133) = (m_mayBeLaid_L133 RA i_104 n_133 (i_133 + 1) (x5_133 + 0)) := by rw [m_mayBeLaid_L133.eq_2, if_neg c_51]
                  try rw [hL_133] at hk_133
                  exact ih_133 (i_133 + 1) (x5_133 + 0) (by omega) _ (lv_sub hl [2, 3, 4, 1, 0] rfl)  hk_133
                · refine lv_aload_n hx hb dX8_mayBeLaid_159 rfl (lv_at hl 0 rfl) ?_
                  refine m_get (v := .ref (ad 2)) hx hb hts hown hK hP 2 (by decide) rfl kX8_13 rfl dX8_mayBeLaid_160 ?_
                  refine lv_bipush (v := 7) hx hb dX8_mayBeLaid_163 (by decide) ?_
                  refine lv_iload hx hb dX8_mayBeLaid_165 (lv_at hl 4 rfl) ?_
                  refine kn_imul hx hb 7 i_133 rfl rfl dX8_mayBeLaid_167 ?_
                  refine lv_iconst (v := 1) hx hb dX8_mayBeLaid_168 (by decide) ?_
                  refine kn_iadd hx hb (7 * i_133) 1 rfl rfl dX8_mayBeLaid_169 ?_
                  refine kn_iald (f := (RA 2)) (v := (RA 2 ((7 * i_133) + 1))) hx hb hK hP 2 rfl ((7 * i_133) + 1) rfl (by omega) (by omega) rfl dX8_mayBeLaid_170 ?_
                  refine lv_iload hx hb dX8_mayBeLaid_171 (lv_at hl 2 rfl) ?_
                  refine lv_icmp_ne (tgt := 191) hx hb dX8_mayBeLaid_173 (by decide) (fun c_52 => ?_) (fun c_52 => ?_)
                  · refine lv_iconst (v := 0) hx hb dX8_mayBeLaid_191 (by decide) ?_
                    refine lv_iadd hx hb dX8_mayBeLaid_192 ?_
                    refine lv_istore (lv' := [(5, .int (x5_133 + 0)), (0, .ref (ad 0)), (2, .int x2_104), (4, .int (nI i_104)), (6, .int (nI i_133))]) hx hb dX8_mayBeLaid_193 hl (by decide) rfl (fun ls hl => ?_)
                    refine lv_iinc (v := (nI (i_133 + 1))) (lv' := [(6, .int (nI (i_133 + 1))), (5, .int (x5_133 + 0)), (0, .ref (ad 0)), (2, .int x2_104), (4, .int (nI i_104))]) hx hb dX8_mayBeLaid_195 hl (k := 4) rfl (nI_add _ _) (by decide) rfl (fun ls hl => ?_)
                    refine lv_goto (tgt := 133) hx hb dX8_mayBeLaid_198 (by decide) ?_
                    have hL_133 : (m_mayBeLaid_L133 RA i_104 (n_133 + 1) i_133 x5_133) = (m_mayBeLaid_L133 RA i_104 n_133 (i_133 + 1) (x5_133 + 0)) := by rw [m_mayBeLaid_L133.eq_2, if_pos c_51, if_neg c_52]
                    try rw [hL_133] at hk_133
                    exact ih_133 (i_133 + 1) (x5_133 + 0) (by omega) _ (lv_sub hl [2, 3, 4, 1, 0] rfl)  hk_133
                  · refine lv_aload_n hx hb dX8_mayBeLaid_176 rfl (lv_at hl 0 rfl) ?_
                    refine m_get (v := .ref (ad 2)) hx hb hts hown hK hP 2 (by decide) rfl kX8_13 rfl dX8_mayBeLaid_177 ?_
                    refine lv_bipush (v := 7) hx hb dX8_mayBeLaid_180 (by decide) ?_
                    refine lv_iload hx hb dX8_mayBeLaid_182 (lv_at hl 4 rfl) ?_
                    refine kn_imul hx hb 7 i_133 rfl rfl dX8_mayBeLaid_184 ?_
                    refine lv_iconst (v := 3) hx hb dX8_mayBeLaid_185 (by decide) ?_
                    refine kn_iadd hx hb (7 * i_133) 3 rfl rfl dX8_mayBeLaid_186 ?_
                    refine kn_iald (f := (RA 2)) (v := (RA 2 ((7 * i_133) + 3))) hx hb hK hP 2 rfl ((7 * i_133) + 3) rfl (by omega) (by omega) rfl dX8_mayBeLaid_187 ?_
                    refine lv_goto (tgt := 192) hx hb dX8_mayBeLaid_188 (by decide) ?_
                    refine lv_iadd hx hb dX8_mayBeLaid_192 ?_
                    refine lv_istore (lv' := [(5, .int (x5_133 + (RA 2 ((7 * i_133) + 3)))), (0, .ref (ad 0)), (2, .int x2_104), (4, .int (nI i_104)), (6, .int (nI i_133))]) hx hb dX8_mayBeLaid_193 hl (by decide) rfl (fun ls hl => ?_)
                    refine lv_iinc (v := (nI (i_133 + 1))) (lv' := [(6, .int (nI (i_133 + 1))), (5, .int (x5_133 + (RA 2 ((7 * i_133) + 3)))), (0, .ref (ad 0)), (2, .int x2_104), (4, .int (nI i_104))]) hx hb dX8_mayBeLaid_195 hl (k := 4) rfl (nI_add _ _) (by decide) rfl (fun ls hl => ?_)
                    refine lv_goto (tgt := 133) hx hb dX8_mayBeLaid_198 (by decide) ?_
                    have hL_133 : (m_mayBeLaid_L133 RA i_104 (n_133 + 1) i_133 x5_133) = (m_mayBeLaid_L133 RA i_104 n_133 (i_133 + 1) (x5_133 + (RA 2 ((7 * i_133) + 3)))) := by rw [m_mayBeLaid_L133.eq_2, if_pos c_51, if_pos c_52]
                    try rw [hL_133] at hk_133
                    exact ih_133 (i_133 + 1) (x5_133 + (RA 2 ((7 * i_133) + 3))) (by omega) _ (lv_sub hl [2, 3, 4, 1, 0] rfl)  hk_133
            exact loop_133 (RN 3) 0 10 (by omega) _ (lv_sub hl [2, 3, 4, 1, 0] rfl)  (fun ls hl  => rest_133 (m_mayBeLaid_L133 RA i_104 (RN 3) 0 10) _ hl  (by rw [m_mayBeLaid_b104, if_pos c_40]))
      exact loop_104 8 0 x2_24 (by omega) _ (lv_sub hl [1, 2, 0] rfl) (hx_24a) (fun ls hl hx_104a => rest_104 (m_mayBeLaid_L104 RA RN 8 0 x2_24) _ hl hx_104a (hF_24.trans (by rw [m_mayBeLaid_k24])))
    have loop_24 : ∀ (n_24 i_24 : Nat) (x2_24 : Int32) (x3_24 : Int32), i_24 + n_24 = (RN 3) → ∀ (ls : Array Slot), lv_has ls 7 [(0, .ref (ad 0)), (1, .int (m_told RA RN 114 (-4))), (2, .int x2_24), (3, .int x3_24), (4, .int (nI i_24))] → (x2_24 = 0 ∨ x2_24 = 1) → (∀ (ls : Array Slot), lv_has ls 7 [(0, .ref (ad 0)), (2, .int ((m_mayBeLaid_L24 RA (m_told RA RN 114 (-4)) n_24 i_24 x2_24 x3_24).1))] → ((m_mayBeLaid_L24 RA (m_told RA RN 114 (-4)) n_24 i_24 x2_24 x3_24).1 = 0 ∨ (m_mayBeLaid_L24 RA (m_told RA RN 114 (-4)) n_24 i_24 x2_24 x3_24).1 = 1) → W p l e ({ frames := 1, cells := 0, slots := 0, locals := 24 } : Room) s m args below meth c s.heap [] 0 0 (MQ below (kR (some (.int (m_mayBeLaid RA RN)))) args s 0 0 (fun _ => False)) (F0 m 101 ls [])) → W p l e ({ frames := 1, cells := 0, slots := 0, locals := 24 } : Room) s m args below meth c s.heap [] 0 0 (MQ below (kR (some (.int (m_mayBeLaid RA RN)))) args s 0 0 (fun _ => False)) (F0 m 24 ls []) := by
      intro n_24
      induction n_24 with
      | zero =>
        intro i_24 x2_24 x3_24 hin_24 ls hl hinv_24a hk_24
        refine lv_iload hx hb dX8_mayBeLaid_24 (lv_at hl 4 rfl) ?_
        refine lv_aload_n hx hb dX8_mayBeLaid_26 rfl (lv_at hl 0 rfl) ?_
        refine m_get (v := .int (nI (RN 3))) hx hb hts hown hK hP 3 (by decide) rfl kX8_111 rfl dX8_mayBeLaid_27 ?_
        refine lv_icmp_ge (tgt := 101) hx hb dX8_mayBeLaid_30 (by decide) (fun _ => ?_) (fun c_53 => absurd (kct_ge (N := (RN 3)) (nI_clamp (by omega)) (by omega) (by omega)) c_53)
        have hL_24 : (m_mayBeLaid_L24 RA (m_told RA RN 114 (-4)) 0 i_24 x2_24 x3_24) = (x2_24, x3_24) := by rw [m_mayBeLaid_L24.eq_1]
        try rw [hL_24] at hk_24
        exact hk_24 _ (lv_sub hl [0, 2] rfl) (hinv_24a)
      | succ n_24 ih_24 =>
        intro i_24 x2_24 x3_24 hin_24 ls hl hinv_24a hk_24
        refine lv_iload hx hb dX8_mayBeLaid_24 (lv_at hl 4 rfl) ?_
        refine lv_aload_n hx hb dX8_mayBeLaid_26 rfl (lv_at hl 0 rfl) ?_
        refine m_get (v := .int (nI (RN 3))) hx hb hts hown hK hP 3 (by decide) rfl kX8_111 rfl dX8_mayBeLaid_27 ?_
        refine lv_icmp_ge (tgt := 101) hx hb dX8_mayBeLaid_30 (by decide) (fun c_54 => absurd c_54 (kct_lt (N := (RN 3)) (nI_clamp (by omega)) (by omega))) (fun _ => ?_)
        refine lv_aload_n hx hb dX8_mayBeLaid_33 rfl (lv_at hl 0 rfl) ?_
        refine m_get (v := .ref (ad 2)) hx hb hts hown hK hP 2 (by decide) rfl kX8_13 rfl dX8_mayBeLaid_34 ?_
        refine lv_bipush (v := 7) hx hb dX8_mayBeLaid_37 (by decide) ?_
        refine lv_iload hx hb dX8_mayBeLaid_39 (lv_at hl 4 rfl) ?_
        refine kn_imul hx hb 7 i_24 rfl rfl dX8_mayBeLaid_41 ?_
        refine kn_iald (f := (RA 2)) (v := (RA 2 (7 * i_24))) hx hb hK hP 2 rfl (7 * i_24) rfl (by omega) (by omega) rfl dX8_mayBeLaid_42 ?_
        refine lv_bipush (v := 114) hx hb dX8_mayBeLaid_43 (by decide) ?_
        refine lv_icmp_ne (tgt := 95) hx hb dX8_mayBeLaid_45 (by decide) (fun c_55 => ?_) (fun c_55 => ?_)
        · refine lv_iinc (v := (nI (i_24 + 1))) (lv' := [(4, .int (nI (i_24 + 1))), (0, .ref (ad 0)), (1, .int (m_told RA RN 114 (-4))), (2, .int x2_24), (3, .int x3_24)]) hx hb dX8_mayBeLaid_95 hl (k := 4) rfl (nI_add _ _) (by decide) rfl (fun ls hl => ?_)
          refine lv_goto (tgt := 24) hx hb dX8_mayBeLaid_98 (by decide) ?_
          have hL_24 : (m_mayBeLaid_L24 RA (m_told RA RN 114 (-4)) (n_24 + 1) i_24 x2_24 x3_24) = (m_mayBeLaid_L24 RA (m_told RA RN 114 (-4)) n_24 (i_24 + 1) x2_24 x3_24) := by rw [m_mayBeLaid_L24.eq_2, if_neg c_55]
          try rw [hL_24] at hk_24
          exact ih_24 (i_24 + 1) x2_24 x3_24 (by omega) _ (lv_sub hl [1, 2, 3, 4, 0] rfl) (by first | exact Or.inl rfl | exact Or.inr rfl | assumption) hk_24
        · refine lv_aload_n hx hb dX8_mayBeLaid_48 rfl (lv_at hl 0 rfl) ?_
          refine m_get (v := .ref (ad 2)) hx hb hts hown hK hP 2 (by decide) rfl kX8_13 rfl dX8_mayBeLaid_49 ?_
          refine lv_bipush (v := 7) hx hb dX8_mayBeLaid_52 (by decide) ?_
          refine lv_iload hx hb dX8_mayBeLaid_54 (lv_at hl 4 rfl) ?_
          refine kn_imul hx hb 7 i_24 rfl rfl dX8_mayBeLaid_56 ?_
          refine lv_bipush (v := 6) hx hb dX8_mayBeLaid_57 (by decide) ?_
          refine kn_iadd hx hb (7 * i_24) 6 rfl rfl dX8_mayBeLaid_59 ?_
          refine kn_iald (f := (RA 2)) (v := (RA 2 ((7 * i_24) + 6))) hx hb hK hP 2 rfl ((7 * i_24) + 6) rfl (by omega) (by omega) rfl dX8_mayBeLaid_60 ?_
          refine lv_istore (lv' := [(5, .int (RA 2 ((7 * i_24) + 6))), (0, .ref (ad 0)), (1, .int (m_told RA RN 114 (-4))), (2, .int x2_24), (3, .int x3_24), (4, .int (nI i_24))]) hx hb dX8_mayBeLaid_61 hl (by decide) rfl (fun ls hl => ?_)
          refine lv_iload_n hx hb dX8_mayBeLaid_63 rfl (lv_at hl 3 rfl) ?_
          refine lv_if_eq (tgt := 90) hx hb dX8_mayBeLaid_64 (by decide) (fun c_56 => ?_) (fun c_56 => ?_)
          · refine lv_iconst (v := 0) hx hb dX8_mayBeLaid_90 (by decide) ?_
            refine lv_istore_n (lv' := [(2, .int 0), (5, .int (RA 2 ((7 * i_24) + 6))), (0, .ref (ad 0)), (1, .int (m_told RA RN 114 (-4))), (3, .int x3_24), (4, .int (nI i_24))]) hx hb dX8_mayBeLaid_91 rfl hl (by decide) rfl (fun ls hl => ?_)
            refine lv_iinc (v := (x3_24 + 1)) (lv' := [(3, .int (x3_24 + 1)), (2, .int 0), (5, .int (RA 2 ((7 * i_24) + 6))), (0, .ref (ad 0)), (1, .int (m_told RA RN 114 (-4))), (4, .int (nI i_24))]) hx hb dX8_mayBeLaid_92 hl (k := 4) rfl rfl (by decide) rfl (fun ls hl => ?_)
            refine lv_iinc (v := (nI (i_24 + 1))) (lv' := [(4, .int (nI (i_24 + 1))), (3, .int (x3_24 + 1)), (2, .int 0), (5, .int (RA 2 ((7 * i_24) + 6))), (0, .ref (ad 0)), (1, .int (m_told RA RN 114 (-4)))]) hx hb dX8_mayBeLaid_95 hl (k := 5) rfl (nI_add _ _) (by decide) rfl (fun ls hl => ?_)
            refine lv_goto (tgt := 24) hx hb dX8_mayBeLaid_98 (by decide) ?_
            have hL_24 : (m_mayBeLaid_L24 RA (m_told RA RN 114 (-4)) (n_24 + 1) i_24 x2_24 x3_24) = (m_mayBeLaid_L24 RA (m_told RA RN 114 (-4)) n_24 (i_24 + 1) 0 (x3_24 + 1)) := by rw [m_mayBeLaid_L24.eq_2, if_pos c_55, if_pos c_56]
            try rw [hL_24] at hk_24
            exact ih_24 (i_24 + 1) 0 (x3_24 + 1) (by omega) _ (lv_sub hl [4, 5, 2, 1, 0] rfl) (by first | exact Or.inl rfl | exact Or.inr rfl | assumption) hk_24
          · refine lv_iload hx hb dX8_mayBeLaid_67 (lv_at hl 0 rfl) ?_
            refine lv_bipush (v := 8) hx hb dX8_mayBeLaid_69 (by decide) ?_
            refine lv_icmp_eq (tgt := 86) hx hb dX8_mayBeLaid_71 (by decide) (fun c_57 => ?_) (fun c_57 => ?_)
            · refine lv_iconst (v := 1) hx hb dX8_mayBeLaid_86 (by decide) ?_
              refine lv_goto (tgt := 91) hx hb dX8_mayBeLaid_87 (by decide) ?_
              refine lv_istore_n (lv' := [(2, .int 1), (5, .int (RA 2 ((7 * i_24) + 6))), (0, .ref (ad 0)), (1, .int (m_told RA RN 114 (-4))), (3, .int x3_24), (4, .int (nI i_24))]) hx hb dX8_mayBeLaid_91 rfl hl (by decide) rfl (fun ls hl => ?_)
              refine lv_iinc (v := (x3_24 + 1)) (lv' := [(3, .int (x3_24 + 1)), (2, .int 1), (5, .int (RA 2 ((7 * i_24) + 6))), (0, .ref (ad 0)), (1, .int (m_told RA RN 114 (-4))), (4, .int (nI i_24))]) hx hb dX8_mayBeLaid_92 hl (k := 4) rfl rfl (by decide) rfl (fun ls hl => ?_)
              refine lv_iinc (v := (nI (i_24 + 1))) (lv' := [(4, .int (nI (i_24 + 1))), (3, .int (x3_24 + 1)), (2, .int 1), (5, .int (RA 2 ((7 * i_24) + 6))), (0, .ref (ad 0)), (1, .int (m_told RA RN 114 (-4)))]) hx hb dX8_mayBeLaid_95 hl (k := 5) rfl (nI_add _ _) (by decide) rfl (fun ls hl => ?_)
              refine lv_goto (tgt := 24) hx hb dX8_mayBeLaid_98 (by decide) ?_
              have hL_24 : (m_mayBeLaid_L24 RA (m_told RA RN 114 (-4)) (n_24 + 1) i_24 x2_24 x3_24) = (m_mayBeLaid_L24 RA (m_told RA RN 114 (-4)) n_24 (i_24 + 1) 1 (x3_24 + 1)) := by rw [m_mayBeLaid_L24.eq_2, if_pos c_55, if_neg c_56, if_pos c_57]
              try rw [hL_24] at hk_24
              exact ih_24 (i_24 + 1) 1 (x3_24 + 1) (by omega) _ (lv_sub hl [4, 5, 2, 1, 0] rfl) (by first | exact Or.inl rfl | exact Or.inr rfl | assumption) hk_24
            · refine lv_iload hx hb dX8_mayBeLaid_74 (lv_at hl 0 rfl) ?_
              refine lv_iload_n hx hb dX8_mayBeLaid_76 rfl (lv_at hl 2 rfl) ?_
              refine lv_icmp_ge (tgt := 90) hx hb dX8_mayBeLaid_77 (by decide) (fun c_58 => ?_) (fun c_58 => ?_)
              · refine lv_iconst (v := 0) hx hb dX8_mayBeLaid_90 (by decide) ?_
                refine lv_istore_n (lv' := [(2, .int 0), (5, .int (RA 2 ((7 * i_24) + 6))), (0, .ref (ad 0)), (1, .int (m_told RA RN 114 (-4))), (3, .int x3_24), (4, .int (nI i_24))]) hx hb dX8_mayBeLaid_91 rfl hl (by decide) rfl (fun ls hl => ?_)
                refine lv_iinc (v := (x3_24 + 1)) (lv' := [(3, .int (x3_24 + 1)), (2, .int 0), (5, .int (RA 2 ((7 * i_24) + 6))), (0, .ref (ad 0)), (1, .int (m_told RA RN 114 (-4))), (4, .int (nI i_24))]) hx hb dX8_mayBeLaid_92 hl (k := 4) rfl rfl (by decide) rfl (fun ls hl => ?_)
                refine lv_iinc (v := (nI (i_24 + 1))) (lv' := [(4, .int (nI (i_24 + 1))), (3, .int (x3_24 + 1)), (2, .int 0), (5, .int (RA 2 ((7 * i_24) + 6))), (0, .ref (ad 0)), (1, .int (m_told RA RN 114 (-4)))]) hx hb dX8_mayBeLaid_95 hl (k := 5) rfl (nI_add _ _) (by decide) rfl (fun ls hl => ?_)
                refine lv_goto (tgt := 24) hx hb dX8_mayBeLaid_98 (by decide) ?_
                have hL_24 : (m_mayBeLaid_L24 RA (m_told RA RN 114 (-4)) (n_24 + 1) i_24 x2_24 x3_24) = (m_mayBeLaid_L24 RA (m_told RA RN 114 (-4)) n_24 (i_24 + 1) 0 (x3_24 + 1)) := by rw [m_mayBeLaid_L24.eq_2, if_pos c_55, if_neg c_56, if_neg c_57, if_pos c_58]
                try rw [hL_24] at hk_24
                exact ih_24 (i_24 + 1) 0 (x3_24 + 1) (by omega) _ (lv_sub hl [4, 5, 2, 1, 0] rfl) (by first | exact Or.inl rfl | exact Or.inr rfl | assumption) hk_24
              · refine lv_iload hx hb dX8_mayBeLaid_80 (lv_at hl 0 rfl) ?_
                refine lv_iload_n hx hb dX8_mayBeLaid_82 rfl (lv_at hl 4 rfl) ?_
                refine lv_icmp_eq (tgt := 90) hx hb dX8_mayBeLaid_83 (by decide) (fun c_59 => ?_) (fun c_59 => ?_)
                · refine lv_iconst (v := 0) hx hb dX8_mayBeLaid_90 (by decide) ?_
                  refine lv_istore_n (lv' := [(2, .int 0), (5, .int (RA 2 ((7 * i_24) + 6))), (0, .ref (ad 0)), (1, .int (m_told RA RN 114 (-4))), (3, .int x3_24), (4, .int (nI i_24))]) hx hb dX8_mayBeLaid_91 rfl hl (by decide) rfl (fun ls hl => ?_)
                  refine lv_iinc (v := (x3_24 + 1)) (lv' := [(3, .int (x3_24 + 1)), (2, .int 0), (5, .int (RA 2 ((7 * i_24) + 6))), (0, .ref (ad 0)), (1, .int (m_told RA RN 114 (-4))), (4, .int (nI i_24))]) hx hb dX8_mayBeLaid_92 hl (k := 4) rfl rfl (by decide) rfl (fun ls hl => ?_)
                  refine lv_iinc (v := (nI (i_24 + 1))) (lv' := [(4, .int (nI (i_24 + 1))), (3, .int (x3_24 + 1)), (2, .int 0), (5, .int (RA 2 ((7 * i_24) + 6))), (0, .ref (ad 0)), (1, .int (m_told RA RN 114 (-4)))]) hx hb dX8_mayBeLaid_95 hl (k := 5) rfl (nI_add _ _) (by decide) rfl (fun ls hl => ?_)
                  refine lv_goto (tgt := 24) hx hb dX8_mayBeLaid_98 (by decide) ?_
                  have hL_24 : (m_mayBeLaid_L24 RA (m_told RA RN 114 (-4)) (n_24 + 1) i_24 x2_24 x3_24) = (m_mayBeLaid_L24 RA (m_told RA RN 114 (-4)) n_24 (i_24 + 1) 0 (x3_24 + 1)) := by rw [m_mayBeLaid_L24.eq_2, if_pos c_55, if_neg c_56, if_neg c_57, if_neg c_58, if_pos c_59]
                  try rw [hL_24] at hk_24
                  exact ih_24 (i_24 + 1) 0 (x3_24 + 1) (by omega) _ (lv_sub hl [4, 5, 2, 1, 0] rfl) (by first | exact Or.inl rfl | exact Or.inr rfl | assumption) hk_24
                · refine lv_iconst (v := 1) hx hb dX8_mayBeLaid_86 (by decide) ?_
                  refine lv_goto (tgt := 91) hx hb dX8_mayBeLaid_87 (by decide) ?_
                  refine lv_istore_n (lv' := [(2, .int 1), (5, .int (RA 2 ((7 * i_24) + 6))), (0, .ref (ad 0)), (1, .int (m_told RA RN 114 (-4))), (3, .int x3_24), (4, .int (nI i_24))]) hx hb dX8_mayBeLaid_91 rfl hl (by decide) rfl (fun ls hl => ?_)
                  refine lv_iinc (v := (x3_24 + 1)) (lv' := [(3, .int (x3_24 + 1)), (2, .int 1), (5, .int (RA 2 ((7 * i_24) + 6))), (0, .ref (ad 0)), (1, .int (m_told RA RN 114 (-4))), (4, .int (nI i_24))]) hx hb dX8_mayBeLaid_92 hl (k := 4) rfl rfl (by decide) rfl (fun ls hl => ?_)
                  refine lv_iinc (v := (nI (i_24 + 1))) (lv' := [(4, .int (nI (i_24 + 1))), (3, .int (x3_24 + 1)), (2, .int 1), (5, .int (RA 2 ((7 * i_24) + 6))), (0, .ref (ad 0)), (1, .int (m_told RA RN 114 (-4)))]) hx hb dX8_mayBeLaid_95 hl (k := 5) rfl (nI_add _ _) (by decide) rfl (fun ls hl => ?_)
                  refine lv_goto (tgt := 24) hx hb dX8_mayBeLaid_98 (by decide) ?_
                  have hL_24 : (m_mayBeLaid_L24 RA (m_told RA RN 114 (-4)) (n_24 + 1) i_24 x2_24 x3_24) = (m_mayBeLaid_L24 RA (m_told RA RN 114 (-4)) n_24 (i_24 + 1) 1 (x3_24 + 1)) := by rw [m_mayBeLaid_L24.eq_2, if_pos c_55, if_neg c_56, if_neg c_57, if_neg c_58, if_neg c_59]
                  try rw [hL_24] at hk_24
                  exact ih_24 (i_24 + 1) 1 (x3_24 + 1) (by omega) _ (lv_sub hl [4, 5, 2, 1, 0] rfl) (by first | exact Or.inl rfl | exact Or.inr rfl | assumption) hk_24
    exact loop_24 (RN 3) 0 1 0 (by omega) _ (lv_sub hl [4, 3, 2, 1, 0] rfl) (by first | exact Or.inl rfl | exact Or.inr rfl | assumption) (fun ls hl hx_24a => rest_24 (m_mayBeLaid_L24 RA (m_told RA RN 114 (-4)) (RN 3) 0 1 0).1 (m_mayBeLaid_L24 RA (m_told RA RN 114 (-4)) (RN 3) 0 1 0).2 _ hl hx_24a (by rw [m_mayBeLaid, if_neg c_15]))
-- X8_begun
def m_begun (RA : Nat → Nat → Int32) (RS : Nat → Int32) (RN : Nat → Nat) : (Nat → Int32) × (Nat → Int32) × (Nat → Int32) × (Nat → Int32) × (Nat → Int32) × (Nat → Int32) × Nat × Nat × Nat × Int32 × Int32 × Int32 × Int32 := ((m_feel RA (va_up (va_up (va_up RS 26 ((1 <<< ((nI (RN 4)) &&& 31)) - 1)) 27 0) 30 0) (va_up (va_up (va_up RN 29 0) 32 0) 34 0)).1, (m_feel RA (va_up (va_up (va_up RS 26 ((1 <<< ((nI (RN 4)) &&& 31)) - 1)) 27 0) 30 0) (va_up (va_up (va_up RN 29 0) 32 0) 34 0)).2.1, (m_feel RA (va_up (va_up (va_up RS 26 ((1 <<< ((nI (RN 4)) &&& 31)) - 1)) 27 0) 30 0) (va_up (va_up (va_up RN 29 0) 32 0) 34 0)).2.2.1, (m_feel RA (va_up (va_up (va_up RS 26 ((1 <<< ((nI (RN 4)) &&& 31)) - 1)) 27 0) 30 0) (va_up (va_up (va_up RN 29 0) 32 0) 34 0)).2.2.2.1, (m_feel RA (va_up (va_up (va_up RS 26 ((1 <<< ((nI (RN 4)) &&& 31)) - 1)) 27 0) 30 0) (va_up (va_up (va_up RN 29 0) 32 0) 34 0)).2.2.2.2.1, (m_feel RA (va_up (va_up (va_up RS 26 ((1 <<< ((nI (RN 4)) &&& 31)) - 1)) 27 0) 30 0) (va_up (va_up (va_up RN 29 0) 32 0) 34 0)).2.2.2.2.2.1, 0, 0, 0, (m_feel RA (va_up (va_up (va_up RS 26 ((1 <<< ((nI (RN 4)) &&& 31)) - 1)) 27 0) 30 0) (va_up (va_up (va_up RN 29 0) 32 0) 34 0)).2.2.2.2.2.2.1, 0, 0, (m_feel RA (va_up (va_up (va_up RS 26 ((1 <<< ((nI (RN 4)) &&& 31)) - 1)) 27 0) 30 0) (va_up (va_up (va_up RN 29 0) 32 0) 34 0)).2.2.2.2.2.2.2)
set_option maxHeartbeats 4000000 in
set_option maxRecDepth 100000 in
theorem c_m_begun (hI : kInj ad 24) (hM : mI RA RS (va_up (va_up (va_up RN 29 0) 32 0) 34 0)) : Met l yX8_begun (.code yX8_begun cX8_begun 1 none :: kT) ({ frames := 4, cells := 0, slots := 0, locals := 90 } : Room) (va_Pc [.ref (ad 0)] (kB (dC, dI) [(cI, .int)] (RWs cI ad RA RS RN RL))) (kQ none (kB (dC, dI) [(cI, .int)] (RWs cI ad (va_up (va_up (va_up (va_up (va_up (va_up RA 21 ((m_begun RA RS RN).1)) 22 ((m_begun RA RS RN).2.1)) 23 ((m_begun RA RS RN).2.2.1)) 36 ((m_begun RA RS RN).2.2.2.1)) 37 ((m_begun RA RS RN).2.2.2.2.1)) 39 ((m_begun RA RS RN).2.2.2.2.2.1)) (va_up (va_up (va_up (va_up RS 26 ((m_begun RA RS RN).2.2.2.2.2.2.2.2.2.1)) 27 ((m_begun RA RS RN).2.2.2.2.2.2.2.2.2.2.1)) 30 ((m_begun RA RS RN).2.2.2.2.2.2.2.2.2.2.2.1)) 38 ((m_begun RA RS RN).2.2.2.2.2.2.2.2.2.2.2.2)) (va_up (va_up (va_up RN 29 ((m_begun RA RS RN).2.2.2.2.2.2.1)) 32 ((m_begun RA RS RN).2.2.2.2.2.2.2.1)) 34 ((m_begun RA RS RN).2.2.2.2.2.2.2.2.1)) RL)) (kAA ad 24)) 0 0 (kAA ad 24) := by
  refine kMet (by decide) (fun p e s m args below meth c ls hx hb hr hml hts hown hlocks hname hargs hB hl => ?_) (Nat.le_of_ble_eq_true rfl)
  obtain ⟨hP, hK, hN⟩ := hB
  have hl : lv_has ls 1 [(0, .ref (ad 0))] := hl
  have hS : va_S (kAA ad 24) s.heap s.heap [] := va_S.rf
  refine lv_aload_n hx hb dX8_begun_0 rfl (lv_at hl 0 rfl) ?_
  refine lv_iconst (v := 1) hx hb dX8_begun_1 (by decide) ?_
  refine lv_aload_n hx hb dX8_begun_2 rfl (lv_at hl 0 rfl) ?_
  refine m_get (v := .int (nI (RN 4))) hx hb hts hown hK hP 4 (by decide) rfl kX8_82 rfl dX8_begun_3 ?_
  refine lv_ishl hx hb dX8_begun_6 ?_
  refine lv_iconst (v := 1) hx hb dX8_begun_7 (by decide) ?_
  refine lv_isub hx hb dX8_begun_8 ?_
  refine m_put (RS' := (va_up RS 26 ((1 <<< ((nI (RN 4)) &&& 31)) - 1))) (RN' := RN) (RL' := RL) (ty := .int) hx hb hts hown hI hK hP hS 26 (by decide) rfl kX8_163 rfl (by decide +kernel) rfl rfl rfl dX8_begun_9 (fun H locs hP hS => ?_)
  refine lv_aload_n hx hb dX8_begun_12 rfl (lv_at hl 0 rfl) ?_
  refine lv_iconst (v := 0) hx hb dX8_begun_13 (by decide) ?_
  refine m_put (RS' := (va_up (va_up RS 26 ((1 <<< ((nI (RN 4)) &&& 31)) - 1)) 27 0)) (RN' := RN) (RL' := RL) (ty := .int) hx hb hts hown hI hK hP hS 27 (by decide) rfl kX8_166 rfl (by decide +kernel) rfl rfl rfl dX8_begun_14 (fun H locs hP hS => ?_)
  refine lv_aload_n hx hb dX8_begun_17 rfl (lv_at hl 0 rfl) ?_
  refine lv_iconst (v := 0) hx hb dX8_begun_18 (by decide) ?_
  refine m_put (RS' := (va_up (va_up RS 26 ((1 <<< ((nI (RN 4)) &&& 31)) - 1)) 27 0)) (RN' := (va_up RN 29 0)) (RL' := RL) (ty := .int) hx hb hts hown hI hK hP hS 29 (by decide) rfl kX8_169 rfl (by decide +kernel) rfl rfl rfl dX8_begun_19 (fun H locs hP hS => ?_)
  refine lv_aload_n hx hb dX8_begun_22 rfl (lv_at hl 0 rfl) ?_
  refine lv_iconst (v := 0) hx hb dX8_begun_23 (by decide) ?_
  refine m_put (RS' := (va_up (va_up (va_up RS 26 ((1 <<< ((nI (RN 4)) &&& 31)) - 1)) 27 0) 30 0)) (RN' := (va_up RN 29 0)) (RL' := RL) (ty := .int) hx hb hts hown hI hK hP hS 30 (by decide) rfl kX8_171 rfl (by decide +kernel) rfl rfl rfl dX8_begun_24 (fun H locs hP hS => ?_)
  refine lv_aload_n hx hb dX8_begun_27 rfl (lv_at hl 0 rfl) ?_
  refine lv_iconst (v := 0) hx hb dX8_begun_28 (by decide) ?_
  refine m_put (RS' := (va_up (va_up (va_up RS 26 ((1 <<< ((nI (RN 4)) &&& 31)) - 1)) 27 0) 30 0)) (RN' := (va_up (va_up RN 29 0) 32 0)) (RL' := RL) (ty := .int) hx hb hts hown hI hK hP hS 32 (by decide) rfl kX8_174 rfl (by decide +kernel) rfl rfl rfl dX8_begun_29 (fun H locs hP hS => ?_)
  refine lv_aload_n hx hb dX8_begun_32 rfl (lv_at hl 0 rfl) ?_
  refine lv_iconst (v := 0) hx hb dX8_begun_33 (by decide) ?_
  refine m_put (RS' := (va_up (va_up (va_up RS 26 ((1 <<< ((nI (RN 4)) &&& 31)) - 1)) 27 0) 30 0)) (RN' := (va_up (va_up (va_up RN 29 0) 32 0) 34 0)) (RL' := RL) (ty := .int) hx hb hts hown hI hK hP hS 34 (by decide) rfl kX8_177 rfl (by decide +kernel) rfl rfl rfl dX8_begun_34 (fun H locs hP hS => ?_)
  refine lv_aload_n hx hb dX8_begun_37 rfl (lv_at hl 0 rfl) ?_
  refine k_wV (r := none) (As := []) (rest := []) hx hb hml hown hts hl.1 hP hK hN hS (c_m_feel hI (hM)) eX8_180 (ci := 7) (q0 := 0) rfl rfl rfl rfl rfl (Nat.le_of_ble_eq_true rfl) ⟨Nat.le_of_ble_eq_true rfl, Nat.le_of_ble_eq_true rfl⟩ ⟨rfl, rfl⟩ ⟨Nat.le_of_ble_eq_true rfl, Nat.le_of_ble_eq_true rfl⟩ dX8_begun_38 (fun H locs hP hS => ?_)
  obtain ⟨r_1, hr_1⟩ : ∃ z, z = (m_feel RA (va_up (va_up (va_up RS 26 ((1 <<< ((nI (RN 4)) &&& 31)) - 1)) 27 0) 30 0) (va_up (va_up (va_up RN 29 0) 32 0) 34 0)) := ⟨_, rfl⟩
  rw [← hr_1] at hP
  have hP : va_P (dC, dI) vwCl (RWs cI ad (va_up (va_up (va_up (va_up (va_up (va_up RA 21 r_1.1) 22 r_1.2.1) 23 r_1.2.2.1) 36 r_1.2.2.2.1) 37 r_1.2.2.2.2.1) 39 r_1.2.2.2.2.2.1) (va_up (va_up (va_up (va_up RS 26 r_1.2.2.2.2.2.2.1) 27 0) 30 0) 38 r_1.2.2.2.2.2.2.2) (va_up (va_up (va_up RN 29 0) 32 0) 34 0) RL) H := (RWs_conv rfl rfl rfl rfl rfl rfl rfl rfl rfl rfl rfl rfl rfl rfl rfl rfl rfl rfl rfl rfl rfl rfl rfl rfl rfl rfl rfl rfl rfl rfl rfl rfl rfl rfl rfl rfl rfl rfl rfl rfl rfl hP)
  have hE : (m_begun RA RS RN) = (r_1.1, r_1.2.1, r_1.2.2.1, r_1.2.2.2.1, r_1.2.2.2.2.1, r_1.2.2.2.2.2.1, 0, 0, 0, r_1.2.2.2.2.2.2.1, 0, 0, r_1.2.2.2.2.2.2.2) := by subst hr_1; rw [m_begun]
  exact W.vret hx hb hr (fun t ht hW => ⟨rfl, by rw [hE]; exact kB.of (ws := RWs cI ad (va_up (va_up (va_up (va_up (va_up (va_up RA 21 r_1.1) 22 r_1.2.1) 23 r_1.2.2.1) 36 r_1.2.2.2.1) 37 r_1.2.2.2.2.1) 39 r_1.2.2.2.2.2.1) (va_up (va_up (va_up (va_up RS 26 r_1.2.2.2.2.2.2.1) 27 0) 30 0) 38 r_1.2.2.2.2.2.2.2) (va_up (va_up (va_up RN 29 0) 32 0) 34 0) RL) hP hK hN ht hW, hS.F ht⟩) hS.2.2 dX8_begun_41 hlocks

end REF
