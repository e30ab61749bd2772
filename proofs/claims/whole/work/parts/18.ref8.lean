section REF
variable {l : Launch} {dC : Nat → ClassId} {dI : Nat → Nat → Nat} {cI : ClassId} {ad : Nat → Nat} {RA : Nat → Nat → Int32} {RS : Nat → Int32} {RN : Nat → Nat} {RL : Int64}
-- X8_out
def m_out_k80 (a36 : Nat → Int32) (a37 : Nat → Int32) (a39 : Nat → Int32) (s38 : Int32) (v5 : Int32) (v6 : Int32) : Int32 × (Nat → Int32) × (Nat → Int32) × (Nat → Int32) × Int32 := if v6 = (-4) then ((-4), a36, a37, a39, s38) else (if v5 ≤ v6 then ((v6 - v5), a36, a37, a39, s38) else ((-4), a36, a37, a39, s38))
def m_out_L80 (RA : Nat → Nat → Int32) (RS : Nat → Int32) (RN : Nat → Nat) (s38 : Int32) (v1 : Nat) (v2 : Int32) (v3 : Int32) (v4 : Int32) : Nat → Nat → Int32 → (Nat → Int32) → (Nat → Int32) → (Nat → Int32) → Int32 × (Nat → Int32) × (Nat → Int32) × (Nat → Int32)
  | 0, i, v6, a36, a37, a39 => (v6, a36, a37, a39)
  | n + 1, i, v6, a36, a37, a39 => if v6 = (-4) then (if ((m_below (va_up (va_up (va_up RA 36 ((m_goHour (va_up (va_up (va_up RA 36 a36) 37 a37) 39 a39) (va_up RS 38 s38) RN v2 ((RA 31 i).toNatClampNeg) (RS 15) (-4)).1)) 37 ((m_goHour (va_up (va_up (va_up RA 36 a36) 37 a37) 39 a39) (va_up RS 38 s38) RN v2 ((RA 31 i).toNatClampNeg) (RS 15) (-4)).2.1)) 39 ((m_goHour (va_up (va_up (va_up RA 36 a36) 37 a37) 39 a39) (va_up RS 38 s38) RN v2 ((RA 31 i).toNatClampNeg) (RS 15) (-4)).2.2)) v1 ((m_goHour (va_up (va_up (va_up RA 36 a36) 37 a37) 39 a39) (va_up RS 38 s38) RN v2 ((RA 31 i).toNatClampNeg) (RS 15) (-4)).2.2 v1)) * v4) < (v3 * (m_chances (va_up (va_up (va_up RA 36 ((m_goHour (va_up (va_up (va_up RA 36 a36) 37 a37) 39 a39) (va_up RS 38 s38) RN v2 ((RA 31 i).toNatClampNeg) (RS 15) (-4)).1)) 37 ((m_goHour (va_up (va_up (va_up RA 36 a36) 37 a37) 39 a39) (va_up RS 38 s38) RN v2 ((RA 31 i).toNatClampNeg) (RS 15) (-4)).2.1)) 39 ((m_goHour (va_up (va_up (va_up RA 36 a36) 37 a37) 39 a39) (va_up RS 38 s38) RN v2 ((RA 31 i).toNatClampNeg) (RS 15) (-4)).2.2)) v1)) then m_out_L80 RA RS RN s38 v1 v2 v3 v4 n (i + 1) (-4) ((m_goHour (va_up (va_up (va_up RA 36 a36) 37 a37) 39 a39) (va_up RS 38 s38) RN v2 ((RA 31 i).toNatClampNeg) (RS 15) (-4)).1) ((m_goHour (va_up (va_up (va_up RA 36 a36) 37 a37) 39 a39) (va_up RS 38 s38) RN v2 ((RA 31 i).toNatClampNeg) (RS 15) (-4)).2.1) ((m_goHour (va_up (va_up (va_up RA 36 a36) 37 a37) 39 a39) (va_up RS 38 s38) RN v2 ((RA 31 i).toNatClampNeg) (RS 15) (-4)).2.2) else m_out_L80 RA RS RN s38 v1 v2 v3 v4 n (i + 1) (nI (i + 1)) ((m_goHour (va_up (va_up (va_up RA 36 a36) 37 a37) 39 a39) (va_up RS 38 s38) RN v2 ((RA 31 i).toNatClampNeg) (RS 15) (-4)).1) ((m_goHour (va_up (va_up (va_up RA 36 a36) 37 a37) 39 a39) (va_up RS 38 s38) RN v2 ((RA 31 i).toNatClampNeg) (RS 15) (-4)).2.1) ((m_goHour (va_up (va_up (va_up RA 36 a36) 37 a37) 39 a39) (va_up RS 38 s38) RN v2 ((RA 31 i).toNatClampNeg) (RS 15) (-4)).2.2)) else (v6, a36, a37, a39)
def m_out (RA : Nat → Nat → Int32) (RS : Nat → Int32) (RN : Nat → Nat) (v1 : Int32) (v2 : Int32) (v3 : Int32) (v4 : Int32) (v5 : Int32) : Int32 × (Nat → Int32) × (Nat → Int32) × (Nat → Int32) × Int32 := if (m_isRoof RN v1) = 0 then ((-1), (RA 36), (RA 37), (RA 39), (RS 38)) else (if (m_isRule v2) = 0 then ((-1), (RA 36), (RA 37), (RA 39), (RS 38)) else (if (m_in v4.toInt64 1 100) = 0 then ((-1), (RA 36), (RA 37), (RA 39), (RS 38)) else (if (m_in v3.toInt64 1 v4.toInt64) = 0 then ((-1), (RA 36), (RA 37), (RA 39), (RS 38)) else (if (m_in v5.toInt64 0 9) = 0 then ((-1), (RA 36), (RA 37), (RA 39), (RS 38)) else (if (m_has (RS 26) (nI v1.toNatClampNeg)) = 0 then ((-2), (RA 36), (RA 37), (RA 39), (RS 38)) else m_out_k80 (m_out_L80 RA RS RN ((m_load RA RS).2.2.2) v1.toNatClampNeg v2 v3 v4 (RN 32) 0 (-4) ((m_load RA RS).1) ((m_load RA RS).2.1) ((m_load RA RS).2.2.1)).2.1 (m_out_L80 RA RS RN ((m_load RA RS).2.2.2) v1.toNatClampNeg v2 v3 v4 (RN 32) 0 (-4) ((m_load RA RS).1) ((m_load RA RS).2.1) ((m_load RA RS).2.2.1)).2.2.1 (m_out_L80 RA RS RN ((m_load RA RS).2.2.2) v1.toNatClampNeg v2 v3 v4 (RN 32) 0 (-4) ((m_load RA RS).1) ((m_load RA RS).2.1) ((m_load RA RS).2.2.1)).2.2.2 ((m_load RA RS).2.2.2) v5 (m_out_L80 RA RS RN ((m_load RA RS).2.2.2) v1.toNatClampNeg v2 v3 v4 (RN 32) 0 (-4) ((m_load RA RS).1) ((m_load RA RS).2.1) ((m_load RA RS).2.2.1)).1)))))
set_option maxHeartbeats 4000000 in
set_option maxRecDepth 100000 in
theorem c_m_out (hI : kInj ad 24) (v1 : Int32) (v2 : Int32) (v3 : Int32) (v4 : Int32) (v5 : Int32) (hM : mI RA RS RN) : Met l yX8_out (.code yX8_out cX8_out 8 (some .int) :: kT) ({ frames := 6, cells := 0, slots := 0, locals := 141 } : Room) (va_Pc [.ref (ad 0), .int v1, .int v2, .int v3, .int v4, .int v5] (kB (dC, dI) [(cI, .int)] (RWs cI ad RA RS RN RL))) (kQ (some (.int ((m_out RA RS RN v1 v2 v3 v4 v5).1))) (kB (dC, dI) [(cI, .int)] (RWs cI ad (va_up (va_up (va_up RA 36 ((m_out RA RS RN v1 v2 v3 v4 v5).2.1)) 37 ((m_out RA RS RN v1 v2 v3 v4 v5).2.2.1)) 39 ((m_out RA RS RN v1 v2 v3 v4 v5).2.2.2.1)) (va_up RS 38 ((m_out RA RS RN v1 v2 v3 v4 v5).2.2.2.2)) RN RL)) (kAA ad 24)) 0 0 (kAA ad 24) := by
  refine kMet (by decide) (fun p e s m args below meth c ls hx hb hr hml hts hown hlocks hname hargs hB hl => ?_) (Nat.le_of_ble_eq_true rfl)
  obtain ⟨hP, hK, hN⟩ := hB
  have hl : lv_has ls 8 [(0, .ref (ad 0)), (1, .int v1), (2, .int v2), (3, .int v3), (4, .int v4), (5, .int v5)] := hl
  have hS : va_S (kAA ad 24) s.heap s.heap [] := va_S.rf
  have h4 : RN 4 ≤ 8 := mI_many hM
  have h32 := mI_rowMany hM
  refine lv_aload_n hx hb dX8_out_0 rfl (lv_at hl 0 rfl) ?_
  refine lv_iload_n hx hb dX8_out_1 rfl (lv_at hl 1 rfl) ?_
  refine k_rV (v := .int (m_isRoof RN v1)) (As := [.int v1]) (rest := []) hx hb hml hown hts hl.1 hP hK hN (c_m_isRoof hI v1) eX8_221 (ci := 7) (q0 := 0) rfl rfl rfl rfl rfl (Nat.le_of_ble_eq_true rfl) ⟨Nat.le_of_ble_eq_true rfl, Nat.le_of_ble_eq_true rfl⟩ ⟨rfl, rfl⟩ ⟨Nat.le_of_ble_eq_true rfl, Nat.le_of_ble_eq_true rfl⟩ dX8_out_2 ?_
  refine lv_if_eq (tgt := 53) hx hb dX8_out_5 (by decide) (fun c_12 => ?_) (fun c_12 => ?_)
  · refine lv_iconst (v := (-1)) hx hb dX8_out_53 (by decide) ?_
    have hE : (m_out RA RS RN v1 v2 v3 v4 v5) = ((-1), (RA 36), (RA 37), (RA 39), (RS 38)) := by rw [m_out, if_pos c_12]
    exact W.iret (v := (-1)) hx hb hr (fun t ht hW => ⟨by rw [hE], by rw [hE]; exact kB.of (ws := RWs cI ad (va_up (va_up (va_up RA 36 (RA 36)) 37 (RA 37)) 39 (RA 39)) (va_up RS 38 (RS 38)) RN RL) (RWs_conv rfl rfl rfl rfl rfl rfl rfl rfl rfl rfl rfl rfl rfl rfl rfl rfl rfl rfl rfl rfl rfl rfl rfl rfl rfl rfl rfl rfl rfl rfl rfl rfl rfl rfl rfl rfl rfl rfl rfl rfl rfl hP) hK hN ht hW, hS.F ht⟩) hS.2.2 dX8_out_54 hlocks
  · have hr1 := m_isRoof_t h4 c_12
    have hnat1 : v1 = (nI v1.toNatClampNeg) := kNat hr1.1
    have hl : lv_has ls 8 [(0, .ref (ad 0)), (1, .int (nI v1.toNatClampNeg)), (2, .int v2), (3, .int v3), (4, .int v4), (5, .int v5)] := by rw [← hnat1]; exact hl
    have hr1b : v1.toNatClampNeg < (RN 4) := kNat_lt hr1.2 (by omega)
    refine lv_iload_n hx hb dX8_out_8 rfl (lv_at hl 2 rfl) ?_
    refine k_rS (v := .int (m_isRule v2)) (As := [.int v2]) (rest := []) hx hb hml hown hts hl.1 (B := fun _ => True) (fun _ _ _ _ q => q) (fun _ _ _ => trivial) (c_m_isRule v2) eX8_262 rfl rfl (Nat.le_of_ble_eq_true rfl) ⟨Nat.le_of_ble_eq_true rfl, Nat.le_of_ble_eq_true rfl⟩ ⟨rfl, rfl⟩ ⟨Nat.le_of_ble_eq_true rfl, Nat.le_of_ble_eq_true rfl⟩ dX8_out_9 ?_
    refine lv_if_eq (tgt := 53) hx hb dX8_out_12 (by decide) (fun c_13 => ?_) (fun c_13 => ?_)
    · refine lv_iconst (v := (-1)) hx hb dX8_out_53 (by decide) ?_
      have hE : (m_out RA RS RN v1 v2 v3 v4 v5) = ((-1), (RA 36), (RA 37), (RA 39), (RS 38)) := by rw [m_out, if_neg c_12, if_pos c_13]
      exact W.iret (v := (-1)) hx hb hr (fun t ht hW => ⟨by rw [hE], by rw [hE]; exact kB.of (ws := RWs cI ad (va_up (va_up (va_up RA 36 (RA 36)) 37 (RA 37)) 39 (RA 39)) (va_up RS 38 (RS 38)) RN RL) (RWs_conv rfl rfl rfl rfl rfl rfl rfl rfl rfl rfl rfl rfl rfl rfl rfl rfl rfl rfl rfl rfl rfl rfl rfl rfl rfl rfl rfl rfl rfl rfl rfl rfl rfl rfl rfl rfl rfl rfl rfl rfl rfl hP) hK hN ht hW, hS.F ht⟩) hS.2.2 dX8_out_54 hlocks
    · refine lv_iload hx hb dX8_out_15 (lv_at hl 4 rfl) ?_
      refine lv_i2l (v := v4.toInt64) hx hb dX8_out_17 rfl ?_
      refine lv_lconst (v := 1) hx hb dX8_out_18 (by decide) ?_
      refine lv_ldc2 (v := 100) hx hb hown (hts _ kX8_302) dX8_out_19 ?_
      refine k_rS (v := .int (m_in v4.toInt64 1 100)) (As := [.long v4.toInt64, .long 1, .long 100]) (rest := []) hx hb hml hown hts hl.1 (B := fun _ => True) (fun _ _ _ _ q => q) (fun _ _ _ => trivial) (c_m_in v4.toInt64 1 100) eX8_99 rfl rfl (Nat.le_of_ble_eq_true rfl) ⟨Nat.le_of_ble_eq_true rfl, Nat.le_of_ble_eq_true rfl⟩ ⟨rfl, rfl⟩ ⟨Nat.le_of_ble_eq_true rfl, Nat.le_of_ble_eq_true rfl⟩ dX8_out_22 ?_
      refine lv_if_eq (tgt := 53) hx hb dX8_out_25 (by decide) (fun c_14 => ?_) (fun c_14 => ?_)
      · refine lv_iconst (v := (-1)) hx hb dX8_out_53 (by decide) ?_
        have hE : (m_out RA RS RN v1 v2 v3 v4 v5) = ((-1), (RA 36), (RA 37), (RA 39), (RS 38)) := by rw [m_out, if_neg c_12, if_neg c_13, if_pos c_14]
        exact W.iret (v := (-1)) hx hb hr (fun t ht hW => ⟨by rw [hE], by rw [hE]; exact kB.of (ws := RWs cI ad (va_up (va_up (va_up RA 36 (RA 36)) 37 (RA 37)) 39 (RA 39)) (va_up RS 38 (RS 38)) RN RL) (RWs_conv rfl rfl rfl rfl rfl rfl rfl rfl rfl rfl rfl rfl rfl rfl rfl rfl rfl rfl rfl rfl rfl rfl rfl rfl rfl rfl rfl rfl rfl rfl rfl rfl rfl rfl rfl rfl rfl rfl rfl rfl rfl hP) hK hN ht hW, hS.F ht⟩) hS.2.2 dX8_out_54 hlocks
      · have hq4 := m_in_t c_14
        have hq4a : 1 ≤ v4.toNatClampNeg := kNat_ge hq4.1
        have hq4b : v4.toNatClampNeg ≤ 100 := kNat_le hq4.2
        refine lv_iload_n hx hb dX8_out_28 rfl (lv_at hl 3 rfl) ?_
        refine lv_i2l (v := v3.toInt64) hx hb dX8_out_29 rfl ?_
        refine lv_lconst (v := 1) hx hb dX8_out_30 (by decide) ?_
        refine lv_iload hx hb dX8_out_31 (lv_at hl 4 rfl) ?_
        refine lv_i2l (v := v4.toInt64) hx hb dX8_out_33 rfl ?_
        refine k_rS (v := .int (m_in v3.toInt64 1 v4.toInt64)) (As := [.long v3.toInt64, .long 1, .long v4.toInt64]) (rest := []) hx hb hml hown hts hl.1 (B := fun _ => True) (fun _ _ _ _ q => q) (fun _ _ _ => trivial) (c_m_in v3.toInt64 1 v4.toInt64) eX8_99 rfl rfl (Nat.le_of_ble_eq_true rfl) ⟨Nat.le_of_ble_eq_true rfl, Nat.le_of_ble_eq_true rfl⟩ ⟨rfl, rfl⟩ ⟨Nat.le_of_ble_eq_true rfl, Nat.le_of_ble_eq_true rfl⟩ dX8_out_34 ?_
        refine lv_if_eq (tgt := 53) hx hb dX8_out_37 (by decide) (fun c_15 => ?_) (fun c_15 => ?_)
        · refine lv_iconst (v := (-1)) hx hb dX8_out_53 (by decide) ?_
          have hE : (m_out RA RS RN v1 v2 v3 v4 v5) = ((-1), (RA 36), (RA 37), (RA 39), (RS 38)) := by rw [m_out, if_neg c_12, if_neg c_13, if_neg c_14, if_pos c_15]
          exact W.iret (v := (-1)) hx hb hr (fun t ht hW => ⟨by rw [hE], by rw [hE]; exact kB.of (ws := RWs cI ad (va_up (va_up (va_up RA 36 (RA 36)) 37 (RA 37)) 39 (RA 39)) (va_up RS 38 (RS 38)) RN RL) (RWs_conv rfl rfl rfl rfl rfl rfl rfl rfl rfl rfl rfl rfl rfl rfl rfl rfl rfl rfl rfl rfl rfl rfl rfl rfl rfl rfl rfl rfl rfl rfl rfl rfl rfl rfl rfl rfl rfl rfl rfl rfl rfl hP) hK hN ht hW, hS.F ht⟩) hS.2.2 dX8_out_54 hlocks
        · have hq3 := m_in_t c_15
          have hq3a : 1 ≤ v3.toNatClampNeg := kNat_ge hq3.1
          refine lv_iload hx hb dX8_out_40 (lv_at hl 5 rfl) ?_
          refine lv_i2l (v := v5.toInt64) hx hb dX8_out_42 rfl ?_
          refine lv_lconst (v := 0) hx hb dX8_out_43 (by decide) ?_
          refine lv_ldc2 (v := 9) hx hb hown (hts _ kX8_298) dX8_out_44 ?_
          refine k_rS (v := .int (m_in v5.toInt64 0 9)) (As := [.long v5.toInt64, .long 0, .long 9]) (rest := []) hx hb hml hown hts hl.1 (B := fun _ => True) (fun _ _ _ _ q => q) (fun _ _ _ => trivial) (c_m_in v5.toInt64 0 9) eX8_99 rfl rfl (Nat.le_of_ble_eq_true rfl) ⟨Nat.le_of_ble_eq_true rfl, Nat.le_of_ble_eq_true rfl⟩ ⟨rfl, rfl⟩ ⟨Nat.le_of_ble_eq_true rfl, Nat.le_of_ble_eq_true rfl⟩ dX8_out_47 ?_
          refine lv_if_ne (tgt := 55) hx hb dX8_out_50 (by decide) (fun c_16 => ?_) (fun c_16 => ?_)
          · have hq5 := m_in_t c_16
            have hq5b : v5.toNatClampNeg ≤ 9 := kNat_le hq5.2
            refine lv_aload_n hx hb dX8_out_55 rfl (lv_at hl 0 rfl) ?_
            refine m_get (v := .int (RS 26)) hx hb hts hown hK hP 26 (by decide) rfl kX8_163 rfl dX8_out_56 ?_
            refine lv_iload_n hx hb dX8_out_59 rfl (lv_at hl 1 rfl) ?_
            refine k_rS (v := .int (m_has (RS 26) (nI v1.toNatClampNeg))) (As := [.int (RS 26), .int (nI v1.toNatClampNeg)]) (rest := []) hx hb hml hown hts hl.1 (B := fun _ => True) (fun _ _ _ _ q => q) (fun _ _ _ => trivial) (c_m_has (RS 26) (nI v1.toNatClampNeg)) eX8_204 rfl rfl (Nat.le_of_ble_eq_true rfl) ⟨Nat.le_of_ble_eq_true rfl, Nat.le_of_ble_eq_true rfl⟩ ⟨rfl, rfl⟩ ⟨Nat.le_of_ble_eq_true rfl, Nat.le_of_ble_eq_true rfl⟩ dX8_out_60 ?_
            refine lv_if_ne (tgt := 69) hx hb dX8_out_63 (by decide) (fun c_17 => ?_) (fun c_17 => ?_)
            · refine lv_aload_n hx hb dX8_out_69 rfl (lv_at hl 0 rfl) ?_
              refine k_wV (r := none) (As := []) (rest := []) hx hb hml hown hts hl.1 hP hK hN hS (c_m_load hI) eX8_212 (ci := 7) (q0 := 0) rfl rfl rfl rfl rfl (Nat.le_of_ble_eq_true rfl) ⟨Nat.le_of_ble_eq_true rfl, Nat.le_of_ble_eq_true rfl⟩ ⟨rfl, rfl⟩ ⟨Nat.le_of_ble_eq_true rfl, Nat.le_of_ble_eq_true rfl⟩ dX8_out_70 (fun H locs hP hS => ?_)
              obtain ⟨r_18, hr_18⟩ : ∃ z, z = (m_load RA RS) := ⟨_, rfl⟩
              rw [← hr_18] at hP
              have hP : va_P (dC, dI) vwCl (RWs cI ad (va_up (va_up (va_up RA 36 r_18.1) 37 r_18.2.1) 39 r_18.2.2.1) (va_up RS 38 r_18.2.2.2) RN RL) H := (RWs_conv rfl rfl rfl rfl rfl rfl rfl rfl rfl rfl rfl rfl rfl rfl rfl rfl rfl rfl rfl rfl rfl rfl rfl rfl rfl rfl rfl rfl rfl rfl rfl rfl rfl rfl rfl rfl rfl rfl rfl rfl rfl hP)
              refine lv_bipush (v := (-4)) hx hb dX8_out_73 (by decide) ?_
              refine lv_istore (lv' := [(6, .int (-4)), (0, .ref (ad 0)), (1, .int (nI v1.toNatClampNeg)), (2, .int v2), (3, .int v3), (4, .int v4), (5, .int v5)]) hx hb dX8_out_75 hl (by decide) rfl (fun ls hl => ?_)
              refine lv_iconst (v := 0) hx hb dX8_out_77 (by decide) ?_
              refine lv_istore (lv' := [(7, .int 0), (6, .int (-4)), (0, .ref (ad 0)), (1, .int (nI v1.toNatClampNeg)), (2, .int v2), (3, .int v3), (4, .int v4), (5, .int v5)]) hx hb dX8_out_78 hl (by decide) rfl (fun ls hl => ?_)
              have rest_80 : ∀ (x6_80 : Int32) (a36_80 : Nat → Int32) (a37_80 : Nat → Int32) (a39_80 : Nat → Int32), ∀ (H : Heap) (locs : List Loc) (ls : Array Slot), va_P (dC, dI) vwCl (RWs cI ad (va_up (va_up (va_up RA 36 a36_80) 37 a37_80) 39 a39_80) (va_up RS 38 r_18.2.2.2) RN RL) H → va_S (kAA ad 24) s.heap H locs → lv_has ls 8 [(5, .int v5), (6, .int x6_80)] → (m_out RA RS RN v1 v2 v3 v4 v5) = m_out_k80 a36_80 a37_80 a39_80 r_18.2.2.2 v5 x6_80 → W p l e ({ frames := 6, cells := 0, slots := 0, locals := 141 } : Room) s m args below meth c H locs 0 0 (MQ below (kQ (some (.int ((m_out RA RS RN v1 v2 v3 v4 v5).1))) (kB (dC, dI) [(cI, .int)] (RWs cI ad (va_up (va_up (va_up RA 36 ((m_out RA RS RN v1 v2 v3 v4 v5).2.1)) 37 ((m_out RA RS RN v1 v2 v3 v4 v5).2.2.1)) 39 ((m_out RA RS RN v1 v2 v3 v4 v5).2.2.2.1)) (va_up RS 38 ((m_out RA RS RN v1 v2 v3 v4 v5).2.2.2.2)) RN RL)) (kAA ad 24)) args s 0 0 (kAA ad 24)) (F0 m 155 ls []) := by
                intro x6_80 a36_80 a37_80 a39_80 H locs ls hP hS hl  hF_80
                refine lv_iload hx hb dX8_out_155 (lv_at hl 1 rfl) ?_
                refine lv_bipush (v := (-4)) hx hb dX8_out_157 (by decide) ?_
                refine lv_icmp_eq (tgt := 169) hx hb dX8_out_159 (by decide) (fun c_19 => ?_) (fun c_19 => ?_)
                · refine lv_bipush (v := (-4)) hx hb dX8_out_169 (by decide) ?_
                  refine lv_goto (tgt := 179) hx hb dX8_out_171 (by decide) ?_
                  have hE : (m_out RA RS RN v1 v2 v3 v4 v5) = ((-4), a36_80, a37_80, a39_80, r_18.2.2.2) := by subst hr_18; exact hF_80.trans (by rw [m_out_k80, if_pos c_19])
                  exact W.iret (v := (-4)) hx hb hr (fun t ht hW => ⟨by rw [hE], by rw [hE]; exact kB.of (ws := RWs cI ad (va_up (va_up (va_up RA 36 a36_80) 37 a37_80) 39 a39_80) (va_up RS 38 r_18.2.2.2) RN RL) hP hK hN ht hW, hS.F ht⟩) hS.2.2 dX8_out_179 hlocks
                · refine lv_iload hx hb dX8_out_162 (lv_at hl 1 rfl) ?_
                  refine lv_iload hx hb dX8_out_164 (lv_at hl 0 rfl) ?_
                  refine lv_icmp_ge (tgt := 174) hx hb dX8_out_166 (by decide) (fun c_20 => ?_) (fun c_20 => ?_)
                  · refine lv_iload hx hb dX8_out_174 (lv_at hl 1 rfl) ?_
                    refine lv_iload hx hb dX8_out_176 (lv_at hl 0 rfl) ?_
                    refine lv_isub hx hb dX8_out_178 ?_
                    have hE : (m_out RA RS RN v1 v2 v3 v4 v5) = ((x6_80 - v5), a36_80, a37_80, a39_80, r_18.2.2.2) := by subst hr_18; exact hF_80.trans (by rw [m_out_k80, if_neg c_19, if_pos c_20])
                    exact W.iret (v := (x6_80 - v5)) hx hb hr (fun t ht hW => ⟨by rw [hE], by rw [hE]; exact kB.of (ws := RWs cI ad (va_up (va_up (va_up RA 36 a36_80) 37 a37_80) 39 a39_80) (va_up RS 38 r_18.2.2.2) RN RL) hP hK hN ht hW, hS.F ht⟩) hS.2.2 dX8_out_179 hlocks
                  · refine lv_bipush (v := (-4)) hx hb dX8_out_169 (by decide) ?_
                    refine lv_goto (tgt := 179) hx hb dX8_out_171 (by decide) ?_
                    have hE : (m_out RA RS RN v1 v2 v3 v4 v5) = ((-4), a36_80, a37_80, a39_80, r_18.2.2.2) := by subst hr_18; exact hF_80.trans (by rw [m_out_k80, if_neg c_19, if_neg c_20])
                    exact W.iret (v := (-4)) hx hb hr (fun t ht hW => ⟨by rw [hE], by rw [hE]; exact kB.of (ws := RWs cI ad (va_up (va_up (va_up RA 36 a36_80) 37 a37_80) 39 a39_80) (va_up RS 38 r_18.2.2.2) RN RL) hP hK hN ht hW, hS.F ht⟩) hS.2.2 dX8_out_179 hlocks
              have loop_80 : ∀ (n_80 i_80 : Nat) (x6_80 : Int32) (a36_80 : Nat → Int32) (a37_80 : Nat → Int32) (a39_80 : Nat → Int32), i_80 + n_80 = (RN 32) → ∀ (H : Heap) (locs : List Loc) (ls : Array Slot), va_P (dC, dI) vwCl (RWs cI ad (va_up (va_up (va_up RA 36 a36_80) 37 a37_80) 39 a39_80) (va_up RS 38 r_18.2.2.2) RN RL) H → va_S (kAA ad 24) s.heap H locs → lv_has ls 8 [(0, .ref (ad 0)), (1, .int (nI v1.toNatClampNeg)), (2, .int v2), (3, .int v3), (4, .int v4), (5, .int v5), (6, .int x6_80), (7, .int (nI i_80))] → (∀ (H : Heap) (locs : List Loc) (ls : Array Slot), va_P (dC, dI) vwCl (RWs cI ad (va_up (va_up (va_up RA 36 ((m_out_L80 RA RS RN r_18.2.2.2 v1.toNatClampNeg v2 v3 v4 n_80 i_80 x6_80 a36_80 a37_80 a39_80).2.1)) 37 ((m_out_L80 RA RS RN r_18.2.2.2 v1.toNatClampNeg v2 v3 v4 n_80 i_80 x6_80 a36_80 a37_80 a39_80).2.2.1)) 39 ((m_out_L80 RA RS RN r_18.2.2.2 v1.toNatClampNeg v2 v3 v4 n_80 i_80 x6_80 a36_80 a37_80 a39_80).2.2.2)) (va_up RS 38 r_18.2.2.2) RN RL) H → va_S (kAA ad 24) s.heap H locs → lv_has ls 8 [(5, .int v5), (6, .int ((m_out_L80 RA RS RN r_18.2.2.2 v1.toNatClampNeg v2 v3 v4 n_80 i_80 x6_80 a36_80 a37_80 a39_80).1))] → W p l e ({ frames := 6, cells := 0, slots := 0, locals := 141 } : Room) s m args below meth c H locs 0 0 (MQ below (kQ (some (.int ((m_out RA RS RN v1 v2 v3 v4 v5).1))) (kB (dC, dI) [(cI, .int)] (RWs cI ad (va_up (va_up (va_up RA 36 ((m_out RA RS RN v1 v2 v3 v4 v5).2.1)) 37 ((m_out RA RS RN v1 v2 v3 v4 v5).2.2.1)) 39 ((m_out RA RS RN v1 v2 v3 v4 v5).2.2.2.1)) (va_up RS 38 ((m_out RA RS RN v1 v2 v3 v4 v5).2.2.2.2)) RN RL)) (kAA ad 24)) args s 0 0 (kAA ad 24)) (F0 m 155 ls [])) → W p l e ({ frames := 6, cells := 0, slots := 0, locals := 141 } : Room) s m args below meth c H locs 0 0 (MQ below (kQ (some (.int ((m_out RA RS RN v1 v2 v3 v4 v5).1))) (kB (dC, dI) [(cI, .int)] (RWs cI ad (va_up (va_up (va_up RA 36 ((m_out RA RS RN v1 v2 v3 v4 v5).2.1)) 37 ((m_out RA RS RN v1 v2 v3 v4 v5).2.2.1)) 39 ((m_out RA RS RN v1 v2 v3 v4 v5).2.2.2.1)) (va_up RS 38 ((m_out RA RS RN v1 v2 v3 v4 v5).2.2.2.2)) RN RL)) (kAA ad 24)) args s 0 0 (kAA ad 24)) (F0 m 80 ls []) := by
                intro n_80
                induction n_80 with
                | zero =>
                  intro i_80 x6_80 a36_80 a37_80 a39_80 hin_80 H locs ls hP hS hl  hk_80
                  refine lv_iload hx hb dX8_out_80 (lv_at hl 7 rfl) ?_
                  refine lv_aload_n hx hb dX8_out_82 rfl (lv_at hl 0 rfl) ?_
                  refine m_get (v := .int (nI (RN 32))) hx hb hts hown hK hP 32 (by decide) rfl kX8_174 rfl dX8_out_83 ?_
                  refine lv_icmp_ge (tgt := 155) hx hb dX8_out_86 (by decide) (fun _ => ?_) (fun c_21 => absurd (kct_ge (N := (RN 32)) (nI_clamp (by omega)) (by omega) (by omega)) c_21)
                  have hL_80 : (m_out_L80 RA RS RN r_18.2.2.2 v1.toNatClampNeg v2 v3 v4 0 i_80 x6_80 a36_80 a37_80 a39_80) = (x6_80, a36_80, a37_80, a39_80) := by subst hr_18; rw [m_out_L80.eq_1]
                  try rw [hL_80] at hk_80
                  exact hk_80 _ _ _ hP hS (lv_sub hl [5, 6] rfl) 
                | succ n_80 ih_80 =>
                  intro i_80 x6_80 a36_80 a37_80 a39_80 hin_80 H locs ls hP hS hl  hk_80
                  refine lv_iload hx hb dX8_out_80 (lv_at hl 7 rfl) ?_
                  refine lv_aload_n hx hb dX8_out_82 rfl (lv_at hl 0 rfl) ?_
                  refine m_get (v := .int (nI (RN 32))) hx hb hts hown hK hP 32 (by decide) rfl kX8_174 rfl dX8_out_83 ?_
                  refine lv_icmp_ge (tgt := 155) hx hb dX8_out_86 (by decide) (fun c_22 => absurd c_22 (kct_lt (N := (RN 32)) (nI_clamp (by omega)) (by omega))) (fun _ => ?_)
                  refine lv_iload hx hb dX8_out_89 (lv_at hl 6 rfl) ?_
                  refine lv_bipush (v := (-4)) hx hb dX8_out_91 (by decide) ?_
                  refine lv_icmp_ne (tgt := 155) hx hb dX8_out_93 (by decide) (fun c_23 => ?_) (fun c_23 => ?_)
                  · have hL_80 : (m_out_L80 RA RS RN r_18.2.2.2 v1.toNatClampNeg v2 v3 v4 (n_80 + 1) i_80 x6_80 a36_80 a37_80 a39_80) = (x6_80, a36_80, a37_80, a39_80) := by subst hr_18; rw [m_out_L80.eq_2, if_neg c_23]
                    try rw [hL_80] at hk_80
                    exact hk_80 _ _ _ hP hS (lv_sub hl [5, 6] rfl) 
                  · refine lv_aload_n hx hb dX8_out_96 rfl (lv_at hl 0 rfl) ?_
                    refine lv_iload_n hx hb dX8_out_97 rfl (lv_at hl 2 rfl) ?_
                    refine lv_aload_n hx hb dX8_out_98 rfl (lv_at hl 0 rfl) ?_
                    refine m_get (v := .ref (ad 18)) hx hb hts hown hK hP 31 (by decide) rfl kX8_61 rfl dX8_out_99 ?_
                    refine lv_iload hx hb dX8_out_102 (lv_at hl 7 rfl) ?_
                    refine kn_iald (f := (RA 31)) (v := (RA 31 i_80)) hx hb hK hP 18 rfl i_80 rfl (by omega) (by omega) rfl dX8_out_104 ?_
                    refine kn_top (x' := (nI ((RA 31 i_80).toNatClampNeg))) (kNat (mI_row0 hM i_80 (by omega))) ?_
                    refine lv_aload_n hx hb dX8_out_105 rfl (lv_at hl 0 rfl) ?_
                    refine m_get (v := .int (RS 15)) hx hb hts hown hK hP 15 (by decide) rfl kX8_142 rfl dX8_out_106 ?_
                    refine lv_bipush (v := (-4)) hx hb dX8_out_109 (by decide) ?_
                    refine k_wV (r := none) (As := [.int v2, .int (nI ((RA 31 i_80).toNatClampNeg)), .int (RS 15), .int (-4)]) (rest := []) hx hb hml hown hts hl.1 hP hK hN hS (c_m_goHour hI v2 ((RA 31 i_80).toNatClampNeg) (RS 15) (-4) hM (mI_row hM i_80 (by omega)) (by decide)) eX8_268 (ci := 7) (q0 := 0) rfl rfl rfl rfl rfl (Nat.le_of_ble_eq_true rfl) ⟨Nat.le_of_ble_eq_true rfl, Nat.le_of_ble_eq_true rfl⟩ ⟨rfl, rfl⟩ ⟨Nat.le_of_ble_eq_true rfl, Nat.le_of_ble_eq_true rfl⟩ dX8_out_111 (fun H locs hP hS => ?_)
                    obtain ⟨r_24, hr_24⟩ : ∃ z, z = (m_goHour (va_up (va_up (va_up RA 36 a36_80) 37 a37_80) 39 a39_80) (va_up RS 38 r_18.2.2.2) RN v2 ((RA 31 i_80).toNatClampNeg) (RS 15) (-4)) := ⟨_, rfl⟩
                    rw [← hr_24] at hP
                    have hP : va_P (dC, dI) vwCl (RWs cI ad (va_up (va_up (va_up RA 36 r_24.1) 37 r_24.2.1) 39 r_24.2.2) (va_up RS 38 r_18.2.2.2) RN RL) H := (RWs_conv rfl rfl rfl rfl rfl rfl rfl rfl rfl rfl rfl rfl rfl rfl rfl rfl rfl rfl rfl rfl rfl rfl rfl rfl rfl rfl rfl rfl rfl rfl rfl rfl rfl rfl rfl rfl rfl rfl rfl rfl rfl hP)
                    refine lv_aload_n hx hb dX8_out_114 rfl (lv_at hl 0 rfl) ?_
                    refine lv_iload_n hx hb dX8_out_115 rfl (lv_at hl 1 rfl) ?_
                    refine lv_aload_n hx hb dX8_out_116 rfl (lv_at hl 0 rfl) ?_
                    refine m_get (v := .ref (ad 22)) hx hb hts hown hK hP 39 (by decide) rfl kX8_73 rfl dX8_out_117 ?_
                    refine lv_iload_n hx hb dX8_out_120 rfl (lv_at hl 1 rfl) ?_
                    refine kn_iald (f := r_24.2.2) (v := (r_24.2.2 v1.toNatClampNeg)) hx hb hK hP 22 rfl v1.toNatClampNeg rfl (by omega) (by omega) rfl dX8_out_121 ?_
                    refine k_rV (v := .int (m_below (va_up (va_up (va_up RA 36 r_24.1) 37 r_24.2.1) 39 r_24.2.2) v1.toNatClampNeg (r_24.2.2 v1.toNatClampNeg))) (As := [.int (nI v1.toNatClampNeg), .int (r_24.2.2 v1.toNatClampNeg)]) (rest := []) hx hb hml hown hts hl.1 hP hK hN (c_m_below hI v1.toNatClampNeg (r_24.2.2 v1.toNatClampNeg) hM (by omega)) eX8_209 (ci := 7) (q0 := 0) rfl rfl rfl rfl rfl (Nat.le_of_ble_eq_true rfl) ⟨Nat.le_of_ble_eq_true rfl, Nat.le_of_ble_eq_true rfl⟩ ⟨rfl, rfl⟩ ⟨Nat.le_of_ble_eq_true rfl, Nat.le_of_ble_eq_true rfl⟩ dX8_out_122 ?_
                    refine lv_iload hx hb dX8_out_125 (lv_at hl 4 rfl) ?_
                    refine lv_imul hx hb dX8_out_127 ?_
                    refine lv_iload_n hx hb dX8_out_128 rfl (lv_at hl 3 rfl) ?_
                    refine lv_aload_n hx hb dX8_out_129 rfl (lv_at hl 0 rfl) ?_
                    refine lv_iload_n hx hb dX8_out_130 rfl (lv_at hl 1 rfl) ?_
                    refine k_rV (v := .int (m_chances (va_up (va_up (va_up RA 36 r_24.1) 37 r_24.2.1) 39 r_24.2.2) v1.toNatClampNeg)) (As := [.int (nI v1.toNatClampNeg)]) (rest := [.int v3, .int ((m_below (va_up (va_up (va_up RA 36 r_24.1) 37 r_24.2.1) 39 r_24.2.2) v1.toNatClampNeg (r_24.2.2 v1.toNatClampNeg)) * v4)]) hx hb hml hown hts hl.1 hP hK hN (c_m_chances hI v1.toNatClampNeg hM (by omega)) eX8_218 (ci := 7) (q0 := 0) rfl rfl rfl rfl rfl (Nat.le_of_ble_eq_true rfl) ⟨Nat.le_of_ble_eq_true rfl, Nat.le_of_ble_eq_true rfl⟩ ⟨rfl, rfl⟩ ⟨Nat.le_of_ble_eq_true rfl, Nat.le_of_ble_eq_true rfl⟩ dX8_out_131 ?_
                    refine lv_imul hx hb dX8_out_134 ?_
                    refine lv_icmp_lt (tgt := 145) hx hb dX8_out_135 (by decide) (fun c_25 => ?_) (fun c_25 => ?_)
                    · refine lv_bipush (v := (-4)) hx hb dX8_out_145 (by decide) ?_
                      refine lv_istore (lv' := [(6, .int (-4)), (0, .ref (ad 0)), (1, .int (nI v1.toNatClampNeg)), (2, .int v2), (3, .int v3), (4, .int v4), (5, .int v5), (7, .int (nI i_80))]) hx hb dX8_out_147 hl (by decide) rfl (fun ls hl => ?_)
                      refine lv_iinc (v := (nI (i_80 + 1))) (lv' := [(7, .int (nI (i_80 + 1))), (6, .int (-4)), (0, .ref (ad 0)), (1, .int (nI v1.toNatClampNeg)), (2, .int v2), (3, .int v3), (4, .int v4), (5, .int v5)]) hx hb dX8_out_149 hl (k := 7) rfl (nI_add _ _) (by decide) rfl (fun ls hl => ?_)
                      refine lv_goto (tgt := 80) hx hb dX8_out_152 (by decide) ?_
                      have hL_80 : (m_out_L80 RA RS RN r_18.2.2.2 v1.toNatClampNeg v2 v3 v4 (n_80 + 1) i_80 x6_80 a36_80 a37_80 a39_80) = (m_out_L80 RA RS RN r_18.2.2.2 v1.toNatClampNeg v2 v3 v4 n_80 (i_80 + 1) (-4) r_24.1 r_24.2.1 r_24.2.2) := by subst hr_24; subst hr_18; rw [m_out_L80.eq_2, if_pos c_23, if_pos c_25]
                      try rw [hL_80] at hk_80
                      exact ih_80 (i_80 + 1) (-4) r_24.1 r_24.2.1 r_24.2.2 (by omega) _ _ _ hP hS (lv_sub hl [2, 3, 4, 5, 6, 7, 1, 0] rfl)  hk_80
                    · refine lv_iload hx hb dX8_out_138 (lv_at hl 7 rfl) ?_
                      refine lv_iconst (v := 1) hx hb dX8_out_140 (by decide) ?_
                      refine kn_iadd hx hb i_80 1 rfl rfl dX8_out_141 ?_
                      refine lv_goto (tgt := 147) hx hb dX8_out_142 (by decide) ?_
                      refine lv_istore (lv' := [(6, .int (nI (i_80 + 1))), (0, .ref (ad 0)), (1, .int (nI v1.toNatClampNeg)), (2, .int v2), (3, .int v3), (4, .int v4), (5, .int v5), (7, .int (nI i_80))]) hx hb dX8_out_147 hl (by decide) rfl (fun ls hl => ?_)
                      refine lv_iinc (v := (nI (i_80 + 1))) (lv' := [(7, .int (nI (i_80 + 1))), (6, .int (nI (i_80 + 1))), (0, .ref (ad 0)), (1, .int (nI v1.toNatClampNeg)), (2, .int v2), (3, .int v3), (4, .int v4), (5, .int v5)]) hx hb dX8_out_149 hl (k := 7) rfl (nI_add _ _) (by decide) rfl (fun ls hl => ?_)
                      refine lv_goto (tgt := 80) hx hb dX8_out_152 (by decide) ?_
                      have hL_80 : (m_out_L80 RA RS RN r_18.2.2.2 v1.toNatClampNeg v2 v3 v4 (n_80 + 1) i_80 x6_80 a36_80 a37_80 a39_80) = (m_out_L80 RA RS RN r_18.2.2.2 v1.toNatClampNeg v2 v3 v4 n_80 (i_80 + 1) (nI (i_80 + 1)) r_24.1 r_24.2.1 r_24.2.2) := by subst hr_24; subst hr_18; rw [m_out_L80.eq_2, if_pos c_23, if_neg c_25]
                      try rw [hL_80] at hk_80
                      exact ih_80 (i_80 + 1) (nI (i_80 + 1)) r_24.1 r_24.2.1 r_24.2.2 (by omega) _ _ _ hP hS (lv_sub hl [2, 3, 4, 5, 6, 7, 1, 0] rfl)  hk_80
              exact loop_80 (RN 32) 0 (-4) r_18.1 r_18.2.1 r_18.2.2.1 (by omega) _ _ _ hP hS (lv_sub hl [2, 3, 4, 5, 6, 7, 1, 0] rfl)  (fun H locs ls hP hS hl  => rest_80 (m_out_L80 RA RS RN r_18.2.2.2 v1.toNatClampNeg v2 v3 v4 (RN 32) 0 (-4) r_18.1 r_18.2.1 r_18.2.2.1).1 (m_out_L80 RA RS RN r_18.2.2.2 v1.toNatClampNeg v2 v3 v4 (RN 32) 0 (-4) r_18.1 r_18.2.1 r_18.2.2.1).2.1 (m_out_L80 RA RS RN r_18.2.2.2 v1.toNatClampNeg v2 v3 v4 (RN 32) 0 (-4) r_18.1 r_18.2.1 r_18.2.2.1).2.2.1 (m_out_L80 RA RS RN r_18.2.2.2 v1.toNatClampNeg v2 v3 v4 (RN 32) 0 (-4) r_18.1 r_18.2.1 r_18.2.2.1).2.2.2 _ _ _ hP hS hl  (by subst hr_18; rw [m_out, if_neg c_12, if_neg c_13, if_neg c_14, if_neg c_15, if_neg c_16, if_neg c_17]))
            · refine lv_bipush (v := (-2)) hx hb dX8_out_66 (by decide) ?_
              have hE : (m_out RA RS RN v1 v2 v3 v4 v5) = ((-2), (RA 36), (RA 37), (RA 39), (RS 38)) := by rw [m_out, if_neg c_12, if_neg c_13, if_neg c_14, if_neg c_15, if_neg c_16, if_pos c_17]
              exact W.iret (v := (-2)) hx hb hr (fun t ht hW => ⟨by rw [hE], by rw [hE]; exact kB.of (ws := RWs cI ad (va_up (va_up (va_up RA 36 (RA 36)) 37 (RA 37)) 39 (RA 39)) (va_up RS 38 (RS 38)) RN RL) (RWs_conv rfl rfl rfl rfl rfl rfl rfl rfl rfl rfl rfl rfl rfl rfl rfl rfl rfl rfl rfl rfl rfl rfl rfl rfl rfl rfl rfl rfl rfl rfl rfl rfl rfl rfl rfl rfl rfl rfl rfl rfl rfl hP) hK hN ht hW, hS.F ht⟩) hS.2.2 dX8_out_68 hlocks
          · refine lv_iconst (v := (-1)) hx hb dX8_out_53 (by decide) ?_
            have hE : (m_out RA RS RN v1 v2 v3 v4 v5) = ((-1), (RA 36), (RA 37), (RA 39), (RS 38)) := by rw [m_out, if_neg c_12, if_neg c_13, if_neg c_14, if_neg c_15, if_pos c_16]
            exact W.iret (v := (-1)) hx hb hr (fun t ht hW => ⟨by rw [hE], by rw [hE]; exact kB.of (ws := RWs cI ad (va_up (va_up (va_up RA 36 (RA 36)) 37 (RA 37)) 39 (RA 39)) (va_up RS 38 (RS 38)) RN RL) (RWs_conv rfl rfl rfl rfl rfl rfl rfl rfl rfl rfl rfl rfl rfl rfl rfl rfl rfl rfl rfl rfl rfl rfl rfl rfl rfl rfl rfl rfl rfl rfl rfl rfl rfl rfl rfl rfl rfl rfl rfl rfl rfl hP) hK hN ht hW, hS.F ht⟩) hS.2.2 dX8_out_54 hlocks
-- X8_count
def m_count (RS : Nat → Int32) (RN : Nat → Nat) (v1 : Int32) : Int32 := if v1 = 0 then (nI (RN 4)) else (if v1 = 1 then (nI (RN 1)) else (if v1 = 2 then (nI (RN 32)) else (if v1 = 3 then (RS 30) else (if v1 = 4 then (nI (RN 34)) else (-1)))))
set_option maxHeartbeats 4000000 in
set_option maxRecDepth 100000 in
theorem c_m_count (hI : kInj ad 24) (v1 : Int32) : Met l yX8_count (.code yX8_count cX8_count 2 (some .int) :: kT) ({ frames := 0, cells := 0, slots := 0, locals := 0 } : Room) (va_Pc [.ref (ad 0), .int v1] (kB (dC, dI) [(cI, .int)] (RWs cI ad RA RS RN RL))) (kR (some (.int (m_count RS RN v1)))) 0 0 (fun _ => False) := by
  refine kMet (by decide) (fun p e s m args below meth c ls hx hb hr hml hts hown hlocks hname hargs hB hl => ?_) (Nat.le_of_ble_eq_true rfl)
  obtain ⟨hP, hK, hN⟩ := hB
  have hl : lv_has ls 2 [(0, .ref (ad 0)), (1, .int v1)] := hl
  refine lv_iload_n hx hb dX8_count_0 rfl (lv_at hl 1 rfl) ?_
  by_cases c_6 : v1 = 0
  · refine lv_tableIn (tgt := 36) hx hb dX8_count_1 (by rw [c_6]; decide) (by rw [c_6]; decide) (by rw [c_6]; rfl) (by decide) ?_
    refine lv_aload_n hx hb dX8_count_36 rfl (lv_at hl 0 rfl) ?_
    refine m_get (v := .int (nI (RN 4))) hx hb hts hown hK hP 4 (by decide) rfl kX8_82 rfl dX8_count_37 ?_
    have hE : (m_count RS RN v1) = (nI (RN 4)) := by rw [m_count, if_pos c_6]
    exact W.iret (v := (nI (RN 4))) hx hb hr (fun t ht hW => ⟨by rw [hE], ht⟩) (fun _ h => absurd h List.not_mem_nil) dX8_count_40 hlocks
  · by_cases c_7 : v1 = 1
    · refine lv_tableIn (tgt := 41) hx hb dX8_count_1 (by rw [c_7]; decide) (by rw [c_7]; decide) (by rw [c_7]; rfl) (by decide) ?_
      refine lv_aload_n hx hb dX8_count_41 rfl (lv_at hl 0 rfl) ?_
      refine m_get (v := .int (nI (RN 1))) hx hb hts hown hK hP 1 (by decide) rfl kX8_103 rfl dX8_count_42 ?_
      have hE : (m_count RS RN v1) = (nI (RN 1)) := by rw [m_count, if_neg c_6, if_pos c_7]
      exact W.iret (v := (nI (RN 1))) hx hb hr (fun t ht hW => ⟨by rw [hE], ht⟩) (fun _ h => absurd h List.not_mem_nil) dX8_count_45 hlocks
    · by_cases c_8 : v1 = 2
      · refine lv_tableIn (tgt := 46) hx hb dX8_count_1 (by rw [c_8]; decide) (by rw [c_8]; decide) (by rw [c_8]; rfl) (by decide) ?_
        refine lv_aload_n hx hb dX8_count_46 rfl (lv_at hl 0 rfl) ?_
        refine m_get (v := .int (nI (RN 32))) hx hb hts hown hK hP 32 (by decide) rfl kX8_174 rfl dX8_count_47 ?_
        have hE : (m_count RS RN v1) = (nI (RN 32)) := by rw [m_count, if_neg c_6, if_neg c_7, if_pos c_8]
        exact W.iret (v := (nI (RN 32))) hx hb hr (fun t ht hW => ⟨by rw [hE], ht⟩) (fun _ h => absurd h List.not_mem_nil) dX8_count_50 hlocks
      · by_cases c_9 : v1 = 3
        · refine lv_tableIn (tgt := 51) hx hb dX8_count_1 (by rw [c_9]; decide) (by rw [c_9]; decide) (by rw [c_9]; rfl) (by decide) ?_
          refine lv_aload_n hx hb dX8_count_51 rfl (lv_at hl 0 rfl) ?_
          refine m_get (v := .int (RS 30)) hx hb hts hown hK hP 30 (by decide) rfl kX8_171 rfl dX8_count_52 ?_
          have hE : (m_count RS RN v1) = (RS 30) := by rw [m_count, if_neg c_6, if_neg c_7, if_neg c_8, if_pos c_9]
          exact W.iret (v := (RS 30)) hx hb hr (fun t ht hW => ⟨by rw [hE], ht⟩) (fun _ h => absurd h List.not_mem_nil) dX8_count_55 hlocks
        · by_cases c_10 : v1 = 4
          · refine lv_tableIn (tgt := 56) hx hb dX8_count_1 (by rw [c_10]; decide) (by rw [c_10]; decide) (by rw [c_10]; rfl) (by decide) ?_
            refine lv_aload_n hx hb dX8_count_56 rfl (lv_at hl 0 rfl) ?_
            refine m_get (v := .int (nI (RN 34))) hx hb hts hown hK hP 34 (by decide) rfl kX8_177 rfl dX8_count_57 ?_
            have hE : (m_count RS RN v1) = (nI (RN 34)) := by rw [m_count, if_neg c_6, if_neg c_7, if_neg c_8, if_neg c_9, if_pos c_10]
            exact W.iret (v := (nI (RN 34))) hx hb hr (fun t ht hW => ⟨by rw [hE], ht⟩) (fun _ h => absurd h List.not_mem_nil) dX8_count_60 hlocks
          · refine lv_tableOut (tgt := 61) hx hb dX8_count_1 (by
              have n0 : v1.toInt ≠ 0 := fun q => by first | exact absurd (Int32.toInt_inj.mp (q.trans (show (0 : Int) = (0 : Int32).toInt by decide))) (by assumption)
              have n1 : v1.toInt ≠ 1 := fun q => by first | exact absurd (Int32.toInt_inj.mp (q.trans (show (1 : Int) = (1 : Int32).toInt by decide))) (by assumption)
              have n2 : v1.toInt ≠ 2 := fun q => by first | exact absurd (Int32.toInt_inj.mp (q.trans (show (2 : Int) = (2 : Int32).toInt by decide))) (by assumption)
              have n3 : v1.toInt ≠ 3 := fun q => by first | exact absurd (Int32.toInt_inj.mp (q.trans (show (3 : Int) = (3 : Int32).toInt by decide))) (by assumption)
              have n4 : v1.toInt ≠ 4 := fun q => by first | exact absurd (Int32.toInt_inj.mp (q.trans (show (4 : Int) = (4 : Int32).toInt by decide))) (by assumption)
              omega) (by decide) ?_
            refine lv_iconst (v := (-1)) hx hb dX8_count_61 (by decide) ?_
            have hE : (m_count RS RN v1) = (-1) := by rw [m_count, if_neg c_6, if_neg c_7, if_neg c_8, if_neg c_9, if_neg c_10]
            exact W.iret (v := (-1)) hx hb hr (fun t ht hW => ⟨by rw [hE], ht⟩) (fun _ h => absurd h List.not_mem_nil) dX8_count_62 hlocks
-- X8_wipe
def m_wipe (RN : Nat → Nat) : Int32 × Nat := ((nI (RN 1)), 0)
set_option maxHeartbeats 4000000 in
set_option maxRecDepth 100000 in
theorem c_m_wipe (hI : kInj ad 24)  : Met l yX8_wipe (.code yX8_wipe cX8_wipe 2 (some .int) :: kT) ({ frames := 0, cells := 0, slots := 0, locals := 0 } : Room) (va_Pc [.ref (ad 0)] (kB (dC, dI) [(cI, .int)] (RWs cI ad RA RS RN RL))) (kQ (some (.int ((m_wipe RN).1))) (kB (dC, dI) [(cI, .int)] (RWs cI ad RA RS (va_up RN 1 ((m_wipe RN).2)) RL)) (kAA ad 24)) 0 0 (kAA ad 24) := by
  refine kMet (by decide) (fun p e s m args below meth c ls hx hb hr hml hts hown hlocks hname hargs hB hl => ?_) (Nat.le_of_ble_eq_true rfl)
  obtain ⟨hP, hK, hN⟩ := hB
  have hl : lv_has ls 2 [(0, .ref (ad 0))] := hl
  have hS : va_S (kAA ad 24) s.heap s.heap [] := va_S.rf
  refine lv_aload_n hx hb dX8_wipe_0 rfl (lv_at hl 0 rfl) ?_
  refine m_get (v := .int (nI (RN 1))) hx hb hts hown hK hP 1 (by decide) rfl kX8_103 rfl dX8_wipe_1 ?_
  refine lv_istore_n (lv' := [(1, .int (nI (RN 1))), (0, .ref (ad 0))]) hx hb dX8_wipe_4 rfl hl (by decide) rfl (fun ls hl => ?_)
  refine lv_aload_n hx hb dX8_wipe_5 rfl (lv_at hl 1 rfl) ?_
  refine lv_iconst (v := 0) hx hb dX8_wipe_6 (by decide) ?_
  refine m_put (RS' := RS) (RN' := (va_up RN 1 0)) (RL' := RL) (ty := .int) hx hb hts hown hI hK hP hS 1 (by decide) rfl kX8_103 rfl (by decide +kernel) rfl rfl rfl dX8_wipe_7 (fun H locs hP hS => ?_)
  refine lv_iload_n hx hb dX8_wipe_10 rfl (lv_at hl 0 rfl) ?_
  have hE : (m_wipe RN) = ((nI (RN 1)), 0) := by rw [m_wipe]
  exact W.iret (v := (nI (RN 1))) hx hb hr (fun t ht hW => ⟨by rw [hE], by rw [hE]; exact kB.of (ws := RWs cI ad RA RS (va_up RN 1 0) RL) hP hK hN ht hW, hS.F ht⟩) hS.2.2 dX8_wipe_11 hlocks
-- X8_store
def m_store_k53 (RS : Nat → Int32) (RN : Nat → Nat) (a33 : Nat → Int32) (v1 : Nat) : (Nat → Int32) := (upd (upd (upd (upd (upd a33 (v1 + 64) (RS 26)) (v1 + 65) (RS 27)) (v1 + 66) (nI (RN 28))) (v1 + 67) (nI (RN 29))) (v1 + 68) (RS 30))
def m_store_L53 (RA : Nat → Nat → Int32) (v1 : Nat) : Nat → Nat → (Nat → Int32) → (Nat → Int32)
  | 0, i, a33 => a33
  | n + 1, i, a33 => m_store_L53 RA v1 n (i + 1) (upd (upd (upd a33 ((v1 + 40) + i) (RA 22 i)) ((v1 + 48) + i) (RA 23 i)) ((v1 + 56) + i) (RA 25 i))
def m_store_k2 (RA : Nat → Nat → Int32) (RS : Nat → Int32) (RN : Nat → Nat) (a33 : Nat → Int32) (v1 : Nat) : (Nat → Int32) := m_store_k53 RS RN (m_store_L53 RA v1 8 0 a33) v1
def m_store_L2 (RA : Nat → Nat → Int32) (v1 : Nat) : Nat → Nat → (Nat → Int32) → (Nat → Int32)
  | 0, i, a33 => a33
  | n + 1, i, a33 => m_store_L2 RA v1 n (i + 1) (upd (upd a33 (v1 + i) (RA 24 i)) ((v1 + 24) + (i % 16)) (RA 21 (i % 16)))
def m_store (RA : Nat → Nat → Int32) (RS : Nat → Int32) (RN : Nat → Nat) (v1 : Nat) : (Nat → Int32) := m_store_k2 RA RS RN (m_store_L2 RA v1 24 0 (RA 33)) v1
set_option maxHeartbeats 4000000 in
set_option maxRecDepth 100000 in
theorem c_m_store (hI : kInj ad 24) (v1 : Nat) (hb : v1 ≤ 100) : Met l yX8_store (.code yX8_store cX8_store 3 none :: kT) ({ frames := 0, cells := 0, slots := 0, locals := 0 } : Room) (va_Pc [.ref (ad 0), .int (nI v1)] (kB (dC, dI) [(cI, .int)] (RWs cI ad RA RS RN RL))) (kQ none (kB (dC, dI) [(cI, .int)] (RWs cI ad (va_up RA 33 (m_store RA RS RN v1)) RS RN RL)) (kAA ad 24)) 0 0 (kAA ad 24) := by
  refine kMet (by decide) (fun p e s m args below meth c ls hx hb hr hml hts hown hlocks hname hargs hB hl => ?_) (Nat.le_of_ble_eq_true rfl)
  obtain ⟨hP, hK, hN⟩ := hB
  have hl : lv_has ls 3 [(0, .ref (ad 0)), (1, .int (nI v1))] := hl
  have hS : va_S (kAA ad 24) s.heap s.heap [] := va_S.rf
  refine lv_iconst (v := 0) hx hb dX8_store_0 (by decide) ?_
  refine lv_istore_n (lv' := [(2, .int 0), (0, .ref (ad 0)), (1, .int (nI v1))]) hx hb dX8_store_1 rfl hl (by decide) rfl (fun ls hl => ?_)
  have rest_2 : ∀ (a33_2 : Nat → Int32), ∀ (H : Heap) (locs : List Loc) (ls : Array Slot), va_P (dC, dI) vwCl (RWs cI ad (va_up RA 33 a33_2) RS RN RL) H → va_S (kAA ad 24) s.heap H locs → lv_has ls 3 [(0, .ref (ad 0)), (1, .int (nI v1))] → (m_store RA RS RN v1) = m_store_k2 RA RS RN a33_2 v1 → W p l e ({ frames := 0, cells := 0, slots := 0, locals := 0 } : Room) s m args below meth c H locs 0 0 (MQ below (kQ none (kB (dC, dI) [(cI, .int)] (RWs cI ad (va_up RA 33 (m_store RA RS RN v1)) RS RN RL)) (kAA ad 24)) args s 0 0 (kAA ad 24)) (F0 m 51 ls []) := by
    intro a33_2 H locs ls hP hS hl  hF_2
    refine lv_iconst (v := 0) hx hb dX8_store_51 (by decide) ?_
    refine lv_istore_n (lv' := [(2, .int 0), (0, .ref (ad 0)), (1, .int (nI v1))]) hx hb dX8_store_52 rfl hl (by decide) rfl (fun ls hl => ?_)
    have rest_53 : ∀ (a33_53 : Nat → Int32), ∀ (H : Heap) (locs : List Loc) (ls : Array Slot), va_P (dC, dI) vwCl (RWs cI ad (va_up RA 33 a33_53) RS RN RL) H → va_S (kAA ad 24) s.heap H locs → lv_has ls 3 [(0, .ref (ad 0)), (1, .int (nI v1))] → (m_store RA RS RN v1) = m_store_k53 RS RN a33_53 v1 → W p l e ({ frames := 0, cells := 0, slots := 0, locals := 0 } : Room) s m args below meth c H locs 0 0 (MQ below (kQ none (kB (dC, dI) [(cI, .int)] (RWs cI ad (va_up RA 33 (m_store RA RS RN v1)) RS RN RL)) (kAA ad 24)) args s 0 0 (kAA ad 24)) (F0 m 116 ls []) := by
      intro a33_53 H locs ls hP hS hl  hF_53
      refine lv_aload_n hx hb dX8_store_116 rfl (lv_at hl 0 rfl) ?_
      refine m_get (v := .ref (ad 19)) hx hb hts hown hK hP 33 (by decide) rfl kX8_64 rfl dX8_store_117 ?_
      refine lv_iload_n hx hb dX8_store_120 rfl (lv_at hl 1 rfl) ?_
      refine lv_bipush (v := 64) hx hb dX8_store_121 (by decide) ?_
      refine kn_iadd hx hb v1 64 rfl rfl dX8_store_123 ?_
      refine lv_aload_n hx hb dX8_store_124 rfl (lv_at hl 0 rfl) ?_
      refine m_get (v := .int (RS 26)) hx hb hts hown hK hP 26 (by decide) rfl kX8_163 rfl dX8_store_125 ?_
      refine kn_iast (f := a33_53) (ws' := RWs cI ad (va_up RA 33 (upd a33_53 (v1 + 64) (RS 26))) RS RN RL) hx hb hK hP (RWsD hI) hS 19 rfl (v1 + 64) rfl (by omega) (by omega) rfl dX8_store_128 (fun H locs hP hS => ?_)
      refine lv_aload_n hx hb dX8_store_129 rfl (lv_at hl 0 rfl) ?_
      refine m_get (v := .ref (ad 19)) hx hb hts hown hK hP 33 (by decide) rfl kX8_64 rfl dX8_store_130 ?_
      refine lv_iload_n hx hb dX8_store_133 rfl (lv_at hl 1 rfl) ?_
      refine lv_bipush (v := 65) hx hb dX8_store_134 (by decide) ?_
      refine kn_iadd hx hb v1 65 rfl rfl dX8_store_136 ?_
      refine lv_aload_n hx hb dX8_store_137 rfl (lv_at hl 0 rfl) ?_
      refine m_get (v := .int (RS 27)) hx hb hts hown hK hP 27 (by decide) rfl kX8_166 rfl dX8_store_138 ?_
      refine kn_iast (f := (upd a33_53 (v1 + 64) (RS 26))) (ws' := RWs cI ad (va_up RA 33 (upd (upd a33_53 (v1 + 64) (RS 26)) (v1 + 65) (RS 27))) RS RN RL) hx hb hK hP (RWsD hI) hS 19 rfl (v1 + 65) rfl (by omega) (by omega) rfl dX8_store_141 (fun H locs hP hS => ?_)
      refine lv_aload_n hx hb dX8_store_142 rfl (lv_at hl 0 rfl) ?_
      refine m_get (v := .ref (ad 19)) hx hb hts hown hK hP 33 (by decide) rfl kX8_64 rfl dX8_store_143 ?_
      refine lv_iload_n hx hb dX8_store_146 rfl (lv_at hl 1 rfl) ?_
      refine lv_bipush (v := 66) hx hb dX8_store_147 (by decide) ?_
      refine kn_iadd hx hb v1 66 rfl rfl dX8_store_149 ?_
      refine lv_aload_n hx hb dX8_store_150 rfl (lv_at hl 0 rfl) ?_
      refine m_get (v := .int (nI (RN 28))) hx hb hts hown hK hP 28 (by decide) rfl kX8_160 rfl dX8_store_151 ?_
      refine kn_iast (f := (upd (upd a33_53 (v1 + 64) (RS 26)) (v1 + 65) (RS 27))) (ws' := RWs cI ad (va_up RA 33 (upd (upd (upd a33_53 (v1 + 64) (RS 26)) (v1 + 65) (RS 27)) (v1 + 66) (nI (RN 28)))) RS RN RL) hx hb hK hP (RWsD hI) hS 19 rfl (v1 + 66) rfl (by omega) (by omega) rfl dX8_store_154 (fun H locs hP hS => ?_)
      refine lv_aload_n hx hb dX8_store_155 rfl (lv_at hl 0 rfl) ?_
      refine m_get (v := .ref (ad 19)) hx hb hts hown hK hP 33 (by decide) rfl kX8_64 rfl dX8_store_156 ?_
      refine lv_iload_n hx hb dX8_store_159 rfl (lv_at hl 1 rfl) ?_
      refine lv_bipush (v := 67) hx hb dX8_store_160 (by decide) ?_
      refine kn_iadd hx hb v1 67 rfl rfl dX8_store_162 ?_
      refine lv_aload_n hx hb dX8_store_163 rfl (lv_at hl 0 rfl) ?_
      refine m_get (v := .int (nI (RN 29))) hx hb hts hown hK hP 29 (by decide) rfl kX8_169 rfl dX8_store_164 ?_
      refine kn_iast (f := (upd (upd (upd a33_53 (v1 + 64) (RS 26)) (v1 + 65) (RS 27)) (v1 + 66) (nI (RN 28)))) (ws' := RWs cI ad (va_up RA 33 (upd (upd (upd (upd a33_53 (v1 + 64) (RS 26)) (v1 + 65) (RS 27)) (v1 + 66) (nI (RN 28))) (v1 + 67) (nI (RN 29)))) RS RN RL) hx hb hK hP (RWsD hI) hS 19 rfl (v1 + 67) rfl (by omega) (by omega) rfl dX8_store_167 (fun H locs hP hS => ?_)
      refine lv_aload_n hx hb dX8_store_168 rfl (lv_at hl 0 rfl) ?_
      refine m_get (v := .ref (ad 19)) hx hb hts hown hK hP 33 (by decide) rfl kX8_64 rfl dX8_store_169 ?_
      refine lv_iload_n hx hb dX8_store_172 rfl (lv_at hl 1 rfl) ?_
      refine lv_bipush (v := 68) hx hb dX8_store_173 (by decide) ?_
      refine kn_iadd hx hb v1 68 rfl rfl dX8_store_175 ?_
      refine lv_aload_n hx hb dX8_store_176 rfl (lv_at hl 0 rfl) ?_
      refine m_get (v := .int (RS 30)) hx hb hts hown hK hP 30 (by decide) rfl kX8_171 rfl dX8_store_177 ?_
      refine kn_iast (f := (upd (upd (upd (upd a33_53 (v1 + 64) (RS 26)) (v1 + 65) (RS 27)) (v1 + 66) (nI (RN 28))) (v1 + 67) (nI (RN 29)))) (ws' := RWs cI ad (va_up RA 33 (upd (upd (upd (upd (upd a33_53 (v1 + 64) (RS 26)) (v1 + 65) (RS 27)) (v1 + 66) (nI (RN 28))) (v1 + 67) (nI (RN 29))) (v1 + 68) (RS 30))) RS RN RL) hx hb hK hP (RWsD hI) hS 19 rfl (v1 + 68) rfl (by omega) (by omega) rfl dX8_store_180 (fun H locs hP hS => ?_)
      have hE : (m_store RA RS RN v1) = (upd (upd (upd (upd (upd a33_53 (v1 + 64) (RS 26)) (v1 + 65) (RS 27)) (v1 + 66) (nI (RN 28))) (v1 + 67) (nI (RN 29))) (v1 + 68) (RS 30)) := hF_53.trans (by rw [m_store_k53])
      exact W.vret hx hb hr (fun t ht hW => ⟨rfl, by rw [hE]; exact kB.of (ws := RWs cI ad (va_up RA 33 (upd (upd (upd (upd (upd a33_53 (v1 + 64) (RS 26)) (v1 + 65) (RS 27)) (v1 + 66) (nI (RN 28))) (v1 + 67) (nI (RN 29))) (v1 + 68) (RS 30))) RS RN RL) hP hK hN ht hW, hS.F ht⟩) hS.2.2 dX8_store_181 hlocks
    have loop_53 : ∀ (n_53 i_53 : Nat) (a33_53 : Nat → Int32), i_53 + n_53 = 8 → ∀ (H : Heap) (locs : List Loc) (ls : Array Slot), va_P (dC, dI) vwCl (RWs cI ad (va_up RA 33 a33_53) RS RN RL) H → va_S (kAA ad 24) s.heap H locs → lv_has ls 3 [(0, .ref (ad 0)), (1, .int (nI v1)), (2, .int (nI i_53))] → (∀ (H : Heap) (locs : List Loc) (ls : Array Slot), va_P (dC, dI) vwCl (RWs cI ad (va_up RA 33 (m_store_L53 RA v1 n_53 i_53 a33_53)) RS RN RL) H → va_S (kAA ad 24) s.heap H locs → lv_has ls 3 [(0, .ref (ad 0)), (1, .int (nI v1))] → W p l e ({ frames := 0, cells := 0, slots := 0, locals := 0 } : Room) s m args below meth c H locs 0 0 (MQ below (kQ none (kB (dC, dI) [(cI, .int)] (RWs cI ad (va_up RA 33 (m_store RA RS RN v1)) RS RN RL)) (kAA ad 24)) args s 0 0 (kAA ad 24)) (F0 m 116 ls [])) → W p l e ({ frames := 0, cells := 0, slots := 0, locals := 0 } : Room) s m args below meth c H locs 0 0 (MQ below (kQ none (kB (dC, dI) [(cI, .int)] (RWs cI ad (va_up RA 33 (m_store RA RS RN v1)) RS RN RL)) (kAA ad 24)) args s 0 0 (kAA ad 24)) (F0 m 53 ls []) := by
      intro n_53
      induction n_53 with
      | zero =>
        intro i_53 a33_53 hin_53 H locs ls hP hS hl  hk_53
        refine lv_iload_n hx hb dX8_store_53 rfl (lv_at hl 2 rfl) ?_
        refine lv_bipush (v := 8) hx hb dX8_store_54 (by decide) ?_
        refine lv_icmp_ge (tgt := 116) hx hb dX8_store_56 (by decide) (fun _ => ?_) (fun c_3 => absurd (kct_ge (N := 8) rfl (by omega) (by omega)) c_3)
        have hL_53 : (m_store_L53 RA v1 0 i_53 a33_53) = a33_53 := by rw [m_store_L53.eq_1]
        try rw [hL_53] at hk_53
        exact hk_53 _ _ _ hP hS (lv_sub hl [0, 1] rfl) 
      | succ n_53 ih_53 =>
        intro i_53 a33_53 hin_53 H locs ls hP hS hl  hk_53
        refine lv_iload_n hx hb dX8_store_53 rfl (lv_at hl 2 rfl) ?_
        refine lv_bipush (v := 8) hx hb dX8_store_54 (by decide) ?_
        refine lv_icmp_ge (tgt := 116) hx hb dX8_store_56 (by decide) (fun c_4 => absurd c_4 (kct_lt (N := 8) rfl (by omega))) (fun _ => ?_)
        refine lv_aload_n hx hb dX8_store_59 rfl (lv_at hl 0 rfl) ?_
        refine m_get (v := .ref (ad 19)) hx hb hts hown hK hP 33 (by decide) rfl kX8_64 rfl dX8_store_60 ?_
        refine lv_iload_n hx hb dX8_store_63 rfl (lv_at hl 1 rfl) ?_
        refine lv_bipush (v := 40) hx hb dX8_store_64 (by decide) ?_
        refine kn_iadd hx hb v1 40 rfl rfl dX8_store_66 ?_
        refine lv_iload_n hx hb dX8_store_67 rfl (lv_at hl 2 rfl) ?_
        refine kn_iadd hx hb (v1 + 40) i_53 rfl rfl dX8_store_68 ?_
        refine lv_aload_n hx hb dX8_store_69 rfl (lv_at hl 0 rfl) ?_
        refine m_get (v := .ref (ad 14)) hx hb hts hown hK hP 22 (by decide) rfl kX8_49 rfl dX8_store_70 ?_
        refine lv_iload_n hx hb dX8_store_73 rfl (lv_at hl 2 rfl) ?_
        refine kn_iald (f := (RA 22)) (v := (RA 22 i_53)) hx hb hK hP 14 rfl i_53 rfl (by omega) (by omega) rfl dX8_store_74 ?_
        refine kn_iast (f := a33_53) (ws' := RWs cI ad (va_up RA 33 (upd a33_53 ((v1 + 40) + i_53) (RA 22 i_53))) RS RN RL) hx hb hK hP (RWsD hI) hS 19 rfl ((v1 + 40) + i_53) rfl (by omega) (by omega) rfl dX8_store_75 (fun H locs hP hS => ?_)
        refine lv_aload_n hx hb dX8_store_76 rfl (lv_at hl 0 rfl) ?_
        refine m_get (v := .ref (ad 19)) hx hb hts hown hK hP 33 (by decide) rfl kX8_64 rfl dX8_store_77 ?_
        refine lv_iload_n hx hb dX8_store_80 rfl (lv_at hl 1 rfl) ?_
        refine lv_bipush (v := 48) hx hb dX8_store_81 (by decide) ?_
        refine kn_iadd hx hb v1 48 rfl rfl dX8_store_83 ?_
        refine lv_iload_n hx hb dX8_store_84 rfl (lv_at hl 2 rfl) ?_
        refine kn_iadd hx hb (v1 + 48) i_53 rfl rfl dX8_store_85 ?_
        refine lv_aload_n hx hb dX8_store_86 rfl (lv_at hl 0 rfl) ?_
        refine m_get (v := .ref (ad 15)) hx hb hts hown hK hP 23 (by decide) rfl kX8_52 rfl dX8_store_87 ?_
        refine lv_iload_n hx hb dX8_store_90 rfl (lv_at hl 2 rfl) ?_
        refine kn_iald (f := (RA 23)) (v := (RA 23 i_53)) hx hb hK hP 15 rfl i_53 rfl (by omega) (by omega) rfl dX8_store_91 ?_
        refine kn_iast (f := (upd a33_53 ((v1 + 40) + i_53) (RA 22 i_53))) (ws' := RWs cI ad (va_up RA 33 (upd (upd a33_53 ((v1 + 40) + i_53) (RA 22 i_53)) ((v1 + 48) + i_53) (RA 23 i_53))) RS RN RL) hx hb hK hP (RWsD hI) hS 19 rfl ((v1 + 48) + i_53) rfl (by omega) (by omega) rfl dX8_store_92 (fun H locs hP hS => ?_)
        refine lv_aload_n hx hb dX8_store_93 rfl (lv_at hl 0 rfl) ?_
        refine m_get (v := .ref (ad 19)) hx hb hts hown hK hP 33 (by decide) rfl kX8_64 rfl dX8_store_94 ?_
        refine lv_iload_n hx hb dX8_store_97 rfl (lv_at hl 1 rfl) ?_
        refine lv_bipush (v := 56) hx hb dX8_store_98 (by decide) ?_
        refine kn_iadd hx hb v1 56 rfl rfl dX8_store_100 ?_
        refine lv_iload_n hx hb dX8_store_101 rfl (lv_at hl 2 rfl) ?_
        refine kn_iadd hx hb (v1 + 56) i_53 rfl rfl dX8_store_102 ?_
        refine lv_aload_n hx hb dX8_store_103 rfl (lv_at hl 0 rfl) ?_
        refine m_get (v := .ref (ad 17)) hx hb hts hown hK hP 25 (by decide) rfl kX8_58 rfl dX8_store_104 ?_
        refine lv_iload_n hx hb dX8_store_107 rfl (lv_at hl 2 rfl) ?_
        refine kn_iald (f := (RA 25)) (v := (RA 25 i_53)) hx hb hK hP 17 rfl i_53 rfl (by omega) (by omega) rfl dX8_store_108 ?_
        refine kn_iast (f := (upd (upd a33_53 ((v1 + 40) + i_53) (RA 22 i_53)) ((v1 + 48) + i_53) (RA 23 i_53))) (ws' := RWs cI ad (va_up RA 33 (upd (upd (upd a33_53 ((v1 + 40) + i_53) (RA 22 i_53)) ((v1 + 48) + i_53) (RA 23 i_53)) ((v1 + 56) + i_53) (RA 25 i_53))) RS RN RL) hx hb hK hP (RWsD hI) hS 19 rfl ((v1 + 56) + i_53) rfl (by omega) (by omega) rfl dX8_store_109 (fun H locs hP hS => ?_)
        refine lv_iinc (v := (nI (i_53 + 1))) (lv' := [(2, .int (nI (i_53 + 1))), (0, .ref (ad 0)), (1, .int (nI v1))]) hx hb dX8_store_110 hl (k := 2) rfl (nI_add _ _) (by decide) rfl (fun ls hl => ?_)
        refine lv_goto (tgt := 53) hx hb dX8_store_113 (by decide) ?_
        have hL_53 : (m_store_L53 RA v1 (n_53 + 1) i_53 a33_53) = (m_store_L53 RA v1 n_53 (i_53 + 1) (upd (upd (upd a33_53 ((v1 + 40) + i_53) (RA 22 i_53)) ((v1 + 48) + i_53) (RA 23 i_53)) ((v1 + 56) + i_53) (RA 25 i_53))) := by rw [m_store_L53.eq_2]
        try rw [hL_53] at hk_53
        exact ih_53 (i_53 + 1) (upd (upd (upd a33_53 ((v1 + 40) + i_53) (RA 22 i_53)) ((v1 + 48) + i_53) (RA 23 i_53)) ((v1 + 56) + i_53) (RA 25 i_53)) (by omega) _ _ _ hP hS (lv_sub hl [1, 2, 0] rfl)  hk_53
    exact loop_53 8 0 a33_2 (by omega) _ _ _ hP hS (lv_sub hl [1, 2, 0] rfl)  (fun H locs ls hP hS hl  => rest_53 (m_store_L53 RA v1 8 0 a33_2) _ _ _ hP hS hl  (hF_2.trans (by rw [m_store_k2])))
  have loop_2 : ∀ (n_2 i_2 : Nat) (a33_2 : Nat → Int32), i_2 + n_2 = 24 → ∀ (H : Heap) (locs : List Loc) (ls : Array Slot), va_P (dC, dI) vwCl (RWs cI ad (va_up RA 33 a33_2) RS RN RL) H → va_S (kAA ad 24) s.heap H locs → lv_has ls 3 [(0, .ref (ad 0)), (1, .int (nI v1)), (2, .int (nI i_2))] → (∀ (H : Heap) (locs : List Loc) (ls : Array Slot), va_P (dC, dI) vwCl (RWs cI ad (va_up RA 33 (m_store_L2 RA v1 n_2 i_2 a33_2)) RS RN RL) H → va_S (kAA ad 24) s.heap H locs → lv_has ls 3 [(0, .ref (ad 0)), (1, .int (nI v1))] → W p l e ({ frames := 0, cells := 0, slots := 0, locals := 0 } : Room) s m args below meth c H locs 0 0 (MQ below (kQ none (kB (dC, dI) [(cI, .int)] (RWs cI ad (va_up RA 33 (m_store RA RS RN v1)) RS RN RL)) (kAA ad 24)) args s 0 0 (kAA ad 24)) (F0 m 51 ls [])) → W p l e ({ frames := 0, cells := 0, slots := 0, locals := 0 } : Room) s m args below meth c H locs 0 0 (MQ below (kQ none (kB (dC, dI) [(cI, .int)] (RWs cI ad (va_up RA 33 (m_store RA RS RN v1)) RS RN RL)) (kAA ad 24)) args s 0 0 (kAA ad 24)) (F0 m 2 ls []) := by
    intro n_2
    induction n_2 with
    | zero =>
      intro i_2 a33_2 hin_2 H locs ls hP hS hl  hk_2
      refine lv_iload_n hx hb dX8_store_2 rfl (lv_at hl 2 rfl) ?_
      refine lv_bipush (v := 24) hx hb dX8_store_3 (by decide) ?_
      refine lv_icmp_ge (tgt := 51) hx hb dX8_store_5 (by decide) (fun _ => ?_) (fun c_5 => absurd (kct_ge (N := 24) rfl (by omega) (by omega)) c_5)
      have hL_2 : (m_store_L2 RA v1 0 i_2 a33_2) = a33_2 := by rw [m_store_L2.eq_1]
      try rw [hL_2] at hk_2
      exact hk_2 _ _ _ hP hS (lv_sub hl [0, 1] rfl) 
    | succ n_2 ih_2 =>
      intro i_2 a33_2 hin_2 H locs ls hP hS hl  hk_2
      refine lv_iload_n hx hb dX8_store_2 rfl (lv_at hl 2 rfl) ?_
      refine lv_bipush (v := 24) hx hb dX8_store_3 (by decide) ?_
      refine lv_icmp_ge (tgt := 51) hx hb dX8_store_5 (by decide) (fun c_6 => absurd c_6 (kct_lt (N := 24) rfl (by omega))) (fun _ => ?_)
      refine lv_aload_n hx hb dX8_store_8 rfl (lv_at hl 0 rfl) ?_
      refine m_get (v := .ref (ad 19)) hx hb hts hown hK hP 33 (by decide) rfl kX8_64 rfl dX8_store_9 ?_
      refine lv_iload_n hx hb dX8_store_12 rfl (lv_at hl 1 rfl) ?_
      refine lv_iload_n hx hb dX8_store_13 rfl (lv_at hl 2 rfl) ?_
      refine kn_iadd hx hb v1 i_2 rfl rfl dX8_store_14 ?_
      refine lv_aload_n hx hb dX8_store_15 rfl (lv_at hl 0 rfl) ?_
      refine m_get (v := .ref (ad 16)) hx hb hts hown hK hP 24 (by decide) rfl kX8_55 rfl dX8_store_16 ?_
      refine lv_iload_n hx hb dX8_store_19 rfl (lv_at hl 2 rfl) ?_
      refine kn_iald (f := (RA 24)) (v := (RA 24 i_2)) hx hb hK hP 16 rfl i_2 rfl (by omega) (by omega) rfl dX8_store_20 ?_
      refine kn_iast (f := a33_2) (ws' := RWs cI ad (va_up RA 33 (upd a33_2 (v1 + i_2) (RA 24 i_2))) RS RN RL) hx hb hK hP (RWsD hI) hS 19 rfl (v1 + i_2) rfl (by omega) (by omega) rfl dX8_store_21 (fun H locs hP hS => ?_)
      refine lv_aload_n hx hb dX8_store_22 rfl (lv_at hl 0 rfl) ?_
      refine m_get (v := .ref (ad 19)) hx hb hts hown hK hP 33 (by decide) rfl kX8_64 rfl dX8_store_23 ?_
      refine lv_iload_n hx hb dX8_store_26 rfl (lv_at hl 1 rfl) ?_
      refine lv_bipush (v := 24) hx hb dX8_store_27 (by decide) ?_
      refine kn_iadd hx hb v1 24 rfl rfl dX8_store_29 ?_
      refine lv_iload_n hx hb dX8_store_30 rfl (lv_at hl 2 rfl) ?_
      refine lv_bipush (v := 16) hx hb dX8_store_31 (by decide) ?_
      refine lv_irem hx hb dX8_store_33 (by decide) ?_
      refine kn_top (x' := (nI (i_2 % 16))) (pk_rem (a := i_2) (d := 16) (by omega) (by omega) (by omega)) ?_
      refine kn_iadd hx hb (v1 + 24) (i_2 % 16) rfl rfl dX8_store_34 ?_
      refine lv_aload_n hx hb dX8_store_35 rfl (lv_at hl 0 rfl) ?_
      refine m_get (v := .ref (ad 13)) hx hb hts hown hK hP 21 (by decide) rfl kX8_46 rfl dX8_store_36 ?_
      refine lv_iload_n hx hb dX8_store_39 rfl (lv_at hl 2 rfl) ?_
      refine lv_bipush (v := 16) hx hb dX8_store_40 (by decide) ?_
      refine lv_irem hx hb dX8_store_42 (by decide) ?_
      refine kn_top (x' := (nI (i_2 % 16))) (pk_rem (a := i_2) (d := 16) (by omega) (by omega) (by omega)) ?_
      refine kn_iald (f := (RA 21)) (v := (RA 21 (i_2 % 16))) hx hb hK hP 13 rfl (i_2 % 16) rfl (by omega) (by omega) rfl dX8_store_43 ?_
      refine kn_iast (f := (upd a33_2 (v1 + i_2) (RA 24 i_2))) (ws' := RWs cI ad (va_up RA 33 (upd (upd a33_2 (v1 + i_2) (RA 24 i_2)) ((v1 + 24) + (i_2 % 16)) (RA 21 (i_2 % 16)))) RS RN RL) hx hb hK hP (RWsD hI) hS 19 rfl ((v1 + 24) + (i_2 % 16)) rfl (by omega) (by omega) rfl dX8_store_44 (fun H locs hP hS => ?_)
      refine lv_iinc (v := (nI (i_2 + 1))) (lv' := [(2, .int (nI (i_2 + 1))), (0, .ref (ad 0)), (1, .int (nI v1))]) hx hb dX8_store_45 hl (k := 2) rfl (nI_add _ _) (by decide) rfl (fun ls hl => ?_)
      refine lv_goto (tgt := 2) hx hb dX8_store_48 (by decide) ?_
      have hL_2 : (m_store_L2 RA v1 (n_2 + 1) i_2 a33_2) = (m_store_L2 RA v1 n_2 (i_2 + 1) (upd (upd a33_2 (v1 + i_2) (RA 24 i_2)) ((v1 + 24) + (i_2 % 16)) (RA 21 (i_2 % 16)))) := by rw [m_store_L2.eq_2]
      try rw [hL_2] at hk_2
      exact ih_2 (i_2 + 1) (upd (upd a33_2 (v1 + i_2) (RA 24 i_2)) ((v1 + 24) + (i_2 % 16)) (RA 21 (i_2 % 16))) (by omega) _ _ _ hP hS (lv_sub hl [1, 2, 0] rfl)  hk_2
  have hP : va_P (dC, dI) vwCl (RWs cI ad (va_up RA 33 (RA 33)) RS RN RL) s.heap := (RWs_conv rfl rfl rfl rfl rfl rfl rfl rfl rfl rfl rfl rfl rfl rfl rfl rfl rfl rfl rfl rfl rfl rfl rfl rfl rfl rfl rfl rfl rfl rfl rfl rfl rfl rfl rfl rfl rfl rfl rfl rfl rfl hP)
  exact loop_2 24 0 (RA 33) (by omega) _ _ _ hP hS (lv_sub hl [1, 2, 0] rfl)  (fun H locs ls hP hS hl  => rest_2 (m_store_L2 RA v1 24 0 (RA 33)) _ _ _ hP hS hl  (by rw [m_store]))
-- X8_fetch
def m_fetch_k53 (RA : Nat → Nat → Int32) (a21 : Nat → Int32) (a22 : Nat → Int32) (a23 : Nat → Int32) (a24 : Nat → Int32) (a25 : Nat → Int32) (v1 : Nat) : (Nat → Int32) × (Nat → Int32) × (Nat → Int32) × (Nat → Int32) × (Nat → Int32) × Nat × Nat × Int32 × Int32 × Int32 := (a21, a22, a23, a24, a25, (RA 33 (v1 + 66)).toNatClampNeg, (RA 33 (v1 + 67)).toNatClampNeg, (RA 33 (v1 + 64)), (RA 33 (v1 + 65)), (RA 33 (v1 + 68)))
def m_fetch_L53 (RA : Nat → Nat → Int32) (v1 : Nat) : Nat → Nat → (Nat → Int32) → (Nat → Int32) → (Nat → Int32) → (Nat → Int32) × (Nat → Int32) × (Nat → Int32)
  | 0, i, a22, a23, a25 => (a22, a23, a25)
  | n + 1, i, a22, a23, a25 => m_fetch_L53 RA v1 n (i + 1) (upd a22 i (RA 33 ((v1 + 40) + i))) (upd a23 i (RA 33 ((v1 + 48) + i))) (upd a25 i (RA 33 ((v1 + 56) + i)))
def m_fetch_k2 (RA : Nat → Nat → Int32) (a21 : Nat → Int32) (a24 : Nat → Int32) (v1 : Nat) : (Nat → Int32) × (Nat → Int32) × (Nat → Int32) × (Nat → Int32) × (Nat → Int32) × Nat × Nat × Int32 × Int32 × Int32 := m_fetch_k53 RA a21 (m_fetch_L53 RA v1 8 0 (RA 22) (RA 23) (RA 25)).1 (m_fetch_L53 RA v1 8 0 (RA 22) (RA 23) (RA 25)).2.1 a24 (m_fetch_L53 RA v1 8 0 (RA 22) (RA 23) (RA 25)).2.2 v1
def m_fetch_L2 (RA : Nat → Nat → Int32) (v1 : Nat) : Nat → Nat → (Nat → Int32) → (Nat → Int32) → (Nat → Int32) × (Nat → Int32)
  | 0, i, a21, a24 => (a21, a24)
  | n + 1, i, a21, a24 => m_fetch_L2 RA v1 n (i + 1) (upd a21 (i % 16) (RA 33 ((v1 + 24) + (i % 16)))) (upd a24 i (RA 33 (v1 + i)))
def m_fetch (RA : Nat → Nat → Int32) (v1 : Nat) : (Nat → Int32) × (Nat → Int32) × (Nat → Int32) × (Nat → Int32) × (Nat → Int32) × Nat × Nat × Int32 × Int32 × Int32 := m_fetch_k2 RA (m_fetch_L2 RA v1 24 0 (RA 21) (RA 24)).1 (m_fetch_L2 RA v1 24 0 (RA 21) (RA 24)).2 v1
set_option maxHeartbeats 4000000 in
set_option maxRecDepth 100000 in
theorem c_m_fetch (hI : kInj ad 24) (v1 : Nat) (hb : v1 ≤ 100) (hk1 : 0 ≤ (RA 33 (v1 + 66)).toInt) (hk2 : 0 ≤ (RA 33 (v1 + 67)).toInt) : Met l yX8_fetch (.code yX8_fetch cX8_fetch 3 none :: kT) ({ frames := 0, cells := 0, slots := 0, locals := 0 } : Room) (va_Pc [.ref (ad 0), .int (nI v1)] (kB (dC, dI) [(cI, .int)] (RWs cI ad RA RS RN RL))) (kQ none (kB (dC, dI) [(cI, .int)] (RWs cI ad (va_up (va_up (va_up (va_up (va_up RA 21 ((m_fetch RA v1).1)) 22 ((m_fetch RA v1).2.1)) 23 ((m_fetch RA v1).2.2.1)) 24 ((m_fetch RA v1).2.2.2.1)) 25 ((m_fetch RA v1).2.2.2.2.1)) (va_up (va_up (va_up RS 26 ((m_fetch RA v1).2.2.2.2.2.2.2.1)) 27 ((m_fetch RA v1).2.2.2.2.2.2.2.2.1)) 30 ((m_fetch RA v1).2.2.2.2.2.2.2.2.2)) (va_up (va_up RN 28 ((m_fetch RA v1).2.2.2.2.2.1)) 29 ((m_fetch RA v1).2.2.2.2.2.2.1)) RL)) (kAA ad 24)) 0 0 (kAA ad 24) := by
  refine kMet (by decide) (fun p e s m args below meth c ls hx hb hr hml hts hown hlocks hname hargs hB hl => ?_) (Nat.le_of_ble_eq_true rfl)
  obtain ⟨hP, hK, hN⟩ := hB
  have hl : lv_has ls 3 [(0, .ref (ad 0)), (1, .int (nI v1))] := hl
  have hS : va_S (kAA ad 24) s.heap s.heap [] := va_S.rf
  refine lv_iconst (v := 0) hx hb dX8_fetch_0 (by decide) ?_
  refine lv_istore_n (lv' := [(2, .int 0), (0, .ref (ad 0)), (1, .int (nI v1))]) hx hb dX8_fetch_1 rfl hl (by decide) rfl (fun ls hl => ?_)
  have rest_2 : ∀ (a21_2 : Nat → Int32) (a24_2 : Nat → Int32), ∀ (H : Heap) (locs : List Loc) (ls : Array Slot), va_P (dC, dI) vwCl (RWs cI ad (va_up (va_up RA 21 a21_2) 24 a24_2) RS RN RL) H → va_S (kAA ad 24) s.heap H locs → lv_has ls 3 [(0, .ref (ad 0)), (1, .int (nI v1))] → (m_fetch RA v1) = m_fetch_k2 RA a21_2 a24_2 v1 → W p l e ({ frames := 0, cells := 0, slots := 0, locals := 0 } : Room) s m args below meth c H locs 0 0 (MQ below (kQ none (kB (dC, dI) [(cI, .int)] (RWs cI ad (va_up (va_up (va_up (va_up (va_up RA 21 ((m_fetch RA v1).1)) 22 ((m_fetch RA v1).2.1)) 23 ((m_fetch RA v1).2.2.1)) 24 ((m_fetch RA v1).2.2.2.1)) 25 ((m_fetch RA v1).2.2.2.2.1)) (va_up (va_up (va_up RS 26 ((m_fetch RA v1).2.2.2.2.2.2.2.1)) 27 ((m_fetch RA v1).2.2.2.2.2.2.2.2.1)) 30 ((m_fetch RA v1).2.2.2.2.2.2.2.2.2)) (va_up (va_up RN 28 ((m_fetch RA v1).2.2.2.2.2.1)) 29 ((m_fetch RA v1).2.2.2.2.2.2.1)) RL)) (kAA ad 24)) args s 0 0 (kAA ad 24)) (F0 m 51 ls []) := by
    intro a21_2 a24_2 H locs ls hP hS hl  hF_2
    refine lv_iconst (v := 0) hx hb dX8_fetch_51 (by decide) ?_
    refine lv_istore_n (lv' := [(2, .int 0), (0, .ref (ad 0)), (1, .int (nI v1))]) hx hb dX8_fetch_52 rfl hl (by decide) rfl (fun ls hl => ?_)
    have rest_53 : ∀ (a22_53 : Nat → Int32) (a23_53 : Nat → Int32) (a25_53 : Nat → Int32), ∀ (H : Heap) (locs : List Loc) (ls : Array Slot), va_P (dC, dI) vwCl (RWs cI ad (va_up (va_up (va_up (va_up (va_up RA 21 a21_2) 22 a22_53) 23 a23_53) 24 a24_2) 25 a25_53) RS RN RL) H → va_S (kAA ad 24) s.heap H locs → lv_has ls 3 [(0, .ref (ad 0)), (1, .int (nI v1))] → (m_fetch RA v1) = m_fetch_k53 RA a21_2 a22_53 a23_53 a24_2 a25_53 v1 → W p l e ({ frames := 0, cells := 0, slots := 0, locals := 0 } : Room) s m args below meth c H locs 0 0 (MQ below (kQ none (kB (dC, dI) [(cI, .int)] (RWs cI ad (va_up (va_up (va_up (va_up (va_up RA 21 ((m_fetch RA v1).1)) 22 ((m_fetch RA v1).2.1)) 23 ((m_fetch RA v1).2.2.1)) 24 ((m_fetch RA v1).2.2.2.1)) 25 ((m_fetch RA v1).2.2.2.2.1)) (va_up (va_up (va_up RS 26 ((m_fetch RA v1).2.2.2.2.2.2.2.1)) 27 ((m_fetch RA v1).2.2.2.2.2.2.2.2.1)) 30 ((m_fetch RA v1).2.2.2.2.2.2.2.2.2)) (va_up (va_up RN 28 ((m_fetch RA v1).2.2.2.2.2.1)) 29 ((m_fetch RA v1).2.2.2.2.2.2.1)) RL)) (kAA ad 24)) args s 0 0 (kAA ad 24)) (F0 m 116 ls []) := by
      intro a22_53 a23_53 a25_53 H locs ls hP hS hl  hF_53
      refine lv_aload_n hx hb dX8_fetch_116 rfl (lv_at hl 0 rfl) ?_
      refine lv_aload_n hx hb dX8_fetch_117 rfl (lv_at hl 0 rfl) ?_
      refine m_get (v := .ref (ad 19)) hx hb hts hown hK hP 33 (by decide) rfl kX8_64 rfl dX8_fetch_118 ?_
      refine lv_iload_n hx hb dX8_fetch_121 rfl (lv_at hl 1 rfl) ?_
      refine lv_bipush (v := 64) hx hb dX8_fetch_122 (by decide) ?_
      refine kn_iadd hx hb v1 64 rfl rfl dX8_fetch_124 ?_
      refine kn_iald (f := (RA 33)) (v := (RA 33 (v1 + 64))) hx hb hK hP 19 rfl (v1 + 64) rfl (by omega) (by omega) rfl dX8_fetch_125 ?_
      refine m_put (RS' := (va_up RS 26 (RA 33 (v1 + 64)))) (RN' := RN) (RL' := RL) (ty := .int) hx hb hts hown hI hK hP hS 26 (by decide) rfl kX8_163 rfl (by decide +kernel) rfl rfl rfl dX8_fetch_126 (fun H locs hP hS => ?_)
      refine lv_aload_n hx hb dX8_fetch_129 rfl (lv_at hl 0 rfl) ?_
      refine lv_aload_n hx hb dX8_fetch_130 rfl (lv_at hl 0 rfl) ?_
      refine m_get (v := .ref (ad 19)) hx hb hts hown hK hP 33 (by decide) rfl kX8_64 rfl dX8_fetch_131 ?_
      refine lv_iload_n hx hb dX8_fetch_134 rfl (lv_at hl 1 rfl) ?_
      refine lv_bipush (v := 65) hx hb dX8_fetch_135 (by decide) ?_
      refine kn_iadd hx hb v1 65 rfl rfl dX8_fetch_137 ?_
      refine kn_iald (f := (RA 33)) (v := (RA 33 (v1 + 65))) hx hb hK hP 19 rfl (v1 + 65) rfl (by omega) (by omega) rfl dX8_fetch_138 ?_
      refine m_put (RS' := (va_up (va_up RS 26 (RA 33 (v1 + 64))) 27 (RA 33 (v1 + 65)))) (RN' := RN) (RL' := RL) (ty := .int) hx hb hts hown hI hK hP hS 27 (by decide) rfl kX8_166 rfl (by decide +kernel) rfl rfl rfl dX8_fetch_139 (fun H locs hP hS => ?_)
      refine lv_aload_n hx hb dX8_fetch_142 rfl (lv_at hl 0 rfl) ?_
      refine lv_aload_n hx hb dX8_fetch_143 rfl (lv_at hl 0 rfl) ?_
      refine m_get (v := .ref (ad 19)) hx hb hts hown hK hP 33 (by decide) rfl kX8_64 rfl dX8_fetch_144 ?_
      refine lv_iload_n hx hb dX8_fetch_147 rfl (lv_at hl 1 rfl) ?_
      refine lv_bipush (v := 66) hx hb dX8_fetch_148 (by decide) ?_
      refine kn_iadd hx hb v1 66 rfl rfl dX8_fetch_150 ?_
      refine kn_iald (f := (RA 33)) (v := (RA 33 (v1 + 66))) hx hb hK hP 19 rfl (v1 + 66) rfl (by omega) (by omega) rfl dX8_fetch_151 ?_
      refine kn_top (x' := (nI ((RA 33 (v1 + 66)).toNatClampNeg))) (kNat hk1) ?_
      refine kn_nm (fun z_3 hz_3 => ?_)
      refine m_put (RS' := (va_up (va_up RS 26 (RA 33 (v1 + 64))) 27 (RA 33 (v1 + 65)))) (RN' := (va_up RN 28 z_3)) (RL' := RL) (ty := .int) hx hb hts hown hI hK hP hS 28 (by decide) rfl kX8_160 rfl (by decide +kernel) rfl rfl rfl dX8_fetch_152 (fun H locs hP hS => ?_)
      refine lv_aload_n hx hb dX8_fetch_155 rfl (lv_at hl 0 rfl) ?_
      refine lv_aload_n hx hb dX8_fetch_156 rfl (lv_at hl 0 rfl) ?_
      refine m_get (v := .ref (ad 19)) hx hb hts hown hK hP 33 (by decide) rfl kX8_64 rfl dX8_fetch_157 ?_
      refine lv_iload_n hx hb dX8_fetch_160 rfl (lv_at hl 1 rfl) ?_
      refine lv_bipush (v := 67) hx hb dX8_fetch_161 (by decide) ?_
      refine kn_iadd hx hb v1 67 rfl rfl dX8_fetch_163 ?_
      refine kn_iald (f := (RA 33)) (v := (RA 33 (v1 + 67))) hx hb hK hP 19 rfl (v1 + 67) rfl (by omega) (by omega) rfl dX8_fetch_164 ?_
      refine kn_top (x' := (nI ((RA 33 (v1 + 67)).toNatClampNeg))) (kNat hk2) ?_
      refine kn_nm (fun z_4 hz_4 => ?_)
      refine m_put (RS' := (va_up (va_up RS 26 (RA 33 (v1 + 64))) 27 (RA 33 (v1 + 65)))) (RN' := (va_up (va_up RN 28 z_3) 29 z_4)) (RL' := RL) (ty := .int) hx hb hts hown hI hK hP hS 29 (by decide) rfl kX8_169 rfl (by decide +kernel) rfl rfl rfl dX8_fetch_165 (fun H locs hP hS => ?_)
      refine lv_aload_n hx hb dX8_fetch_168 rfl (lv_at hl 0 rfl) ?_
      refine lv_aload_n hx hb dX8_fetch_169 rfl (lv_at hl 0 rfl) ?_
      refine m_get (v := .ref (ad 19)) hx hb hts hown hK hP 33 (by decide) rfl kX8_64 rfl dX8_fetch_170 ?_
      refine lv_iload_n hx hb dX8_fetch_173 rfl (lv_at hl 1 rfl) ?_
      refine lv_bipush (v := 68) hx hb dX8_fetch_174 (by decide) ?_
      refine kn_iadd hx hb v1 68 rfl rfl dX8_fetch_176 ?_
      refine kn_iald (f := (RA 33)) (v := (RA 33 (v1 + 68))) hx hb hK hP 19 rfl (v1 + 68) rfl (by omega) (by omega) rfl dX8_fetch_177 ?_
      refine m_put (RS' := (va_up (va_up (va_up RS 26 (RA 33 (v1 + 64))) 27 (RA 33 (v1 + 65))) 30 (RA 33 (v1 + 68)))) (RN' := (va_up (va_up RN 28 z_3) 29 z_4)) (RL' := RL) (ty := .int) hx hb hts hown hI hK hP hS 30 (by decide) rfl kX8_171 rfl (by decide +kernel) rfl rfl rfl dX8_fetch_178 (fun H locs hP hS => ?_)
      have hE : (m_fetch RA v1) = (a21_2, a22_53, a23_53, a24_2, a25_53, z_3, z_4, (RA 33 (v1 + 64)), (RA 33 (v1 + 65)), (RA 33 (v1 + 68))) := by subst hz_4; subst hz_3; exact hF_53.trans (by rw [m_fetch_k53])
      exact W.vret hx hb hr (fun t ht hW => ⟨rfl, by rw [hE]; exact kB.of (ws := RWs cI ad (va_up (va_up (va_up (va_up (va_up RA 21 a21_2) 22 a22_53) 23 a23_53) 24 a24_2) 25 a25_53) (va_up (va_up (va_up RS 26 (RA 33 (v1 + 64))) 27 (RA 33 (v1 + 65))) 30 (RA 33 (v1 + 68))) (va_up (va_up RN 28 z_3) 29 z_4) RL) hP hK hN ht hW, hS.F ht⟩) hS.2.2 dX8_fetch_181 hlocks
    have loop_53 : ∀ (n_53 i_53 : Nat) (a22_53 : Nat → Int32) (a23_53 : Nat → Int32) (a25_53 : Nat → Int32), i_53 + n_53 = 8 → ∀ (H : Heap) (locs : List Loc) (ls : Array Slot), va_P (dC, dI) vwCl (RWs cI ad (va_up (va_up (va_up (va_up (va_up RA 21 a21_2) 22 a22_53) 23 a23_53) 24 a24_2) 25 a25_53) RS RN RL) H → va_S (kAA ad 24) s.heap H locs → lv_has ls 3 [(0, .ref (ad 0)), (1, .int (nI v1)), (2, .int (nI i_53))] → (∀ (H : Heap) (locs : List Loc) (ls : Array Slot), va_P (dC, dI) vwCl (RWs cI ad (va_up (va_up (va_up (va_up (va_up RA 21 a21_2) 22 ((m_fetch_L53 RA v1 n_53 i_53 a22_53 a23_53 a25_53).1)) 23 ((m_fetch_L53 RA v1 n_53 i_53 a22_53 a23_53 a25_53).2.1)) 24 a24_2) 25 ((m_fetch_L53 RA v1 n_53 i_53 a22_53 a23_53 a25_53).2.2)) RS RN RL) H → va_S (kAA ad 24) s.heap H locs → lv_has ls 3 [(0, .ref (ad 0)), (1, .int (nI v1))] → W p l e ({ frames := 0, cells := 0, slots := 0, locals := 0 } : Room) s m args below meth c H locs 0 0 (MQ below (kQ none (kB (dC, dI) [(cI, .int)] (RWs cI ad (va_up (va_up (va_up (va_up (va_up RA 21 ((m_fetch RA v1).1)) 22 ((m_fetch RA v1).2.1)) 23 ((m_fetch RA v1).2.2.1)) 24 ((m_fetch RA v1).2.2.2.1)) 25 ((m_fetch RA v1).2.2.2.2.1)) (va_up (va_up (va_up RS 26 ((m_fetch RA v1).2.2.2.2.2.2.2.1)) 27 ((m_fetch RA v1).2.2.2.2.2.2.2.2.1)) 30 ((m_fetch RA v1).2.2.2.2.2.2.2.2.2)) (va_up (va_up RN 28 ((m_fetch RA v1).2.2.2.2.2.1)) 29 ((m_fetch RA v1).2.2.2.2.2.2.1)) RL)) (kAA ad 24)) args s 0 0 (kAA ad 24)) (F0 m 116 ls [])) → W p l e ({ frames := 0, cells := 0, slots := 0, locals := 0 } : Room) s m args below meth c H locs 0 0 (MQ below (kQ none (kB (dC, dI) [(cI, .int)] (RWs cI ad (va_up (va_up (va_up (va_up (va_up RA 21 ((m_fetch RA v1).1)) 22 ((m_fetch RA v1).2.1)) 23 ((m_fetch RA v1).2.2.1)) 24 ((m_fetch RA v1).2.2.2.1)) 25 ((m_fetch RA v1).2.2.2.2.1)) (va_up (va_up (va_up RS 26 ((m_fetch RA v1).2.2.2.2.2.2.2.1)) 27 ((m_fetch RA v1).2.2.2.2.2.2.2.2.1)) 30 ((m_fetch RA v1).2.2.2.2.2.2.2.2.2)) (va_up (va_up RN 28 ((m_fetch RA v1).2.2.2.2.2.1)) 29 ((m_fetch RA v1).2.2.2.2.2.2.1)) RL)) (kAA ad 24)) args s 0 0 (kAA ad 24)) (F0 m 53 ls []) := by
      intro n_53
      induction n_53 with
      | zero =>
        intro i_53 a22_53 a23_53 a25_53 hin_53 H locs ls hP hS hl  hk_53
        refine lv_iload_n hx hb dX8_fetch_53 rfl (lv_at hl 2 rfl) ?_
        refine lv_bipush (v := 8) hx hb dX8_fetch_54 (by decide) ?_
        refine lv_icmp_ge (tgt := 116) hx hb dX8_fetch_56 (by decide) (fun _ => ?_) (fun c_5 => absurd (kct_ge (N := 8) rfl (by omega) (by omega)) c_5)
        have hL_53 : (m_fetch_L53 RA v1 0 i_53 a22_53 a23_53 a25_53) = (a22_53, a23_53, a25_53) := by rw [m_fetch_L53.eq_1]
        try rw [hL_53] at hk_53
        exact hk_53 _ _ _ hP hS (lv_sub hl [0, 1] rfl) 
      | succ n_53 ih_53 =>
        intro i_53 a22_53 a23_53 a25_53 hin_53 H locs ls hP hS hl  hk_53
        refine lv_iload_n hx hb dX8_fetch_53 rfl (lv_at hl 2 rfl) ?_
        refine lv_bipush (v := 8) hx hb dX8_fetch_54 (by decide) ?_
        refine lv_icmp_ge (tgt := 116) hx hb dX8_fetch_56 (by decide) (fun c_6 => absurd c_6 (kct_lt (N := 8) rfl (by omega))) (fun _ => ?_)
        refine lv_aload_n hx hb dX8_fetch_59 rfl (lv_at hl 0 rfl) ?_
        refine m_get (v := .ref (ad 14)) hx hb hts hown hK hP 22 (by decide) rfl kX8_49 rfl dX8_fetch_60 ?_
        refine lv_iload_n hx hb dX8_fetch_63 rfl (lv_at hl 2 rfl) ?_
        refine lv_aload_n hx hb dX8_fetch_64 rfl (lv_at hl 0 rfl) ?_
        refine m_get (v := .ref (ad 19)) hx hb hts hown hK hP 33 (by decide) rfl kX8_64 rfl dX8_fetch_65 ?_
        refine lv_iload_n hx hb dX8_fetch_68 rfl (lv_at hl 1 rfl) ?_
        refine lv_bipush (v := 40) hx hb dX8_fetch_69 (by decide) ?_
        refine kn_iadd hx hb v1 40 rfl rfl dX8_fetch_71 ?_
        refine lv_iload_n hx hb dX8_fetch_72 rfl (lv_at hl 2 rfl) ?_
        refine kn_iadd hx hb (v1 + 40) i_53 rfl rfl dX8_fetch_73 ?_
        refine kn_iald (f := (RA 33)) (v := (RA 33 ((v1 + 40) + i_53))) hx hb hK hP 19 rfl ((v1 + 40) + i_53) rfl (by omega) (by omega) rfl dX8_fetch_74 ?_
        refine kn_iast (f := a22_53) (ws' := RWs cI ad (va_up (va_up (va_up (va_up (va_up RA 21 a21_2) 22 (upd a22_53 i_53 (RA 33 ((v1 + 40) + i_53)))) 23 a23_53) 24 a24_2) 25 a25_53) RS RN RL) hx hb hK hP (RWsD hI) hS 14 rfl i_53 rfl (by omega) (by omega) rfl dX8_fetch_75 (fun H locs hP hS => ?_)
        refine lv_aload_n hx hb dX8_fetch_76 rfl (lv_at hl 0 rfl) ?_
        refine m_get (v := .ref (ad 15)) hx hb hts hown hK hP 23 (by decide) rfl kX8_52 rfl dX8_fetch_77 ?_
        refine lv_iload_n hx hb dX8_fetch_80 rfl (lv_at hl 2 rfl) ?_
        refine lv_aload_n hx hb dX8_fetch_81 rfl (lv_at hl 0 rfl) ?_
        refine m_get (v := .ref (ad 19)) hx hb hts hown hK hP 33 (by decide) rfl kX8_64 rfl dX8_fetch_82 ?_
        refine lv_iload_n hx hb dX8_fetch_85 rfl (lv_at hl 1 rfl) ?_
        refine lv_bipush (v := 48) hx hb dX8_fetch_86 (by decide) ?_
        refine kn_iadd hx hb v1 48 rfl rfl dX8_fetch_88 ?_
        refine lv_iload_n hx hb dX8_fetch_89 rfl (lv_at hl 2 rfl) ?_
        refine kn_iadd hx hb (v1 + 48) i_53 rfl rfl dX8_fetch_90 ?_
        refine kn_iald (f := (RA 33)) (v := (RA 33 ((v1 + 48) + i_53))) hx hb hK hP 19 rfl ((v1 + 48) + i_53) rfl (by omega) (by omega) rfl dX8_fetch_91 ?_
        refine kn_iast (f := a23_53) (ws' := RWs cI ad (va_up (va_up (va_up (va_up (va_up RA 21 a21_2) 22 (upd a22_53 i_53 (RA 33 ((v1 + 40) + i_53)))) 23 (upd a23_53 i_53 (RA 33 ((v1 + 48) + i_53)))) 24 a24_2) 25 a25_53) RS RN RL) hx hb hK hP (RWsD hI) hS 15 rfl i_53 rfl (by omega) (by omega) rfl dX8_fetch_92 (fun H locs hP hS => ?_)
        refine lv_aload_n hx hb dX8_fetch_93 rfl (lv_at hl 0 rfl) ?_
        refine m_get (v := .ref (ad 17)) hx hb hts hown hK hP 25 (by decide) rfl kX8_58 rfl dX8_fetch_94 ?_
        refine lv_iload_n hx hb dX8_fetch_97 rfl (lv_at hl 2 rfl) ?_
        refine lv_aload_n hx hb dX8_fetch_98 rfl (lv_at hl 0 rfl) ?_
        refine m_get (v := .ref (ad 19)) hx hb hts hown hK hP 33 (by decide) rfl kX8_64 rfl dX8_fetch_99 ?_
        refine lv_iload_n hx hb dX8_fetch_102 rfl (lv_at hl 1 rfl) ?_
        refine lv_bipush (v := 56) hx hb dX8_fetch_103 (by decide) ?_
        refine kn_iadd hx hb v1 56 rfl rfl dX8_fetch_105 ?_
        refine lv_iload_n hx hb dX8_fetch_106 rfl (lv_at hl 2 rfl) ?_
        refine kn_iadd hx hb (v1 + 56) i_53 rfl rfl dX8_fetch_107 ?_
        refine kn_iald (f := (RA 33)) (v := (RA 33 ((v1 + 56) + i_53))) hx hb hK hP 19 rfl ((v1 + 56) + i_53) rfl (by omega) (by omega) rfl dX8_fetch_108 ?_
        refine kn_iast (f := a25_53) (ws' := RWs cI ad (va_up (va_up (va_up (va_up (va_up RA 21 a21_2) 22 (upd a22_53 i_53 (RA 33 ((v1 + 40) + i_53)))) 23 (upd a23_53 i_53 (RA 33 ((v1 + 48) + i_53)))) 24 a24_2) 25 (upd a25_53 i_53 (RA 33 ((v1 + 56) + i_53)))) RS RN RL) hx hb hK hP (RWsD hI) hS 17 rfl i_53 rfl (by omega) (by omega) rfl dX8_fetch_109 (fun H locs hP hS => ?_)
        refine lv_iinc (v := (nI (i_53 + 1))) (lv' := [(2, .int (nI (i_53 + 1))), (0, .ref (ad 0)), (1, .int (nI v1))]) hx hb dX8_fetch_110 hl (k := 2) rfl (nI_add _ _) (by decide) rfl (fun ls hl => ?_)
        refine lv_goto (tgt := 53) hx hb dX8_fetch_113 (by decide) ?_
        have hL_53 : (m_fetch_L53 RA v1 (n_53 + 1) i_53 a22_53 a23_53 a25_53) = (m_fetch_L53 RA v1 n_53 (i_53 + 1) (upd a22_53 i_53 (RA 33 ((v1 + 40) + i_53))) (upd a23_53 i_53 (RA 33 ((v1 + 48) + i_53))) (upd a25_53 i_53 (RA 33 ((v1 + 56) + i_53)))) := by rw [m_fetch_L53.eq_2]
        try rw [hL_53] at hk_53
        exact ih_53 (i_53 + 1) (upd a22_53 i_53 (RA 33 ((v1 + 40) + i_53))) (upd a23_53 i_53 (RA 33 ((v1 + 48) + i_53))) (upd a25_53 i_53 (RA 33 ((v1 + 56) + i_53))) (by omega) _ _ _ hP hS (lv_sub hl [1, 2, 0] rfl)  hk_53
    have hP : va_P (dC, dI) vwCl (RWs cI ad (va_up (va_up (va_up (va_up (va_up RA 21 a21_2) 22 (RA 22)) 23 (RA 23)) 24 a24_2) 25 (RA 25)) RS RN RL) H := (RWs_conv rfl rfl rfl rfl rfl rfl rfl rfl rfl rfl rfl rfl rfl rfl rfl rfl rfl rfl rfl rfl rfl rfl rfl rfl rfl rfl rfl rfl rfl rfl rfl rfl rfl rfl rfl rfl rfl rfl rfl rfl rfl hP)
    exact loop_53 8 0 (RA 22) (RA 23) (RA 25) (by omega) _ _ _ hP hS (lv_sub hl [1, 2, 0] rfl)  (fun H locs ls hP hS hl  => rest_53 (m_fetch_L53 RA v1 8 0 (RA 22) (RA 23) (RA 25)).1 (m_fetch_L53 RA v1 8 0 (RA 22) (RA 23) (RA 25)).2.1 (m_fetch_L53 RA v1 8 0 (RA 22) (RA 23) (RA 25)).2.2 _ _ _ hP hS hl  (hF_2.trans (by rw [m_fetch_k2])))
  have loop_2 : ∀ (n_2 i_2 : Nat) (a21_2 : Nat → Int32) (a24_2 : Nat → Int32), i_2 + n_2 = 24 → ∀ (H : Heap) (locs : List Loc) (ls : Array Slot), va_P (dC, dI) vwCl (RWs cI ad (va_up (va_up RA 21 a21_2) 24 a24_2) RS RN RL) H → va_S (kAA ad 24) s.heap H locs → lv_has ls 3 [(0, .ref (ad 0)), (1, .int (nI v1)), (2, .int (nI i_2))] → (∀ (H : Heap) (locs : List Loc) (ls : Array Slot), va_P (dC, dI) vwCl (RWs cI ad (va_up (va_up RA 21 ((m_fetch_L2 RA v1 n_2 i_2 a21_2 a24_2).1)) 24 ((m_fetch_L2 RA v1 n_2 i_2 a21_2 a24_2).2)) RS RN RL) H → va_S (kAA ad 24) s.heap H locs → lv_has ls 3 [(0, .ref (ad 0)), (1, .int (nI v1))] → W p l e ({ frames := 0, cells := 0, slots := 0, locals := 0 } : Room) s m args below meth c H locs 0 0 (MQ below (kQ none (kB (dC, dI) [(cI, .int)] (RWs cI ad (va_up (va_up (va_up (va_up (va_up RA 21 ((m_fetch RA v1).1)) 22 ((m_fetch RA v1).2.1)) 23 ((m_fetch RA v1).2.2.1)) 24 ((m_fetch RA v1).2.2.2.1)) 25 ((m_fetch RA v1).2.2.2.2.1)) (va_up (va_up (va_up RS 26 ((m_fetch RA v1).2.2.2.2.2.2.2.1)) 27 ((m_fetch RA v1).2.2.2.2.2.2.2.2.1)) 30 ((m_fetch RA v1).2.2.2.2.2.2.2.2.2)) (va_up (va_up RN 28 ((m_fetch RA v1).2.2.2.2.2.1)) 29 ((m_fetch RA v1).2.2.2.2.2.2.1)) RL)) (kAA ad 24)) args s 0 0 (kAA ad 24)) (F0 m 51 ls [])) → W p l e ({ frames := 0, cells := 0, slots := 0, locals := 0 } : Room) s m args below meth c H locs 0 0 (MQ below (kQ none (kB (dC, dI) [(cI, .int)] (RWs cI ad (va_up (va_up (va_up (va_up (va_up RA 21 ((m_fetch RA v1).1)) 22 ((m_fetch RA v1).2.1)) 23 ((m_fetch RA v1).2.2.1)) 24 ((m_fetch RA v1).2.2.2.1)) 25 ((m_fetch RA v1).2.2.2.2.1)) (va_up (va_up (va_up RS 26 ((m_fetch RA v1).2.2.2.2.2.2.2.1)) 27 ((m_fetch RA v1).2.2.2.2.2.2.2.2.1)) 30 ((m_fetch RA v1).2.2.2.2.2.2.2.2.2)) (va_up (va_up RN 28 ((m_fetch RA v1).2.2.2.2.2.1)) 29 ((m_fetch RA v1).2.2.2.2.2.2.1)) RL)) (kAA ad 24)) args s 0 0 (kAA ad 24)) (F0 m 2 ls []) := by
    intro n_2
    induction n_2 with
    | zero =>
      intro i_2 a21_2 a24_2 hin_2 H locs ls hP hS hl  hk_2
      refine lv_iload_n hx hb dX8_fetch_2 rfl (lv_at hl 2 rfl) ?_
      refine lv_bipush (v := 24) hx hb dX8_fetch_3 (by decide) ?_
      refine lv_icmp_ge (tgt := 51) hx hb dX8_fetch_5 (by decide) (fun _ => ?_) (fun c_7 => absurd (kct_ge (N := 24) rfl (by omega) (by omega)) c_7)
      have hL_2 : (m_fetch_L2 RA v1 0 i_2 a21_2 a24_2) = (a21_2, a24_2) := by rw [m_fetch_L2.eq_1]
      try rw [hL_2] at hk_2
      exact hk_2 _ _ _ hP hS (lv_sub hl [0, 1] rfl) 
    | succ n_2 ih_2 =>
      intro i_2 a21_2 a24_2 hin_2 H locs ls hP hS hl  hk_2
      refine lv_iload_n hx hb dX8_fetch_2 rfl (lv_at hl 2 rfl) ?_
      refine lv_bipush (v := 24) hx hb dX8_fetch_3 (by decide) ?_
      refine lv_icmp_ge (tgt := 51) hx hb dX8_fetch_5 (by decide) (fun c_8 => absurd c_8 (kct_lt (N := 24) rfl (by omega))) (fun _ => ?_)
      refine lv_aload_n hx hb dX8_fetch_8 rfl (lv_at hl 0 rfl) ?_
      refine m_get (v := .ref (ad 16)) hx hb hts hown hK hP 24 (by decide) rfl kX8_55 rfl dX8_fetch_9 ?_
      refine lv_iload_n hx hb dX8_fetch_12 rfl (lv_at hl 2 rfl) ?_
      refine lv_aload_n hx hb dX8_fetch_13 rfl (lv_at hl 0 rfl) ?_
      refine m_get (v := .ref (ad 19)) hx hb hts hown hK hP 33 (by decide) rfl kX8_64 rfl dX8_fetch_14 ?_
      refine lv_iload_n hx hb dX8_fetch_17 rfl (lv_at hl 1 rfl) ?_
      refine lv_iload_n hx hb dX8_fetch_18 rfl (lv_at hl 2 rfl) ?_
      refine kn_iadd hx hb v1 i_2 rfl rfl dX8_fetch_19 ?_
      refine kn_iald (f := (RA 33)) (v := (RA 33 (v1 + i_2))) hx hb hK hP 19 rfl (v1 + i_2) rfl (by omega) (by omega) rfl dX8_fetch_20 ?_
      refine kn_iast (f := a24_2) (ws' := RWs cI ad (va_up (va_up RA 21 a21_2) 24 (upd a24_2 i_2 (RA 33 (v1 + i_2)))) RS RN RL) hx hb hK hP (RWsD hI) hS 16 rfl i_2 rfl (by omega) (by omega) rfl dX8_fetch_21 (fun H locs hP hS => ?_)
      refine lv_aload_n hx hb dX8_fetch_22 rfl (lv_at hl 0 rfl) ?_
      refine m_get (v := .ref (ad 13)) hx hb hts hown hK hP 21 (by decide) rfl kX8_46 rfl dX8_fetch_23 ?_
      refine lv_iload_n hx hb dX8_fetch_26 rfl (lv_at hl 2 rfl) ?_
      refine lv_bipush (v := 16) hx hb dX8_fetch_27 (by decide) ?_
      refine lv_irem hx hb dX8_fetch_29 (by decide) ?_
      refine kn_top (x' := (nI (i_2 % 16))) (pk_rem (a := i_2) (d := 16) (by omega) (by omega) (by omega)) ?_
      refine lv_aload_n hx hb dX8_fetch_30 rfl (lv_at hl 0 rfl) ?_
      refine m_get (v := .ref (ad 19)) hx hb hts hown hK hP 33 (by decide) rfl kX8_64 rfl dX8_fetch_31 ?_
      refine lv_iload_n hx hb dX8_fetch_34 rfl (lv_at hl 1 rfl) ?_
      refine lv_bipush (v := 24) hx hb dX8_fetch_35 (by decide) ?_
      refine kn_iadd hx hb v1 24 rfl rfl dX8_fetch_37 ?_
      refine lv_iload_n hx hb dX8_fetch_38 rfl (lv_at hl 2 rfl) ?_
      refine lv_bipush (v := 16) hx hb dX8_fetch_39 (by decide) ?_
      refine lv_irem hx hb dX8_fetch_41 (by decide) ?_
      refine kn_top (x' := (nI (i_2 % 16))) (pk_rem (a := i_2) (d := 16) (by omega) (by omega) (by omega)) ?_
      refine kn_iadd hx hb (v1 + 24) (i_2 % 16) rfl rfl dX8_fetch_42 ?_
      refine kn_iald (f := (RA 33)) (v := (RA 33 ((v1 + 24) + (i_2 % 16)))) hx hb hK hP 19 rfl ((v1 + 24) + (i_2 % 16)) rfl (by omega) (by omega) rfl dX8_fetch_43 ?_
      refine kn_iast (f := a21_2) (ws' := RWs cI ad (va_up (va_up RA 21 (upd a21_2 (i_2 % 16) (RA 33 ((v1 + 24) + (i_2 % 16))))) 24 (upd a24_2 i_2 (RA 33 (v1 + i_2)))) RS RN RL) hx hb hK hP (RWsD hI) hS 13 rfl (i_2 % 16) rfl (by omega) (by omega) rfl dX8_fetch_44 (fun H locs hP hS => ?_)
      refine lv_iinc (v := (nI (i_2 + 1))) (lv' := [(2, .int (nI (i_2 + 1))), (0, .ref (ad 0)), (1, .int (nI v1))]) hx hb dX8_fetch_45 hl (k := 2) rfl (nI_add _ _) (by decide) rfl (fun ls hl => ?_)
      refine lv_goto (tgt := 2) hx hb dX8_fetch_48 (by decide) ?_
      have hL_2 : (m_fetch_L2 RA v1 (n_2 + 1) i_2 a21_2 a24_2) = (m_fetch_L2 RA v1 n_2 (i_2 + 1) (upd a21_2 (i_2 % 16) (RA 33 ((v1 + 24) + (i_2 % 16)))) (upd a24_2 i_2 (RA 33 (v1 + i_2)))) := by rw [m_fetch_L2.eq_2]
      try rw [hL_2] at hk_2
      exact ih_2 (i_2 + 1) (upd a21_2 (i_2 % 16) (RA 33 ((v1 + 24) + (i_2 % 16)))) (upd a24_2 i_2 (RA 33 (v1 + i_2))) (by omega) _ _ _ hP hS (lv_sub hl [1, 2, 0] rfl)  hk_2
  have hP : va_P (dC, dI) vwCl (RWs cI ad (va_up (va_up RA 21 (RA 21)) 24 (RA 24)) RS RN RL) s.heap := (RWs_conv rfl rfl rfl rfl rfl rfl rfl rfl rfl rfl rfl rfl rfl rfl rfl rfl rfl rfl rfl rfl rfl rfl rfl rfl rfl rfl rfl rfl rfl rfl rfl rfl rfl rfl rfl rfl rfl rfl rfl rfl rfl hP)
  exact loop_2 24 0 (RA 21) (RA 24) (by omega) _ _ _ hP hS (lv_sub hl [1, 2, 0] rfl)  (fun H locs ls hP hS hl  => rest_2 (m_fetch_L2 RA v1 24 0 (RA 21) (RA 24)).1 (m_fetch_L2 RA v1 24 0 (RA 21) (RA 24)).2 _ _ _ hP hS hl  (by rw [m_fetch]))
-- X8_keep
def m_keep (RA : Nat → Nat → Int32) (RS : Nat → Int32) (RN : Nat → Nat) : Int32 × (Nat → Int32) × Nat := if (nI (RN 34)) = 2 then ((-3), (RA 33), (RN 34)) else ((nI ((RN 34) + 1)), (m_store RA RS RN (100 * (RN 34))), (RN 34) + 1)
set_option maxHeartbeats 4000000 in
set_option maxRecDepth 100000 in
theorem c_m_keep (hI : kInj ad 24) (hM : mI RA RS RN) : Met l yX8_keep (.code yX8_keep cX8_keep 1 (some .int) :: kT) ({ frames := 1, cells := 0, slots := 0, locals := 22 } : Room) (va_Pc [.ref (ad 0)] (kB (dC, dI) [(cI, .int)] (RWs cI ad RA RS RN RL))) (kQ (some (.int ((m_keep RA RS RN).1))) (kB (dC, dI) [(cI, .int)] (RWs cI ad (va_up RA 33 ((m_keep RA RS RN).2.1)) RS (va_up RN 34 ((m_keep RA RS RN).2.2)) RL)) (kAA ad 24)) 0 0 (kAA ad 24) := by
  refine kMet (by decide) (fun p e s m args below meth c ls hx hb hr hml hts hown hlocks hname hargs hB hl => ?_) (Nat.le_of_ble_eq_true rfl)
  obtain ⟨hP, hK, hN⟩ := hB
  have hl : lv_has ls 1 [(0, .ref (ad 0))] := hl
  have hS : va_S (kAA ad 24) s.heap s.heap [] := va_S.rf
  refine lv_aload_n hx hb dX8_keep_0 rfl (lv_at hl 0 rfl) ?_
  refine m_get (v := .int (nI (RN 34))) hx hb hts hown hK hP 34 (by decide) rfl kX8_177 rfl dX8_keep_1 ?_
  refine lv_iconst (v := 2) hx hb dX8_keep_4 (by decide) ?_
  refine lv_icmp_ne (tgt := 11) hx hb dX8_keep_5 (by decide) (fun c_2 => ?_) (fun c_2 => ?_)
  · have hk2 : RN 34 < 2 := by have := knI_ne (a := RN 34) (b := 2) (by assumption); have := mI_kept hM; omega
    refine lv_aload_n hx hb dX8_keep_11 rfl (lv_at hl 0 rfl) ?_
    refine lv_bipush (v := 100) hx hb dX8_keep_12 (by decide) ?_
    refine lv_aload_n hx hb dX8_keep_14 rfl (lv_at hl 0 rfl) ?_
    refine m_get (v := .int (nI (RN 34))) hx hb hts hown hK hP 34 (by decide) rfl kX8_177 rfl dX8_keep_15 ?_
    refine kn_imul hx hb 100 (RN 34) rfl rfl dX8_keep_18 ?_
    refine k_wV (r := none) (As := [.int (nI (100 * (RN 34)))]) (rest := []) hx hb hml hown hts hl.1 hP hK hN hS (c_m_store hI (100 * (RN 34)) (by omega)) eX8_324 (ci := 7) (q0 := 0) rfl rfl rfl rfl rfl (Nat.le_of_ble_eq_true rfl) ⟨Nat.le_of_ble_eq_true rfl, Nat.le_of_ble_eq_true rfl⟩ ⟨rfl, rfl⟩ ⟨Nat.le_of_ble_eq_true rfl, Nat.le_of_ble_eq_true rfl⟩ dX8_keep_19 (fun H locs hP hS => ?_)
    obtain ⟨r_3, hr_3⟩ : ∃ z, z = (m_store RA RS RN (100 * (RN 34))) := ⟨_, rfl⟩
    rw [← hr_3] at hP
    have hP : va_P (dC, dI) vwCl (RWs cI ad (va_up RA 33 r_3) RS RN RL) H := (RWs_conv rfl rfl rfl rfl rfl rfl rfl rfl rfl rfl rfl rfl rfl rfl rfl rfl rfl rfl rfl rfl rfl rfl rfl rfl rfl rfl rfl rfl rfl rfl rfl rfl rfl rfl rfl rfl rfl rfl rfl rfl rfl hP)
    refine lv_aload_n hx hb dX8_keep_22 rfl (lv_at hl 0 rfl) ?_
    refine lv_dup hx hb dX8_keep_23 rfl ?_
    refine m_get (v := .int (nI (RN 34))) hx hb hts hown hK hP 34 (by decide) rfl kX8_177 rfl dX8_keep_24 ?_
    refine lv_iconst (v := 1) hx hb dX8_keep_27 (by decide) ?_
    refine kn_iadd hx hb (RN 34) 1 rfl rfl dX8_keep_28 ?_
    refine m_put (RS' := RS) (RN' := (va_up RN 34 ((RN 34) + 1))) (RL' := RL) (ty := .int) hx hb hts hown hI hK hP hS 34 (by decide) rfl kX8_177 rfl (by decide +kernel) rfl rfl rfl dX8_keep_29 (fun H locs hP hS => ?_)
    refine lv_aload_n hx hb dX8_keep_32 rfl (lv_at hl 0 rfl) ?_
    refine m_get (v := .int (nI ((RN 34) + 1))) hx hb hts hown hK hP 34 (by decide) rfl kX8_177 rfl dX8_keep_33 ?_
    have hE : (m_keep RA RS RN) = ((nI ((RN 34) + 1)), r_3, (RN 34) + 1) := by subst hr_3; rw [m_keep, if_neg c_2]
    exact W.iret (v := (nI ((RN 34) + 1))) hx hb hr (fun t ht hW => ⟨by rw [hE], by rw [hE]; exact kB.of (ws := RWs cI ad (va_up RA 33 r_3) RS (va_up RN 34 ((RN 34) + 1)) RL) hP hK hN ht hW, hS.F ht⟩) hS.2.2 dX8_keep_36 hlocks
  · refine lv_bipush (v := (-3)) hx hb dX8_keep_8 (by decide) ?_
    have hE : (m_keep RA RS RN) = ((-3), (RA 33), (RN 34)) := by rw [m_keep, if_pos c_2]
    exact W.iret (v := (-3)) hx hb hr (fun t ht hW => ⟨by rw [hE], by rw [hE]; exact kB.of (ws := RWs cI ad (va_up RA 33 (RA 33)) RS (va_up RN 34 (RN 34)) RL) (RWs_conv rfl rfl rfl rfl rfl rfl rfl rfl rfl rfl rfl rfl rfl rfl rfl rfl rfl rfl rfl rfl rfl rfl rfl rfl rfl rfl rfl rfl rfl rfl rfl rfl rfl rfl rfl rfl rfl rfl rfl rfl rfl hP) hK hN ht hW, hS.F ht⟩) hS.2.2 dX8_keep_10 hlocks
-- X8_back
def m_back (RA : Nat → Nat → Int32) (RS : Nat → Int32) (RN : Nat → Nat) : Int32 × (Nat → Int32) × (Nat → Int32) × (Nat → Int32) × (Nat → Int32) × (Nat → Int32) × Nat × Nat × Nat × Int32 × Int32 × Int32 := if (nI (RN 34)) = 0 then ((-2), (RA 21), (RA 22), (RA 23), (RA 24), (RA 25), (RN 28), (RN 29), (RN 34), (RS 26), (RS 27), (RS 30)) else ((nI (RN 34 - 1)), (m_fetch RA (100 * (RN 34 - 1))).1, (m_fetch RA (100 * (RN 34 - 1))).2.1, (m_fetch RA (100 * (RN 34 - 1))).2.2.1, (m_fetch RA (100 * (RN 34 - 1))).2.2.2.1, (m_fetch RA (100 * (RN 34 - 1))).2.2.2.2.1, (m_fetch RA (100 * (RN 34 - 1))).2.2.2.2.2.1, (m_fetch RA (100 * (RN 34 - 1))).2.2.2.2.2.2.1, RN 34 - 1, (m_fetch RA (100 * (RN 34 - 1))).2.2.2.2.2.2.2.1, (m_fetch RA (100 * (RN 34 - 1))).2.2.2.2.2.2.2.2.1, (m_fetch RA (100 * (RN 34 - 1))).2.2.2.2.2.2.2.2.2)
set_option maxHeartbeats 4000000 in
set_option maxRecDepth 100000 in
theorem c_m_back (hI : kInj ad 24) (hM : mI RA RS RN) (hKp : mK RA RN) : Met l yX8_back (.code yX8_back cX8_back 1 (some .int) :: kT) ({ frames := 1, cells := 0, slots := 0, locals := 22 } : Room) (va_Pc [.ref (ad 0)] (kB (dC, dI) [(cI, .int)] (RWs cI ad RA RS RN RL))) (kQ (some (.int ((m_back RA RS RN).1))) (kB (dC, dI) [(cI, .int)] (RWs cI ad (va_up (va_up (va_up (va_up (va_up RA 21 ((m_back RA RS RN).2.1)) 22 ((m_back RA RS RN).2.2.1)) 23 ((m_back RA RS RN).2.2.2.1)) 24 ((m_back RA RS RN).2.2.2.2.1)) 25 ((m_back RA RS RN).2.2.2.2.2.1)) (va_up (va_up (va_up RS 26 ((m_back RA RS RN).2.2.2.2.2.2.2.2.2.1)) 27 ((m_back RA RS RN).2.2.2.2.2.2.2.2.2.2.1)) 30 ((m_back RA RS RN).2.2.2.2.2.2.2.2.2.2.2)) (va_up (va_up (va_up RN 28 ((m_back RA RS RN).2.2.2.2.2.2.1)) 29 ((m_back RA RS RN).2.2.2.2.2.2.2.1)) 34 ((m_back RA RS RN).2.2.2.2.2.2.2.2.1)) RL)) (kAA ad 24)) 0 0 (kAA ad 24) := by
  refine kMet (by decide) (fun p e s m args below meth c ls hx hb hr hml hts hown hlocks hname hargs hB hl => ?_) (Nat.le_of_ble_eq_true rfl)
  obtain ⟨hP, hK, hN⟩ := hB
  have hl : lv_has ls 1 [(0, .ref (ad 0))] := hl
  have hS : va_S (kAA ad 24) s.heap s.heap [] := va_S.rf
  refine lv_aload_n hx hb dX8_back_0 rfl (lv_at hl 0 rfl) ?_
  refine m_get (v := .int (nI (RN 34))) hx hb hts hown hK hP 34 (by decide) rfl kX8_177 rfl dX8_back_1 ?_
  refine lv_if_ne (tgt := 10) hx hb dX8_back_4 (by decide) (fun c_2 => ?_) (fun c_2 => ?_)
  · have hk1 : 1 ≤ RN 34 := by have := knI_ne (a := RN 34) (b := 0) (by assumption); omega
    have hk2 := mI_kept hM
    refine lv_aload_n hx hb dX8_back_10 rfl (lv_at hl 0 rfl) ?_
    refine lv_dup hx hb dX8_back_11 rfl ?_
    refine m_get (v := .int (nI (RN 34))) hx hb hts hown hK hP 34 (by decide) rfl kX8_177 rfl dX8_back_12 ?_
    refine lv_iconst (v := 1) hx hb dX8_back_15 (by decide) ?_
    refine lv_isub hx hb dX8_back_16 ?_
    refine kn_top (x' := (nI (RN 34 - 1))) (pk_sub (a := RN 34) (b := 1) (by omega)) ?_
    refine m_put (RS' := RS) (RN' := (va_up RN 34 (RN 34 - 1))) (RL' := RL) (ty := .int) hx hb hts hown hI hK hP hS 34 (by decide) rfl kX8_177 rfl (by decide +kernel) rfl rfl rfl dX8_back_17 (fun H locs hP hS => ?_)
    refine lv_aload_n hx hb dX8_back_20 rfl (lv_at hl 0 rfl) ?_
    refine lv_bipush (v := 100) hx hb dX8_back_21 (by decide) ?_
    refine lv_aload_n hx hb dX8_back_23 rfl (lv_at hl 0 rfl) ?_
    refine m_get (v := .int (nI (RN 34 - 1))) hx hb hts hown hK hP 34 (by decide) rfl kX8_177 rfl dX8_back_24 ?_
    refine kn_imul hx hb 100 (RN 34 - 1) rfl rfl dX8_back_27 ?_
    refine k_wV (r := none) (As := [.int (nI (100 * (RN 34 - 1)))]) (rest := []) hx hb hml hown hts hl.1 hP hK hN hS (c_m_fetch hI (100 * (RN 34 - 1)) (by omega) ((hKp (RN 34 - 1) (by omega)).1) ((hKp (RN 34 - 1) (by omega)).2)) eX8_327 (ci := 7) (q0 := 0) rfl rfl rfl rfl rfl (Nat.le_of_ble_eq_true rfl) ⟨Nat.le_of_ble_eq_true rfl, Nat.le_of_ble_eq_true rfl⟩ ⟨rfl, rfl⟩ ⟨Nat.le_of_ble_eq_true rfl, Nat.le_of_ble_eq_true rfl⟩ dX8_back_28 (fun H locs hP hS => ?_)
    obtain ⟨r_3, hr_3⟩ : ∃ z, z = (m_fetch RA (100 * (RN 34 - 1))) := ⟨_, rfl⟩
    rw [← hr_3] at hP
    have hP : va_P (dC, dI) vwCl (RWs cI ad (va_up (va_up (va_up (va_up (va_up RA 21 r_3.1) 22 r_3.2.1) 23 r_3.2.2.1) 24 r_3.2.2.2.1) 25 r_3.2.2.2.2.1) (va_up (va_up (va_up RS 26 r_3.2.2.2.2.2.2.2.1) 27 r_3.2.2.2.2.2.2.2.2.1) 30 r_3.2.2.2.2.2.2.2.2.2) (va_up (va_up (va_up RN 28 r_3.2.2.2.2.2.1) 29 r_3.2.2.2.2.2.2.1) 34 (RN 34 - 1)) RL) H := (RWs_conv rfl rfl rfl rfl rfl rfl rfl rfl rfl rfl rfl rfl rfl rfl rfl rfl rfl rfl rfl rfl rfl rfl rfl rfl rfl rfl rfl rfl rfl rfl rfl rfl rfl rfl rfl rfl rfl rfl rfl rfl rfl hP)
    refine lv_aload_n hx hb dX8_back_31 rfl (lv_at hl 0 rfl) ?_
    refine m_get (v := .int (nI (RN 34 - 1))) hx hb hts hown hK hP 34 (by decide) rfl kX8_177 rfl dX8_back_32 ?_
    have hE : (m_back RA RS RN) = ((nI (RN 34 - 1)), r_3.1, r_3.2.1, r_3.2.2.1, r_3.2.2.2.1, r_3.2.2.2.2.1, r_3.2.2.2.2.2.1, r_3.2.2.2.2.2.2.1, RN 34 - 1, r_3.2.2.2.2.2.2.2.1, r_3.2.2.2.2.2.2.2.2.1, r_3.2.2.2.2.2.2.2.2.2) := by subst hr_3; rw [m_back, if_neg c_2]
    exact W.iret (v := (nI (RN 34 - 1))) hx hb hr (fun t ht hW => ⟨by rw [hE], by rw [hE]; exact kB.of (ws := RWs cI ad (va_up (va_up (va_up (va_up (va_up RA 21 r_3.1) 22 r_3.2.1) 23 r_3.2.2.1) 24 r_3.2.2.2.1) 25 r_3.2.2.2.2.1) (va_up (va_up (va_up RS 26 r_3.2.2.2.2.2.2.2.1) 27 r_3.2.2.2.2.2.2.2.2.1) 30 r_3.2.2.2.2.2.2.2.2.2) (va_up (va_up (va_up RN 28 r_3.2.2.2.2.2.1) 29 r_3.2.2.2.2.2.2.1) 34 (RN 34 - 1)) RL) hP hK hN ht hW, hS.F ht⟩) hS.2.2 dX8_back_35 hlocks
  · refine lv_bipush (v := (-2)) hx hb dX8_back_7 (by decide) ?_
    have hE : (m_back RA RS RN) = ((-2), (RA 21), (RA 22), (RA 23), (RA 24), (RA 25), (RN 28), (RN 29), (RN 34), (RS 26), (RS 27), (RS 30)) := by rw [m_back, if_pos c_2]
    exact W.iret (v := (-2)) hx hb hr (fun t ht hW => ⟨by rw [hE], by rw [hE]; exact kB.of (ws := RWs cI ad (va_up (va_up (va_up (va_up (va_up RA 21 (RA 21)) 22 (RA 22)) 23 (RA 23)) 24 (RA 24)) 25 (RA 25)) (va_up (va_up (va_up RS 26 (RS 26)) 27 (RS 27)) 30 (RS 30)) (va_up (va_up (va_up RN 28 (RN 28)) 29 (RN 29)) 34 (RN 34)) RL) (RWs_conv rfl rfl rfl rfl rfl rfl rfl rfl rfl rfl rfl rfl rfl rfl rfl rfl rfl rfl rfl rfl rfl rfl rfl rfl rfl rfl rfl rfl rfl rfl rfl rfl rfl rfl rfl rfl rfl rfl rfl rfl rfl hP) hK hN ht hW, hS.F ht⟩) hS.2.2 dX8_back_9 hlocks

end REF
