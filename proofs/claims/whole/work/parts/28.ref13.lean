section REF
variable {l : Launch} {dC : Nat → ClassId} {dI : Nat → Nat → Nat} {cI : ClassId} {ad : Nat → Nat} {RA : Nat → Nat → Int32} {RS : Nat → Int32} {RN : Nat → Nat} {RL : Int64}
-- X8_look
def m_look_k65 (a22 : Nat → Int32) (a36 : Nat → Int32) (a37 : Nat → Int32) (a39 : Nat → Int32) (ll0 : Int64) (s38 : Int32) (v1 : Nat) (v2 : Int32) (v3 : Int32) (v4 : Int64) : Int64 × (Nat → Int32) × (Nat → Int32) × (Nat → Int32) × (Nat → Int32) × Int64 × Int32 := ((v4 / v3.toInt64), (upd a22 v1 v2), a36, a37, a39, ll0, s38)
def m_look_L65 (RA : Nat → Nat → Int32) (RS : Nat → Int32) (RN : Nat → Nat) (v1 : Nat) (v2 : Int32) : Nat → Nat → Int64 → (Nat → Int32) → (Nat → Int32) → (Nat → Int32) → (Nat → Int32) → Int64 → Int32 → Int64 × (Nat → Int32) × (Nat → Int32) × (Nat → Int32) × (Nat → Int32) × Int64 × Int32
  | 0, i, v4, a22, a36, a37, a39, ll0, s38 => (v4, a22, a36, a37, a39, ll0, s38)
  | n + 1, i, v4, a22, a36, a37, a39, ll0, s38 => if (m_has v2 (nI i)) = 0 then m_look_L65 RA RS RN v1 v2 n (i + 1) v4 a22 a36 a37 a39 ll0 s38 else (if (RA 11 ((4 * v1) + i)) ≤ 0 then m_look_L65 RA RS RN v1 v2 n (i + 1) v4 a22 a36 a37 a39 ll0 s38 else m_look_L65 RA RS RN v1 v2 n (i + 1) (v4 - (((RA 11 ((4 * v1) + i)).toInt64) * ((m_bestRow (va_up (va_up (va_up (va_up RA 22 (upd a22 v1 (1 <<< ((nI i) &&& 31)))) 36 a36) 37 a37) 39 a39) (va_up RS 38 s38) RN 1).2.2.2.2.1))) (upd a22 v1 (1 <<< ((nI i) &&& 31))) ((m_bestRow (va_up (va_up (va_up (va_up RA 22 (upd a22 v1 (1 <<< ((nI i) &&& 31)))) 36 a36) 37 a37) 39 a39) (va_up RS 38 s38) RN 1).2.1) ((m_bestRow (va_up (va_up (va_up (va_up RA 22 (upd a22 v1 (1 <<< ((nI i) &&& 31)))) 36 a36) 37 a37) 39 a39) (va_up RS 38 s38) RN 1).2.2.1) ((m_bestRow (va_up (va_up (va_up (va_up RA 22 (upd a22 v1 (1 <<< ((nI i) &&& 31)))) 36 a36) 37 a37) 39 a39) (va_up RS 38 s38) RN 1).2.2.2.1) ((m_bestRow (va_up (va_up (va_up (va_up RA 22 (upd a22 v1 (1 <<< ((nI i) &&& 31)))) 36 a36) 37 a37) 39 a39) (va_up RS 38 s38) RN 1).2.2.2.2.1) ((m_bestRow (va_up (va_up (va_up (va_up RA 22 (upd a22 v1 (1 <<< ((nI i) &&& 31)))) 36 a36) 37 a37) 39 a39) (va_up RS 38 s38) RN 1).2.2.2.2.2))
def m_look (RA : Nat → Nat → Int32) (RS : Nat → Int32) (RN : Nat → Nat) (RL : Int64) (v1 : Int32) : Int64 × (Nat → Int32) × (Nat → Int32) × (Nat → Int32) × (Nat → Int32) × Int64 × Int32 := if (m_isRoof RN v1) = 0 then ((-1), (RA 22), (RA 36), (RA 37), (RA 39), RL, (RS 38)) else (if (m_has (RS 26) (nI v1.toNatClampNeg)) = 0 then ((-2), (RA 22), (RA 36), (RA 37), (RA 39), RL, (RS 38)) else (if (nI (RN 32)) = 0 then ((-2), (RA 22), (RA 36), (RA 37), (RA 39), RL, (RS 38)) else m_look_k65 (m_look_L65 RA RS RN v1.toNatClampNeg (RA 22 v1.toNatClampNeg) ((RA 12 v1.toNatClampNeg).toNatClampNeg) 0 (((m_bestRow RA RS RN 1).2.2.2.2.1) * ((m_chances (va_up (va_up (va_up RA 36 ((m_bestRow RA RS RN 1).2.1)) 37 ((m_bestRow RA RS RN 1).2.2.1)) 39 ((m_bestRow RA RS RN 1).2.2.2.1)) v1.toNatClampNeg).toInt64)) (RA 22) ((m_bestRow RA RS RN 1).2.1) ((m_bestRow RA RS RN 1).2.2.1) ((m_bestRow RA RS RN 1).2.2.2.1) ((m_bestRow RA RS RN 1).2.2.2.2.1) ((m_bestRow RA RS RN 1).2.2.2.2.2)).2.1 (m_look_L65 RA RS RN v1.toNatClampNeg (RA 22 v1.toNatClampNeg) ((RA 12 v1.toNatClampNeg).toNatClampNeg) 0 (((m_bestRow RA RS RN 1).2.2.2.2.1) * ((m_chances (va_up (va_up (va_up RA 36 ((m_bestRow RA RS RN 1).2.1)) 37 ((m_bestRow RA RS RN 1).2.2.1)) 39 ((m_bestRow RA RS RN 1).2.2.2.1)) v1.toNatClampNeg).toInt64)) (RA 22) ((m_bestRow RA RS RN 1).2.1) ((m_bestRow RA RS RN 1).2.2.1) ((m_bestRow RA RS RN 1).2.2.2.1) ((m_bestRow RA RS RN 1).2.2.2.2.1) ((m_bestRow RA RS RN 1).2.2.2.2.2)).2.2.1 (m_look_L65 RA RS RN v1.toNatClampNeg (RA 22 v1.toNatClampNeg) ((RA 12 v1.toNatClampNeg).toNatClampNeg) 0 (((m_bestRow RA RS RN 1).2.2.2.2.1) * ((m_chances (va_up (va_up (va_up RA 36 ((m_bestRow RA RS RN 1).2.1)) 37 ((m_bestRow RA RS RN 1).2.2.1)) 39 ((m_bestRow RA RS RN 1).2.2.2.1)) v1.toNatClampNeg).toInt64)) (RA 22) ((m_bestRow RA RS RN 1).2.1) ((m_bestRow RA RS RN 1).2.2.1) ((m_bestRow RA RS RN 1).2.2.2.1) ((m_bestRow RA RS RN 1).2.2.2.2.1) ((m_bestRow RA RS RN 1).2.2.2.2.2)).2.2.2.1 (m_look_L65 RA RS RN v1.toNatClampNeg (RA 22 v1.toNatClampNeg) ((RA 12 v1.toNatClampNeg).toNatClampNeg) 0 (((m_bestRow RA RS RN 1).2.2.2.2.1) * ((m_chances (va_up (va_up (va_up RA 36 ((m_bestRow RA RS RN 1).2.1)) 37 ((m_bestRow RA RS RN 1).2.2.1)) 39 ((m_bestRow RA RS RN 1).2.2.2.1)) v1.toNatClampNeg).toInt64)) (RA 22) ((m_bestRow RA RS RN 1).2.1) ((m_bestRow RA RS RN 1).2.2.1) ((m_bestRow RA RS RN 1).2.2.2.1) ((m_bestRow RA RS RN 1).2.2.2.2.1) ((m_bestRow RA RS RN 1).2.2.2.2.2)).2.2.2.2.1 (m_look_L65 RA RS RN v1.toNatClampNeg (RA 22 v1.toNatClampNeg) ((RA 12 v1.toNatClampNeg).toNatClampNeg) 0 (((m_bestRow RA RS RN 1).2.2.2.2.1) * ((m_chances (va_up (va_up (va_up RA 36 ((m_bestRow RA RS RN 1).2.1)) 37 ((m_bestRow RA RS RN 1).2.2.1)) 39 ((m_bestRow RA RS RN 1).2.2.2.1)) v1.toNatClampNeg).toInt64)) (RA 22) ((m_bestRow RA RS RN 1).2.1) ((m_bestRow RA RS RN 1).2.2.1) ((m_bestRow RA RS RN 1).2.2.2.1) ((m_bestRow RA RS RN 1).2.2.2.2.1) ((m_bestRow RA RS RN 1).2.2.2.2.2)).2.2.2.2.2.1 (m_look_L65 RA RS RN v1.toNatClampNeg (RA 22 v1.toNatClampNeg) ((RA 12 v1.toNatClampNeg).toNatClampNeg) 0 (((m_bestRow RA RS RN 1).2.2.2.2.1) * ((m_chances (va_up (va_up (va_up RA 36 ((m_bestRow RA RS RN 1).2.1)) 37 ((m_bestRow RA RS RN 1).2.2.1)) 39 ((m_bestRow RA RS RN 1).2.2.2.1)) v1.toNatClampNeg).toInt64)) (RA 22) ((m_bestRow RA RS RN 1).2.1) ((m_bestRow RA RS RN 1).2.2.1) ((m_bestRow RA RS RN 1).2.2.2.1) ((m_bestRow RA RS RN 1).2.2.2.2.1) ((m_bestRow RA RS RN 1).2.2.2.2.2)).2.2.2.2.2.2 v1.toNatClampNeg (RA 22 v1.toNatClampNeg) (m_chances (va_up (va_up (va_up RA 36 ((m_bestRow RA RS RN 1).2.1)) 37 ((m_bestRow RA RS RN 1).2.2.1)) 39 ((m_bestRow RA RS RN 1).2.2.2.1)) v1.toNatClampNeg) (m_look_L65 RA RS RN v1.toNatClampNeg (RA 22 v1.toNatClampNeg) ((RA 12 v1.toNatClampNeg).toNatClampNeg) 0 (((m_bestRow RA RS RN 1).2.2.2.2.1) * ((m_chances (va_up (va_up (va_up RA 36 ((m_bestRow RA RS RN 1).2.1)) 37 ((m_bestRow RA RS RN 1).2.2.1)) 39 ((m_bestRow RA RS RN 1).2.2.2.1)) v1.toNatClampNeg).toInt64)) (RA 22) ((m_bestRow RA RS RN 1).2.1) ((m_bestRow RA RS RN 1).2.2.1) ((m_bestRow RA RS RN 1).2.2.2.1) ((m_bestRow RA RS RN 1).2.2.2.2.1) ((m_bestRow RA RS RN 1).2.2.2.2.2)).1))
set_option maxHeartbeats 4000000 in
set_option maxRecDepth 100000 in
theorem c_m_look (hI : kInj ad 24) (v1 : Int32) (hM : mI RA RS RN) (hC : mC RA RS RN) : Met l yX8_look (.code yX8_look cX8_look 7 (some .long) :: kT) ({ frames := 7, cells := 0, slots := 0, locals := 167 } : Room) (va_Pc [.ref (ad 0), .int v1] (kB (dC, dI) [(cI, .int)] (RWs cI ad RA RS RN RL))) (kQ (some (.long ((m_look RA RS RN RL v1).1))) (kB (dC, dI) [(cI, .int)] (RWs cI ad (va_up (va_up (va_up (va_up RA 22 ((m_look RA RS RN RL v1).2.1)) 36 ((m_look RA RS RN RL v1).2.2.1)) 37 ((m_look RA RS RN RL v1).2.2.2.1)) 39 ((m_look RA RS RN RL v1).2.2.2.2.1)) (va_up RS 38 ((m_look RA RS RN RL v1).2.2.2.2.2.2)) RN (m_look RA RS RN RL v1).2.2.2.2.2.1)) (kAA ad 24)) 0 0 (kAA ad 24) := by
  refine kMet (by decide) (fun p e s m args below meth c ls hx hb hr hml hts hown hlocks hname hargs hB hl => ?_) (Nat.le_of_ble_eq_true rfl)
  obtain ⟨hP, hK, hN⟩ := hB
  have hl : lv_has ls 7 [(0, .ref (ad 0)), (1, .int v1)] := hl
  have hS : va_S (kAA ad 24) s.heap s.heap [] := va_S.rf
  have h4 : RN 4 ≤ 8 := mI_many hM
  refine lv_aload_n hx hb dX8_look_0 rfl (lv_at hl 0 rfl) ?_
  refine lv_iload_n hx hb dX8_look_1 rfl (lv_at hl 1 rfl) ?_
  refine k_rV (v := .int (m_isRoof RN v1)) (As := [.int v1]) (rest := []) hx hb hml hown hts hl.1 hP hK hN (c_m_isRoof hI v1) eX8_221 (ci := 7) (q0 := 0) rfl rfl rfl rfl rfl (Nat.le_of_ble_eq_true rfl) ⟨Nat.le_of_ble_eq_true rfl, Nat.le_of_ble_eq_true rfl⟩ ⟨rfl, rfl⟩ ⟨Nat.le_of_ble_eq_true rfl, Nat.le_of_ble_eq_true rfl⟩ dX8_look_2 ?_
  refine lv_if_ne (tgt := 12) hx hb dX8_look_5 (by decide) (fun c_7 => ?_) (fun c_7 => ?_)
  · have hr1 := m_isRoof_t h4 c_7
    have hnat1 : v1 = (nI v1.toNatClampNeg) := kNat hr1.1
    have hl : lv_has ls 7 [(0, .ref (ad 0)), (1, .int (nI v1.toNatClampNeg))] := by rw [← hnat1]; exact hl
    have hr1b : v1.toNatClampNeg < (RN 4) := kNat_lt hr1.2 (by omega)
    refine lv_aload_n hx hb dX8_look_12 rfl (lv_at hl 0 rfl) ?_
    refine m_get (v := .int (RS 26)) hx hb hts hown hK hP 26 (by decide) rfl kX8_163 rfl dX8_look_13 ?_
    refine lv_iload_n hx hb dX8_look_16 rfl (lv_at hl 1 rfl) ?_
    refine k_rS (v := .int (m_has (RS 26) (nI v1.toNatClampNeg))) (As := [.int (RS 26), .int (nI v1.toNatClampNeg)]) (rest := []) hx hb hml hown hts hl.1 (B := fun _ => True) (fun _ _ _ _ q => q) (fun _ _ _ => trivial) (c_m_has (RS 26) (nI v1.toNatClampNeg)) eX8_204 rfl rfl (Nat.le_of_ble_eq_true rfl) ⟨Nat.le_of_ble_eq_true rfl, Nat.le_of_ble_eq_true rfl⟩ ⟨rfl, rfl⟩ ⟨Nat.le_of_ble_eq_true rfl, Nat.le_of_ble_eq_true rfl⟩ dX8_look_17 ?_
    refine lv_if_eq (tgt := 30) hx hb dX8_look_20 (by decide) (fun c_8 => ?_) (fun c_8 => ?_)
    · refine lv_ldc2 (v := (-2)) hx hb hown (hts _ kX8_293) dX8_look_30 ?_
      have hE : (m_look RA RS RN RL v1) = ((-2), (RA 22), (RA 36), (RA 37), (RA 39), RL, (RS 38)) := by rw [m_look, if_neg c_7, if_pos c_8]
      exact W.lret (v := (-2)) hx hb hr (fun t ht hW => ⟨by rw [hE], by rw [hE]; exact kB.of (ws := RWs cI ad (va_up (va_up (va_up (va_up RA 22 (RA 22)) 36 (RA 36)) 37 (RA 37)) 39 (RA 39)) (va_up RS 38 (RS 38)) RN RL) (RWs_conv rfl rfl rfl rfl rfl rfl rfl rfl rfl rfl rfl rfl rfl rfl rfl rfl rfl rfl rfl rfl rfl rfl rfl rfl rfl rfl rfl rfl rfl rfl rfl rfl rfl rfl rfl rfl rfl rfl rfl rfl rfl hP) hK hN ht hW, hS.F ht⟩) hS.2.2 dX8_look_33 hlocks
    · refine lv_aload_n hx hb dX8_look_23 rfl (lv_at hl 0 rfl) ?_
      refine m_get (v := .int (nI (RN 32))) hx hb hts hown hK hP 32 (by decide) rfl kX8_174 rfl dX8_look_24 ?_
      refine lv_if_ne (tgt := 34) hx hb dX8_look_27 (by decide) (fun c_9 => ?_) (fun c_9 => ?_)
      · refine lv_aload_n hx hb dX8_look_34 rfl (lv_at hl 0 rfl) ?_
        refine lv_iconst (v := 1) hx hb dX8_look_35 (by decide) ?_
        refine k_wV (r := (some (.int ((m_bestRow RA RS RN 1).1)))) (As := [.int 1]) (rest := []) hx hb hml hown hts hl.1 hP hK hN hS (c_m_bestRow hI 1 hM (mC_of hC rfl rfl rfl rfl rfl rfl) (by omega)) eX8_295 (ci := 7) (q0 := 0) rfl rfl rfl rfl rfl (Nat.le_of_ble_eq_true rfl) ⟨Nat.le_of_ble_eq_true rfl, Nat.le_of_ble_eq_true rfl⟩ ⟨rfl, rfl⟩ ⟨Nat.le_of_ble_eq_true rfl, Nat.le_of_ble_eq_true rfl⟩ dX8_look_36 (fun H locs hP hS => ?_)
        obtain ⟨r_10, hr_10⟩ : ∃ z, z = (m_bestRow RA RS RN 1) := ⟨_, rfl⟩
        rw [← hr_10] at hP
        rw [← hr_10]
        have hP : va_P (dC, dI) vwCl (RWs cI ad (va_up (va_up (va_up RA 36 r_10.2.1) 37 r_10.2.2.1) 39 r_10.2.2.2.1) (va_up RS 38 r_10.2.2.2.2.2) RN r_10.2.2.2.2.1) H := (RWs_conv rfl rfl rfl rfl rfl rfl rfl rfl rfl rfl rfl rfl rfl rfl rfl rfl rfl rfl rfl rfl rfl rfl rfl rfl rfl rfl rfl rfl rfl rfl rfl rfl rfl rfl rfl rfl rfl rfl rfl rfl rfl hP)
        refine lv_pop hx hb dX8_look_39 rfl ?_
        refine lv_aload_n hx hb dX8_look_40 rfl (lv_at hl 0 rfl) ?_
        refine m_get (v := .ref (ad 14)) hx hb hts hown hK hP 22 (by decide) rfl kX8_49 rfl dX8_look_41 ?_
        refine lv_iload_n hx hb dX8_look_44 rfl (lv_at hl 1 rfl) ?_
        refine kn_iald (f := (RA 22)) (v := (RA 22 v1.toNatClampNeg)) hx hb hK hP 14 rfl v1.toNatClampNeg rfl (by omega) (by omega) rfl dX8_look_45 ?_
        refine lv_istore_n (lv' := [(2, .int (RA 22 v1.toNatClampNeg)), (0, .ref (ad 0)), (1, .int (nI v1.toNatClampNeg))]) hx hb dX8_look_46 rfl hl (by decide) rfl (fun ls hl => ?_)
        refine lv_aload_n hx hb dX8_look_47 rfl (lv_at hl 1 rfl) ?_
        refine lv_iload_n hx hb dX8_look_48 rfl (lv_at hl 2 rfl) ?_
        refine k_rV (v := .int (m_chances (va_up (va_up (va_up RA 36 r_10.2.1) 37 r_10.2.2.1) 39 r_10.2.2.2.1) v1.toNatClampNeg)) (As := [.int (nI v1.toNatClampNeg)]) (rest := []) hx hb hml hown hts hl.1 hP hK hN (c_m_chances hI v1.toNatClampNeg hM (by omega)) eX8_218 (ci := 7) (q0 := 0) rfl rfl rfl rfl rfl (Nat.le_of_ble_eq_true rfl) ⟨Nat.le_of_ble_eq_true rfl, Nat.le_of_ble_eq_true rfl⟩ ⟨rfl, rfl⟩ ⟨Nat.le_of_ble_eq_true rfl, Nat.le_of_ble_eq_true rfl⟩ dX8_look_49 ?_
        refine lv_istore_n (lv' := [(3, .int (m_chances (va_up (va_up (va_up RA 36 r_10.2.1) 37 r_10.2.2.1) 39 r_10.2.2.2.1) v1.toNatClampNeg)), (2, .int (RA 22 v1.toNatClampNeg)), (0, .ref (ad 0)), (1, .int (nI v1.toNatClampNeg))]) hx hb dX8_look_52 rfl hl (by decide) rfl (fun ls hl => ?_)
        refine lv_aload_n hx hb dX8_look_53 rfl (lv_at hl 2 rfl) ?_
        refine m_get (v := .long r_10.2.2.2.2.1) hx hb hts hown hK hP 40 (by decide) rfl kX8_289 rfl dX8_look_54 ?_
        refine lv_iload_n hx hb dX8_look_57 rfl (lv_at hl 0 rfl) ?_
        refine lv_i2l (v := ((m_chances (va_up (va_up (va_up RA 36 r_10.2.1) 37 r_10.2.2.1) 39 r_10.2.2.2.1) v1.toNatClampNeg).toInt64)) hx hb dX8_look_58 rfl ?_
        refine lv_lmul hx hb dX8_look_59 ?_
        refine lv_lstore (lv' := [(4, .long (r_10.2.2.2.2.1 * ((m_chances (va_up (va_up (va_up RA 36 r_10.2.1) 37 r_10.2.2.1) 39 r_10.2.2.2.1) v1.toNatClampNeg).toInt64))), (3, .int (m_chances (va_up (va_up (va_up RA 36 r_10.2.1) 37 r_10.2.2.1) 39 r_10.2.2.2.1) v1.toNatClampNeg)), (2, .int (RA 22 v1.toNatClampNeg)), (0, .ref (ad 0)), (1, .int (nI v1.toNatClampNeg))]) hx hb dX8_look_60 hl (by decide) rfl (fun ls hl => ?_)
        refine lv_iconst (v := 0) hx hb dX8_look_62 (by decide) ?_
        refine lv_istore (lv' := [(6, .int 0), (4, .long (r_10.2.2.2.2.1 * ((m_chances (va_up (va_up (va_up RA 36 r_10.2.1) 37 r_10.2.2.1) 39 r_10.2.2.2.1) v1.toNatClampNeg).toInt64))), (3, .int (m_chances (va_up (va_up (va_up RA 36 r_10.2.1) 37 r_10.2.2.1) 39 r_10.2.2.2.1) v1.toNatClampNeg)), (2, .int (RA 22 v1.toNatClampNeg)), (0, .ref (ad 0)), (1, .int (nI v1.toNatClampNeg))]) hx hb dX8_look_63 hl (by decide) rfl (fun ls hl => ?_)
        have rest_65 : ∀ (x4_65 : Int64) (a22_65 : Nat → Int32) (a36_65 : Nat → Int32) (a37_65 : Nat → Int32) (a39_65 : Nat → Int32) (ll0_65 : Int64) (s38_65 : Int32), ∀ (H : Heap) (locs : List Loc) (ls : Array Slot), va_P (dC, dI) vwCl (RWs cI ad (va_up (va_up (va_up (va_up RA 22 a22_65) 36 a36_65) 37 a37_65) 39 a39_65) (va_up RS 38 s38_65) RN ll0_65) H → va_S (kAA ad 24) s.heap H locs → lv_has ls 7 [(0, .ref (ad 0)), (1, .int (nI v1.toNatClampNeg)), (2, .int (RA 22 v1.toNatClampNeg)), (3, .int (m_chances (va_up (va_up (va_up RA 36 r_10.2.1) 37 r_10.2.2.1) 39 r_10.2.2.2.1) v1.toNatClampNeg)), (4, .long x4_65)] → (m_look RA RS RN RL v1) = m_look_k65 a22_65 a36_65 a37_65 a39_65 ll0_65 s38_65 v1.toNatClampNeg (RA 22 v1.toNatClampNeg) (m_chances (va_up (va_up (va_up RA 36 r_10.2.1) 37 r_10.2.2.1) 39 r_10.2.2.2.1) v1.toNatClampNeg) x4_65 → W p l e ({ frames := 7, cells := 0, slots := 0, locals := 167 } : Room) s m args below meth c H locs 0 0 (MQ below (kQ (some (.long ((m_look RA RS RN RL v1).1))) (kB (dC, dI) [(cI, .int)] (RWs cI ad (va_up (va_up (va_up (va_up RA 22 ((m_look RA RS RN RL v1).2.1)) 36 ((m_look RA RS RN RL v1).2.2.1)) 37 ((m_look RA RS RN RL v1).2.2.2.1)) 39 ((m_look RA RS RN RL v1).2.2.2.2.1)) (va_up RS 38 ((m_look RA RS RN RL v1).2.2.2.2.2.2)) RN (m_look RA RS RN RL v1).2.2.2.2.2.1)) (kAA ad 24)) args s 0 0 (kAA ad 24)) (F0 m 143 ls []) := by
          intro x4_65 a22_65 a36_65 a37_65 a39_65 ll0_65 s38_65 H locs ls hP hS hl  hF_65
          refine lv_aload_n hx hb dX8_look_143 rfl (lv_at hl 0 rfl) ?_
          refine m_get (v := .ref (ad 14)) hx hb hts hown hK hP 22 (by decide) rfl kX8_49 rfl dX8_look_144 ?_
          refine lv_iload_n hx hb dX8_look_147 rfl (lv_at hl 1 rfl) ?_
          refine lv_iload_n hx hb dX8_look_148 rfl (lv_at hl 2 rfl) ?_
          refine kn_iast (f := a22_65) (ws' := RWs cI ad (va_up (va_up (va_up (va_up RA 22 (upd a22_65 v1.toNatClampNeg (RA 22 v1.toNatClampNeg))) 36 a36_65) 37 a37_65) 39 a39_65) (va_up RS 38 s38_65) RN ll0_65) hx hb hK hP (RWsD hI) hS 14 rfl v1.toNatClampNeg rfl (by omega) (by omega) rfl dX8_look_149 (fun H locs hP hS => ?_)
          refine lv_lload hx hb dX8_look_150 (lv_at hl 4 rfl) ?_
          refine lv_iload_n hx hb dX8_look_152 rfl (lv_at hl 3 rfl) ?_
          refine lv_i2l (v := ((m_chances (va_up (va_up (va_up RA 36 r_10.2.1) 37 r_10.2.2.1) 39 r_10.2.2.2.1) v1.toNatClampNeg).toInt64)) hx hb dX8_look_153 rfl ?_
          refine lv_ldiv hx hb dX8_look_154 (ki2l_ne (by refine m_ch_ne hC ?_ ?_ ?_ ?_ (by omega) (by assumption) <;> rfl)) ?_
          have hE : (m_look RA RS RN RL v1) = ((x4_65 / ((m_chances (va_up (va_up (va_up RA 36 r_10.2.1) 37 r_10.2.2.1) 39 r_10.2.2.2.1) v1.toNatClampNeg).toInt64)), (upd a22_65 v1.toNatClampNeg (RA 22 v1.toNatClampNeg)), a36_65, a37_65, a39_65, ll0_65, s38_65) := by subst hr_10; exact hF_65.trans (by rw [m_look_k65])
          exact W.lret (v := (x4_65 / ((m_chances (va_up (va_up (va_up RA 36 r_10.2.1) 37 r_10.2.2.1) 39 r_10.2.2.2.1) v1.toNatClampNeg).toInt64))) hx hb hr (fun t ht hW => ⟨by rw [hE], by rw [hE]; exact kB.of (ws := RWs cI ad (va_up (va_up (va_up (va_up RA 22 (upd a22_65 v1.toNatClampNeg (RA 22 v1.toNatClampNeg))) 36 a36_65) 37 a37_65) 39 a39_65) (va_up RS 38 s38_65) RN ll0_65) hP hK hN ht hW, hS.F ht⟩) hS.2.2 dX8_look_155 hlocks
        have hN_65 : ((RA 12 v1.toNatClampNeg).toNatClampNeg) < 2 ^ 31 := kcl_lt _
        have loop_65 : ∀ (n_65 i_65 : Nat) (x4_65 : Int64) (a22_65 : Nat → Int32) (a36_65 : Nat → Int32) (a37_65 : Nat → Int32) (a39_65 : Nat → Int32) (ll0_65 : Int64) (s38_65 : Int32), i_65 + n_65 = (RA 12 v1.toNatClampNeg).toNatClampNeg → ∀ (H : Heap) (locs : List Loc) (ls : Array Slot), va_P (dC, dI) vwCl (RWs cI ad (va_up (va_up (va_up (va_up RA 22 a22_65) 36 a36_65) 37 a37_65) 39 a39_65) (va_up RS 38 s38_65) RN ll0_65) H → va_S (kAA ad 24) s.heap H locs → lv_has ls 7 [(0, .ref (ad 0)), (1, .int (nI v1.toNatClampNeg)), (2, .int (RA 22 v1.toNatClampNeg)), (3, .int (m_chances (va_up (va_up (va_up RA 36 r_10.2.1) 37 r_10.2.2.1) 39 r_10.2.2.2.1) v1.toNatClampNeg)), (4, .long x4_65), (6, .int (nI i_65))] → (∀ j, j ≠ v1.toNatClampNeg → a22_65 j = RA 22 j) → (∀ (H : Heap) (locs : List Loc) (ls : Array Slot), va_P (dC, dI) vwCl (RWs cI ad (va_up (va_up (va_up (va_up RA 22 ((m_look_L65 RA RS RN v1.toNatClampNeg (RA 22 v1.toNatClampNeg) n_65 i_65 x4_65 a22_65 a36_65 a37_65 a39_65 ll0_65 s38_65).2.1)) 36 ((m_look_L65 RA RS RN v1.toNatClampNeg (RA 22 v1.toNatClampNeg) n_65 i_65 x4_65 a22_65 a36_65 a37_65 a39_65 ll0_65 s38_65).2.2.1)) 37 ((m_look_L65 RA RS RN v1.toNatClampNeg (RA 22 v1.toNatClampNeg) n_65 i_65 x4_65 a22_65 a36_65 a37_65 a39_65 ll0_65 s38_65).2.2.2.1)) 39 ((m_look_L65 RA RS RN v1.toNatClampNeg (RA 22 v1.toNatClampNeg) n_65 i_65 x4_65 a22_65 a36_65 a37_65 a39_65 ll0_65 s38_65).2.2.2.2.1)) (va_up RS 38 ((m_look_L65 RA RS RN v1.toNatClampNeg (RA 22 v1.toNatClampNeg) n_65 i_65 x4_65 a22_65 a36_65 a37_65 a39_65 ll0_65 s38_65).2.2.2.2.2.2)) RN (m_look_L65 RA RS RN v1.toNatClampNeg (RA 22 v1.toNatClampNeg) n_65 i_65 x4_65 a22_65 a36_65 a37_65 a39_65 ll0_65 s38_65).2.2.2.2.2.1) H → va_S (kAA ad 24) s.heap H locs → lv_has ls 7 [(0, .ref (ad 0)), (1, .int (nI v1.toNatClampNeg)), (2, .int (RA 22 v1.toNatClampNeg)), (3, .int (m_chances (va_up (va_up (va_up RA 36 r_10.2.1) 37 r_10.2.2.1) 39 r_10.2.2.2.1) v1.toNatClampNeg)), (4, .long ((m_look_L65 RA RS RN v1.toNatClampNeg (RA 22 v1.toNatClampNeg) n_65 i_65 x4_65 a22_65 a36_65 a37_65 a39_65 ll0_65 s38_65).1))] → W p l e ({ frames := 7, cells := 0, slots := 0, locals := 167 } : Room) s m args below meth c H locs 0 0 (MQ below (kQ (some (.long ((m_look RA RS RN RL v1).1))) (kB (dC, dI) [(cI, .int)] (RWs cI ad (va_up (va_up (va_up (va_up RA 22 ((m_look RA RS RN RL v1).2.1)) 36 ((m_look RA RS RN RL v1).2.2.1)) 37 ((m_look RA RS RN RL v1).2.2.2.1)) 39 ((m_look RA RS RN RL v1).2.2.2.2.1)) (va_up RS 38 ((m_look RA RS RN RL v1).2.2.2.2.2.2)) RN (m_look RA RS RN RL v1).2.2.2.2.2.1)) (kAA ad 24)) args s 0 0 (kAA ad 24)) (F0 m 143 ls [])) → W p l e ({ frames := 7, cells := 0, slots := 0, locals := 167 } : Room) s m args below meth c H locs 0 0 (MQ below (kQ (some (.long ((m_look RA RS RN RL v1).1))) (kB (dC, dI) [(cI, .int)] (RWs cI ad (va_up (va_up (va_up (va_up RA 22 ((m_look RA RS RN RL v1).2.1)) 36 ((m_look RA RS RN RL v1).2.2.1)) 37 ((m_look RA RS RN RL v1).2.2.2.1)) 39 ((m_look RA RS RN RL v1).2.2.2.2.1)) (va_up RS 38 ((m_look RA RS RN RL v1).2.2.2.2.2.2)) RN (m_look RA RS RN RL v1).2.2.2.2.2.1)) (kAA ad 24)) args s 0 0 (kAA ad 24)) (F0 m 65 ls []) := by
          intro n_65
          induction n_65 with
          | zero =>
            intro i_65 x4_65 a22_65 a36_65 a37_65 a39_65 ll0_65 s38_65 hin_65 H locs ls hP hS hl hinv_65a hk_65
            refine lv_iload hx hb dX8_look_65 (lv_at hl 5 rfl) ?_
            refine lv_aload_n hx hb dX8_look_67 rfl (lv_at hl 0 rfl) ?_
            refine m_get (v := .ref (ad 10)) hx hb hts hown hK hP 12 (by decide) rfl kX8_37 rfl dX8_look_68 ?_
            refine lv_iload_n hx hb dX8_look_71 rfl (lv_at hl 1 rfl) ?_
            refine kn_iald (f := (RA 12)) (v := (RA 12 v1.toNatClampNeg)) hx hb hK hP 10 rfl v1.toNatClampNeg rfl (by omega) (by omega) rfl dX8_look_72 ?_
            refine lv_icmp_ge (tgt := 143) hx hb dX8_look_73 (by decide) (fun _ => ?_) (fun c_11 => absurd (kct_ge (N := (RA 12 v1.toNatClampNeg).toNatClampNeg) rfl (by omega) (by omega)) c_11)
            have hL_65 : (m_look_L65 RA RS RN v1.toNatClampNeg (RA 22 v1.toNatClampNeg) 0 i_65 x4_65 a22_65 a36_65 a37_65 a39_65 ll0_65 s38_65) = (x4_65, a22_65, a36_65, a37_65, a39_65, ll0_65, s38_65) := by subst hr_10; rw [m_look_L65.eq_1]
            try rw [hL_65] at hk_65
            exact hk_65 _ _ _ hP hS (lv_sub hl [0, 1, 2, 3, 4] rfl) 
          | succ n_65 ih_65 =>
            intro i_65 x4_65 a22_65 a36_65 a37_65 a39_65 ll0_65 s38_65 hin_65 H locs ls hP hS hl hinv_65a hk_65
            have h12 := mI_bm hM v1.toNatClampNeg (by omega)
            refine lv_iload hx hb dX8_look_65 (lv_at hl 5 rfl) ?_
            refine lv_aload_n hx hb dX8_look_67 rfl (lv_at hl 0 rfl) ?_
            refine m_get (v := .ref (ad 10)) hx hb hts hown hK hP 12 (by decide) rfl kX8_37 rfl dX8_look_68 ?_
            refine lv_iload_n hx hb dX8_look_71 rfl (lv_at hl 1 rfl) ?_
            refine kn_iald (f := (RA 12)) (v := (RA 12 v1.toNatClampNeg)) hx hb hK hP 10 rfl v1.toNatClampNeg rfl (by omega) (by omega) rfl dX8_look_72 ?_
            refine lv_icmp_ge (tgt := 143) hx hb dX8_look_73 (by decide) (fun c_12 => absurd c_12 (kct_lt (N := (RA 12 v1.toNatClampNeg).toNatClampNeg) rfl (by omega))) (fun _ => ?_)
            refine lv_iload_n hx hb dX8_look_76 rfl (lv_at hl 2 rfl) ?_
            refine lv_iload hx hb dX8_look_77 (lv_at hl 5 rfl) ?_
            refine k_rS (v := .int (m_has (RA 22 v1.toNatClampNeg) (nI i_65))) (As := [.int (RA 22 v1.toNatClampNeg), .int (nI i_65)]) (rest := []) hx hb hml hown hts hl.1 (B := fun _ => True) (fun _ _ _ _ q => q) (fun _ _ _ => trivial) (c_m_has (RA 22 v1.toNatClampNeg) (nI i_65)) eX8_204 rfl rfl (Nat.le_of_ble_eq_true rfl) ⟨Nat.le_of_ble_eq_true rfl, Nat.le_of_ble_eq_true rfl⟩ ⟨rfl, rfl⟩ ⟨Nat.le_of_ble_eq_true rfl, Nat.le_of_ble_eq_true rfl⟩ dX8_look_79 ?_
            refine lv_if_eq (tgt := 137) hx hb dX8_look_82 (by decide) (fun c_13 => ?_) (fun c_13 => ?_)
            · refine lv_iinc (v := (nI (i_65 + 1))) (lv' := [(6, .int (nI (i_65 + 1))), (0, .ref (ad 0)), (1, .int (nI v1.toNatClampNeg)), (2, .int (RA 22 v1.toNatClampNeg)), (3, .int (m_chances (va_up (va_up (va_up RA 36 r_10.2.1) 37 r_10.2.2.1) 39 r_10.2.2.2.1) v1.toNatClampNeg)), (4, .long x4_65)]) hx hb dX8_look_137 hl (k := 5) rfl (nI_add _ _) (by decide) rfl (fun ls hl => ?_)
              refine lv_goto (tgt := 65) hx hb dX8_look_140 (by decide) ?_
              have hL_65 : (m_look_L65 RA RS RN v1.toNatClampNeg (RA 22 v1.toNatClampNeg) (n_65 + 1) i_65 x4_65 a22_65 a36_65 a37_65 a39_65 ll0_65 s38_65) = (m_look_L65 RA RS RN v1.toNatClampNeg (RA 22 v1.toNatClampNeg) n_65 (i_65 + 1) x4_65 a22_65 a36_65 a37_65 a39_65 ll0_65 s38_65) := by subst hr_10; rw [m_look_L65.eq_2, if_pos c_13]
              try rw [hL_65] at hk_65
              exact ih_65 (i_65 + 1) x4_65 a22_65 a36_65 a37_65 a39_65 ll0_65 s38_65 (by omega) _ _ _ hP hS (lv_sub hl [1, 2, 3, 4, 5, 0] rfl) (by first | exact hinv_65a | exact fun j hj => (pk_un hj).trans (hinv_65a j hj)) hk_65
            · refine lv_aload_n hx hb dX8_look_85 rfl (lv_at hl 0 rfl) ?_
              refine m_get (v := .ref (ad 9)) hx hb hts hown hK hP 11 (by decide) rfl kX8_34 rfl dX8_look_86 ?_
              refine lv_iconst (v := 4) hx hb dX8_look_89 (by decide) ?_
              refine lv_iload_n hx hb dX8_look_90 rfl (lv_at hl 1 rfl) ?_
              refine kn_imul hx hb 4 v1.toNatClampNeg rfl rfl dX8_look_91 ?_
              refine lv_iload hx hb dX8_look_92 (lv_at hl 5 rfl) ?_
              refine kn_iadd hx hb (4 * v1.toNatClampNeg) i_65 rfl rfl dX8_look_94 ?_
              refine kn_iald (f := (RA 11)) (v := (RA 11 ((4 * v1.toNatClampNeg) + i_65))) hx hb hK hP 9 rfl ((4 * v1.toNatClampNeg) + i_65) rfl (by omega) (by omega) rfl dX8_look_95 ?_
              refine lv_if_le (tgt := 137) hx hb dX8_look_96 (by decide) (fun c_14 => ?_) (fun c_14 => ?_)
              · refine lv_iinc (v := (nI (i_65 + 1))) (lv' := [(6, .int (nI (i_65 + 1))), (0, .ref (ad 0)), (1, .int (nI v1.toNatClampNeg)), (2, .int (RA 22 v1.toNatClampNeg)), (3, .int (m_chances (va_up (va_up (va_up RA 36 r_10.2.1) 37 r_10.2.2.1) 39 r_10.2.2.2.1) v1.toNatClampNeg)), (4, .long x4_65)]) hx hb dX8_look_137 hl (k := 5) rfl (nI_add _ _) (by decide) rfl (fun ls hl => ?_)
                refine lv_goto (tgt := 65) hx hb dX8_look_140 (by decide) ?_
                have hL_65 : (m_look_L65 RA RS RN v1.toNatClampNeg (RA 22 v1.toNatClampNeg) (n_65 + 1) i_65 x4_65 a22_65 a36_65 a37_65 a39_65 ll0_65 s38_65) = (m_look_L65 RA RS RN v1.toNatClampNeg (RA 22 v1.toNatClampNeg) n_65 (i_65 + 1) x4_65 a22_65 a36_65 a37_65 a39_65 ll0_65 s38_65) := by subst hr_10; rw [m_look_L65.eq_2, if_neg c_13, if_pos c_14]
                try rw [hL_65] at hk_65
                exact ih_65 (i_65 + 1) x4_65 a22_65 a36_65 a37_65 a39_65 ll0_65 s38_65 (by omega) _ _ _ hP hS (lv_sub hl [1, 2, 3, 4, 5, 0] rfl) (by first | exact hinv_65a | exact fun j hj => (pk_un hj).trans (hinv_65a j hj)) hk_65
              · refine lv_aload_n hx hb dX8_look_99 rfl (lv_at hl 0 rfl) ?_
                refine m_get (v := .ref (ad 14)) hx hb hts hown hK hP 22 (by decide) rfl kX8_49 rfl dX8_look_100 ?_
                refine lv_iload_n hx hb dX8_look_103 rfl (lv_at hl 1 rfl) ?_
                refine lv_iconst (v := 1) hx hb dX8_look_104 (by decide) ?_
                refine lv_iload hx hb dX8_look_105 (lv_at hl 5 rfl) ?_
                refine lv_ishl hx hb dX8_look_107 ?_
                refine kn_iast (f := a22_65) (ws' := RWs cI ad (va_up (va_up (va_up (va_up RA 22 (upd a22_65 v1.toNatClampNeg (1 <<< ((nI i_65) &&& 31)))) 36 a36_65) 37 a37_65) 39 a39_65) (va_up RS 38 s38_65) RN ll0_65) hx hb hK hP (RWsD hI) hS 14 rfl v1.toNatClampNeg rfl (by omega) (by omega) rfl dX8_look_108 (fun H locs hP hS => ?_)
                refine lv_aload_n hx hb dX8_look_109 rfl (lv_at hl 0 rfl) ?_
                refine lv_iconst (v := 1) hx hb dX8_look_110 (by decide) ?_
                refine k_wV (r := (some (.int ((m_bestRow (va_up (va_up (va_up (va_up RA 22 (upd a22_65 v1.toNatClampNeg (1 <<< ((nI i_65) &&& 31)))) 36 a36_65) 37 a37_65) 39 a39_65) (va_up RS 38 s38_65) RN 1).1)))) (As := [.int 1]) (rest := []) hx hb hml hown hts hl.1 hP hK hN hS (c_m_bestRow hI 1 hM (mC_look hM hC (by omega) hinv_65a (by omega) (by assumption) rfl rfl rfl rfl rfl rfl) (by omega)) eX8_295 (ci := 7) (q0 := 0) rfl rfl rfl rfl rfl (Nat.le_of_ble_eq_true rfl) ⟨Nat.le_of_ble_eq_true rfl, Nat.le_of_ble_eq_true rfl⟩ ⟨rfl, rfl⟩ ⟨Nat.le_of_ble_eq_true rfl, Nat.le_of_ble_eq_true rfl⟩ dX8_look_111 (fun H locs hP hS => ?_)
                obtain ⟨r_15, hr_15⟩ : ∃ z, z = (m_bestRow (va_up (va_up (va_up (va_up RA 22 (upd a22_65 v1.toNatClampNeg (1 <<< ((nI i_65) &&& 31)))) 36 a36_65) 37 a37_65) 39 a39_65) (va_up RS 38 s38_65) RN 1) := ⟨_, rfl⟩
                rw [← hr_15] at hP
                rw [← hr_15]
                have hP : va_P (dC, dI) vwCl (RWs cI ad (va_up (va_up (va_up (va_up RA 22 (upd a22_65 v1.toNatClampNeg (1 <<< ((nI i_65) &&& 31)))) 36 r_15.2.1) 37 r_15.2.2.1) 39 r_15.2.2.2.1) (va_up RS 38 r_15.2.2.2.2.2) RN r_15.2.2.2.2.1) H := (RWs_conv rfl rfl rfl rfl rfl rfl rfl rfl rfl rfl rfl rfl rfl rfl rfl rfl rfl rfl rfl rfl rfl rfl rfl rfl rfl rfl rfl rfl rfl rfl rfl rfl rfl rfl rfl rfl rfl rfl rfl rfl rfl hP)
                refine lv_pop hx hb dX8_look_114 rfl ?_
                refine lv_lload hx hb dX8_look_115 (lv_at hl 4 rfl) ?_
                refine lv_aload_n hx hb dX8_look_117 rfl (lv_at hl 0 rfl) ?_
                refine m_get (v := .ref (ad 9)) hx hb hts hown hK hP 11 (by decide) rfl kX8_34 rfl dX8_look_118 ?_
                refine lv_iconst (v := 4) hx hb dX8_look_121 (by decide) ?_
                refine lv_iload_n hx hb dX8_look_122 rfl (lv_at hl 1 rfl) ?_
                refine kn_imul hx hb 4 v1.toNatClampNeg rfl rfl dX8_look_123 ?_
                refine lv_iload hx hb dX8_look_124 (lv_at hl 5 rfl) ?_
                refine kn_iadd hx hb (4 * v1.toNatClampNeg) i_65 rfl rfl dX8_look_126 ?_
                refine kn_iald (f := (RA 11)) (v := (RA 11 ((4 * v1.toNatClampNeg) + i_65))) hx hb hK hP 9 rfl ((4 * v1.toNatClampNeg) + i_65) rfl (by omega) (by omega) rfl dX8_look_127 ?_
                refine lv_i2l (v := ((RA 11 ((4 * v1.toNatClampNeg) + i_65)).toInt64)) hx hb dX8_look_128 rfl ?_
                refine lv_aload_n hx hb dX8_look_129 rfl (lv_at hl 0 rfl) ?_
                refine m_get (v := .long r_15.2.2.2.2.1) hx hb hts hown hK hP 40 (by decide) rfl kX8_289 rfl dX8_look_130 ?_
                refine lv_lmul hx hb dX8_look_133 ?_
                refine lv_lsub hx hb dX8_look_134 ?_
                refine lv_lstore (lv' := [(4, .long (x4_65 - (((RA 11 ((4 * v1.toNatClampNeg) + i_65)).toInt64) * r_15.2.2.2.2.1))), (0, .ref (ad 0)), (1, .int (nI v1.toNatClampNeg)), (2, .int (RA 22 v1.toNatClampNeg)), (3, .int (m_chances (va_up (va_up (va_up RA 36 r_10.2.1) 37 r_10.2.2.1) 39 r_10.2.2.2.1) v1.toNatClampNeg)), (6, .int (nI i_65))]) hx hb dX8_look_135 hl (by decide) rfl (fun ls hl => ?_)
                refine lv_iinc (v := (nI (i_65 + 1))) (lv' := [(6, .int (nI (i_65 + 1))), (4, .long (x4_65 - (((RA 11 ((4 * v1.toNatClampNeg) + i_65)).toInt64) * r_15.2.2.2.2.1))), (0, .ref (ad 0)), (1, .int (nI v1.toNatClampNeg)), (2, .int (RA 22 v1.toNatClampNeg)), (3, .int (m_chances (va_up (va_up (va_up RA 36 r_10.2.1) 37 r_10.2.2.1) 39 r_10.2.2.2.1) v1.toNatClampNeg))]) hx hb dX8_look_137 hl (k := 5) rfl (nI_add _ _) (by decide) rfl (fun ls hl => ?_)
                refine lv_goto (tgt := 65) hx hb dX8_look_140 (by decide) ?_
                have hL_65 : (m_look_L65 RA RS RN v1.toNatClampNeg (RA 22 v1.toNatClampNeg) (n_65 + 1) i_65 x4_65 a22_65 a36_65 a37_65 a39_65 ll0_65 s38_65) = (m_look_L65 RA RS RN v1.toNatClampNeg (RA 22 v1.toNatClampNeg) n_65 (i_65 + 1) (x4_65 - (((RA 11 ((4 * v1.toNatClampNeg) + i_65)).toInt64) * r_15.2.2.2.2.1)) (upd a22_65 v1.toNatClampNeg (1 <<< ((nI i_65) &&& 31))) r_15.2.1 r_15.2.2.1 r_15.2.2.2.1 r_15.2.2.2.2.1 r_15.2.2.2.2.2) := by subst hr_15; subst hr_10; rw [m_look_L65.eq_2, if_neg c_13, if_neg c_14]
                try rw [hL_65] at hk_65
                exact ih_65 (i_65 + 1) (x4_65 - (((RA 11 ((4 * v1.toNatClampNeg) + i_65)).toInt64) * r_15.2.2.2.2.1)) (upd a22_65 v1.toNatClampNeg (1 <<< ((nI i_65) &&& 31))) r_15.2.1 r_15.2.2.1 r_15.2.2.2.1 r_15.2.2.2.2.1 r_15.2.2.2.2.2 (by omega) _ _ _ hP hS (lv_sub hl [2, 3, 4, 5, 1, 0] rfl) (by first | exact hinv_65a | exact fun j hj => (pk_un hj).trans (hinv_65a j hj)) hk_65
        have hP : va_P (dC, dI) vwCl (RWs cI ad (va_up (va_up (va_up (va_up RA 22 (RA 22)) 36 r_10.2.1) 37 r_10.2.2.1) 39 r_10.2.2.2.1) (va_up RS 38 r_10.2.2.2.2.2) RN r_10.2.2.2.2.1) H := (RWs_conv rfl rfl rfl rfl rfl rfl rfl rfl rfl rfl rfl rfl rfl rfl rfl rfl rfl rfl rfl rfl rfl rfl rfl rfl rfl rfl rfl rfl rfl rfl rfl rfl rfl rfl rfl rfl rfl rfl rfl rfl rfl hP)
        exact loop_65 ((RA 12 v1.toNatClampNeg).toNatClampNeg) 0 (r_10.2.2.2.2.1 * ((m_chances (va_up (va_up (va_up RA 36 r_10.2.1) 37 r_10.2.2.1) 39 r_10.2.2.2.1) v1.toNatClampNeg).toInt64)) (RA 22) r_10.2.1 r_10.2.2.1 r_10.2.2.2.1 r_10.2.2.2.2.1 r_10.2.2.2.2.2 (by omega) _ _ _ hP hS (lv_sub hl [4, 5, 3, 2, 1, 0] rfl) (fun _ _ => rfl) (fun H locs ls hP hS hl  => rest_65 (m_look_L65 RA RS RN v1.toNatClampNeg (RA 22 v1.toNatClampNeg) ((RA 12 v1.toNatClampNeg).toNatClampNeg) 0 (r_10.2.2.2.2.1 * ((m_chances (va_up (va_up (va_up RA 36 r_10.2.1) 37 r_10.2.2.1) 39 r_10.2.2.2.1) v1.toNatClampNeg).toInt64)) (RA 22) r_10.2.1 r_10.2.2.1 r_10.2.2.2.1 r_10.2.2.2.2.1 r_10.2.2.2.2.2).1 (m_look_L65 RA RS RN v1.toNatClampNeg (RA 22 v1.toNatClampNeg) ((RA 12 v1.toNatClampNeg).toNatClampNeg) 0 (r_10.2.2.2.2.1 * ((m_chances (va_up (va_up (va_up RA 36 r_10.2.1) 37 r_10.2.2.1) 39 r_10.2.2.2.1) v1.toNatClampNeg).toInt64)) (RA 22) r_10.2.1 r_10.2.2.1 r_10.2.2.2.1 r_10.2.2.2.2.1 r_10.2.2.2.2.2).2.1 (m_look_L65 RA RS RN v1.toNatClampNeg (RA 22 v1.toNatClampNeg) ((RA 12 v1.toNatClampNeg).toNatClampNeg) 0 (r_10.2.2.2.2.1 * ((m_chances (va_up (va_up (va_up RA 36 r_10.2.1) 37 r_10.2.2.1) 39 r_10.2.2.2.1) v1.toNatClampNeg).toInt64)) (RA 22) r_10.2.1 r_10.2.2.1 r_10.2.2.2.1 r_10.2.2.2.2.1 r_10.2.2.2.2.2).2.2.1 (m_look_L65 RA RS RN v1.toNatClampNeg (RA 22 v1.toNatClampNeg) ((RA 12 v1.toNatClampNeg).toNatClampNeg) 0 (r_10.2.2.2.2.1 * ((m_chances (va_up (va_up (va_up RA 36 r_10.2.1) 37 r_10.2.2.1) 39 r_10.2.2.2.1) v1.toNatClampNeg).toInt64)) (RA 22) r_10.2.1 r_10.2.2.1 r_10.2.2.2.1 r_10.2.2.2.2.1 r_10.2.2.2.2.2).2.2.2.1 (m_look_L65 RA RS RN v1.toNatClampNeg (RA 22 v1.toNatClampNeg) ((RA 12 v1.toNatClampNeg).toNatClampNeg) 0 (r_10.2.2.2.2.1 * ((m_chances (va_up (va_up (va_up RA 36 r_10.2.1) 37 r_10.2.2.1) 39 r_10.2.2.2.1) v1.toNatClampNeg).toInt64)) (RA 22) r_10.2.1 r_10.2.2.1 r_10.2.2.2.1 r_10.2.2.2.2.1 r_10.2.2.2.2.2).2.2.2.2.1 (m_look_L65 RA RS RN v1.toNatClampNeg (RA 22 v1.toNatClampNeg) ((RA 12 v1.toNatClampNeg).toNatClampNeg) 0 (r_10.2.2.2.2.1 * ((m_chances (va_up (va_up (va_up RA 36 r_10.2.1) 37 r_10.2.2.1) 39 r_10.2.2.2.1) v1.toNatClampNeg).toInt64)) (RA 22) r_10.2.1 r_10.2.2.1 r_10.2.2.2.1 r_10.2.2.2.2.1 r_10.2.2.2.2.2).2.2.2.2.2.1 (m_look_L65 RA RS RN v1.toNatClampNeg (RA 22 v1.toNatClampNeg) ((RA 12 v1.toNatClampNeg).toNatClampNeg) 0 (r_10.2.2.2.2.1 * ((m_chances (va_up (va_up (va_up RA 36 r_10.2.1) 37 r_10.2.2.1) 39 r_10.2.2.2.1) v1.toNatClampNeg).toInt64)) (RA 22) r_10.2.1 r_10.2.2.1 r_10.2.2.2.1 r_10.2.2.2.2.1 r_10.2.2.2.2.2).2.2.2.2.2.2 _ _ _ hP hS hl  (by subst hr_10; rw [m_look, if_neg c_7, if_neg c_8, if_neg c_9]))
      · refine lv_ldc2 (v := (-2)) hx hb hown (hts _ kX8_293) dX8_look_30 ?_
        have hE : (m_look RA RS RN RL v1) = ((-2), (RA 22), (RA 36), (RA 37), (RA 39), RL, (RS 38)) := by rw [m_look, if_neg c_7, if_neg c_8, if_pos c_9]
        exact W.lret (v := (-2)) hx hb hr (fun t ht hW => ⟨by rw [hE], by rw [hE]; exact kB.of (ws := RWs cI ad (va_up (va_up (va_up (va_up RA 22 (RA 22)) 36 (RA 36)) 37 (RA 37)) 39 (RA 39)) (va_up RS 38 (RS 38)) RN RL) (RWs_conv rfl rfl rfl rfl rfl rfl rfl rfl rfl rfl rfl rfl rfl rfl rfl rfl rfl rfl rfl rfl rfl rfl rfl rfl rfl rfl rfl rfl rfl rfl rfl rfl rfl rfl rfl rfl rfl rfl rfl rfl rfl hP) hK hN ht hW, hS.F ht⟩) hS.2.2 dX8_look_33 hlocks
  · refine lv_ldc2 (v := (-1)) hx hb hown (hts _ kX8_224) dX8_look_8 ?_
    have hE : (m_look RA RS RN RL v1) = ((-1), (RA 22), (RA 36), (RA 37), (RA 39), RL, (RS 38)) := by rw [m_look, if_pos c_7]
    exact W.lret (v := (-1)) hx hb hr (fun t ht hW => ⟨by rw [hE], by rw [hE]; exact kB.of (ws := RWs cI ad (va_up (va_up (va_up (va_up RA 22 (RA 22)) 36 (RA 36)) 37 (RA 37)) 39 (RA 39)) (va_up RS 38 (RS 38)) RN RL) (RWs_conv rfl rfl rfl rfl rfl rfl rfl rfl rfl rfl rfl rfl rfl rfl rfl rfl rfl rfl rfl rfl rfl rfl rfl rfl rfl rfl rfl rfl rfl rfl rfl rfl rfl rfl rfl rfl rfl rfl rfl rfl rfl hP) hK hN ht hW, hS.F ht⟩) hS.2.2 dX8_look_11 hlocks
-- X8_drawBears
def m_drawBears_k2 (a41 : Nat → Int32) : (Nat → Int32) := a41
def m_drawBears_b2_k42 (RA : Nat → Nat → Int32) (a41 : Nat → Int32) (v2 : Nat) (v4 : Int32) : (Nat → Int32) := (upd a41 v2 (RA 10 ((4 * v2) + v4.toNatClampNeg)))
def m_drawBears_L42 (RA : Nat → Nat → Int32) (v2 : Nat) : Nat → Nat → Int32 → Int32 → Int32 × Int32
  | 0, i, v3, v4 => (v3, v4)
  | n + 1, i, v3, v4 => if v4 = (-4) then (if (m_has (RA 22 v2) (nI i)) = 0 then (if 0 ≤ v3 then m_drawBears_L42 RA v2 n (i + 1) (v3 - 0) (-4) else m_drawBears_L42 RA v2 n (i + 1) (v3 - 0) (nI i)) else (if (RA 11 ((4 * v2) + i)) ≤ v3 then m_drawBears_L42 RA v2 n (i + 1) (v3 - (RA 11 ((4 * v2) + i))) (-4) else m_drawBears_L42 RA v2 n (i + 1) (v3 - (RA 11 ((4 * v2) + i))) (nI i))) else (v3, v4)
def m_drawBears_b2 (RA : Nat → Nat → Int32) (RS : Nat → Int32) (v1 : Int32) (i : Nat) (a41 : Nat → Int32) : (Nat → Int32) := if (m_has (RS 26) (nI i)) = 0 then a41 else m_drawBears_b2_k42 RA a41 i (m_drawBears_L42 RA i ((RA 12 i).toNatClampNeg) 0 ((m_draw v1 (nI i) 99) - (m_draw v1 (nI i) 99) / (m_chances (va_up RA 41 a41) i) * (m_chances (va_up RA 41 a41) i)) (-4)).2
def m_drawBears_L2 (RA : Nat → Nat → Int32) (RS : Nat → Int32) (v1 : Int32) : Nat → Nat → (Nat → Int32) → (Nat → Int32)
  | 0, i, a41 => a41
  | n + 1, i, a41 => m_drawBears_L2 RA RS v1 n (i + 1) (m_drawBears_b2 RA RS v1 i a41)
def m_drawBears (RA : Nat → Nat → Int32) (RS : Nat → Int32) (RN : Nat → Nat) (v1 : Int32) : (Nat → Int32) := m_drawBears_k2 (m_drawBears_L2 RA RS v1 (RN 4) 0 (RA 41))
set_option maxHeartbeats 4000000 in
set_option maxRecDepth 100000 in
theorem c_m_drawBears (hI : kInj ad 24) (v1 : Int32) (hM : mI RA RS RN) (hC : mC RA RS RN) (hz : 0 ≤ v1.toInt ∧ v1.toInt ≤ 9999) : Met l yX8_drawBears (.code yX8_drawBears cX8_drawBears 7 none :: kT) ({ frames := 3, cells := 0, slots := 0, locals := 66 } : Room) (va_Pc [.ref (ad 0), .int v1] (kB (dC, dI) [(cI, .int)] (RWs cI ad RA RS RN RL))) (kQ none (kB (dC, dI) [(cI, .int)] (RWs cI ad (va_up RA 41 (m_drawBears RA RS RN v1)) RS RN RL)) (kAA ad 24)) 0 0 (kAA ad 24) := by
  refine kMet (by decide) (fun p e s m args below meth c ls hx hb hr hml hts hown hlocks hname hargs hB hl => ?_) (Nat.le_of_ble_eq_true rfl)
  obtain ⟨hP, hK, hN⟩ := hB
  have hl : lv_has ls 7 [(0, .ref (ad 0)), (1, .int v1)] := hl
  have hS : va_S (kAA ad 24) s.heap s.heap [] := va_S.rf
  have h4 : RN 4 ≤ 8 := mI_many hM
  refine lv_iconst (v := 0) hx hb dX8_drawBears_0 (by decide) ?_
  refine lv_istore_n (lv' := [(2, .int 0), (0, .ref (ad 0)), (1, .int v1)]) hx hb dX8_drawBears_1 rfl hl (by decide) rfl (fun ls hl => ?_)
  have rest_2 : ∀ (a41_2 : Nat → Int32), ∀ (H : Heap) (locs : List Loc) (ls : Array Slot), va_P (dC, dI) vwCl (RWs cI ad (va_up RA 41 a41_2) RS RN RL) H → va_S (kAA ad 24) s.heap H locs → lv_has ls 7 [] → (m_drawBears RA RS RN v1) = m_drawBears_k2 a41_2 → W p l e ({ frames := 3, cells := 0, slots := 0, locals := 66 } : Room) s m args below meth c H locs 0 0 (MQ below (kQ none (kB (dC, dI) [(cI, .int)] (RWs cI ad (va_up RA 41 (m_drawBears RA RS RN v1)) RS RN RL)) (kAA ad 24)) args s 0 0 (kAA ad 24)) (F0 m 140 ls []) := by
    intro a41_2 H locs ls hP hS hl  hF_2
    have hE : (m_drawBears RA RS RN v1) = a41_2 := hF_2.trans (by rw [m_drawBears_k2])
    exact W.vret hx hb hr (fun t ht hW => ⟨rfl, by rw [hE]; exact kB.of (ws := RWs cI ad (va_up RA 41 a41_2) RS RN RL) hP hK hN ht hW, hS.F ht⟩) hS.2.2 dX8_drawBears_140 hlocks
  have loop_2 : ∀ (n_2 i_2 : Nat) (a41_2 : Nat → Int32), i_2 + n_2 = (RN 4) → ∀ (H : Heap) (locs : List Loc) (ls : Array Slot), va_P (dC, dI) vwCl (RWs cI ad (va_up RA 41 a41_2) RS RN RL) H → va_S (kAA ad 24) s.heap H locs → lv_has ls 7 [(0, .ref (ad 0)), (1, .int v1), (2, .int (nI i_2))] → (∀ (H : Heap) (locs : List Loc) (ls : Array Slot), va_P (dC, dI) vwCl (RWs cI ad (va_up RA 41 (m_drawBears_L2 RA RS v1 n_2 i_2 a41_2)) RS RN RL) H → va_S (kAA ad 24) s.heap H locs → lv_has ls 7 [] → W p l e ({ frames := 3, cells := 0, slots := 0, locals := 66 } : Room) s m args below meth c H locs 0 0 (MQ below (kQ none (kB (dC, dI) [(cI, .int)] (RWs cI ad (va_up RA 41 (m_drawBears RA RS RN v1)) RS RN RL)) (kAA ad 24)) args s 0 0 (kAA ad 24)) (F0 m 140 ls [])) → W p l e ({ frames := 3, cells := 0, slots := 0, locals := 66 } : Room) s m args below meth c H locs 0 0 (MQ below (kQ none (kB (dC, dI) [(cI, .int)] (RWs cI ad (va_up RA 41 (m_drawBears RA RS RN v1)) RS RN RL)) (kAA ad 24)) args s 0 0 (kAA ad 24)) (F0 m 2 ls []) := by
    intro n_2
    induction n_2 with
    | zero =>
      intro i_2 a41_2 hin_2 H locs ls hP hS hl  hk_2
      refine lv_iload_n hx hb dX8_drawBears_2 rfl (lv_at hl 2 rfl) ?_
      refine lv_aload_n hx hb dX8_drawBears_3 rfl (lv_at hl 0 rfl) ?_
      refine m_get (v := .int (nI (RN 4))) hx hb hts hown hK hP 4 (by decide) rfl kX8_82 rfl dX8_drawBears_4 ?_
      refine lv_icmp_ge (tgt := 140) hx hb dX8_drawBears_7 (by decide) (fun _ => ?_) (fun c_8 => absurd (kct_ge (N := (RN 4)) (nI_clamp (by omega)) (by omega) (by omega)) c_8)
      have hL_2 : (m_drawBears_L2 RA RS v1 0 i_2 a41_2) = a41_2 := by rw [m_drawBears_L2.eq_1]
      try rw [hL_2] at hk_2
      exact hk_2 _ _ _ hP hS (lv_sub hl [] rfl) 
    | succ n_2 ih_2 =>
      intro i_2 a41_2 hin_2 H locs ls hP hS hl  hk_2
      have h12 := mI_bm hM i_2 (by omega)
      refine lv_iload_n hx hb dX8_drawBears_2 rfl (lv_at hl 2 rfl) ?_
      refine lv_aload_n hx hb dX8_drawBears_3 rfl (lv_at hl 0 rfl) ?_
      refine m_get (v := .int (nI (RN 4))) hx hb hts hown hK hP 4 (by decide) rfl kX8_82 rfl dX8_drawBears_4 ?_
      refine lv_icmp_ge (tgt := 140) hx hb dX8_drawBears_7 (by decide) (fun c_9 => absurd c_9 (kct_lt (N := (RN 4)) (nI_clamp (by omega)) (by omega))) (fun _ => ?_)
      refine lv_aload_n hx hb dX8_drawBears_10 rfl (lv_at hl 0 rfl) ?_
      refine m_get (v := .int (RS 26)) hx hb hts hown hK hP 26 (by decide) rfl kX8_163 rfl dX8_drawBears_11 ?_
      refine lv_iload_n hx hb dX8_drawBears_14 rfl (lv_at hl 2 rfl) ?_
      refine k_rS (v := .int (m_has (RS 26) (nI i_2))) (As := [.int (RS 26), .int (nI i_2)]) (rest := []) hx hb hml hown hts hl.1 (B := fun _ => True) (fun _ _ _ _ q => q) (fun _ _ _ => trivial) (c_m_has (RS 26) (nI i_2)) eX8_204 rfl rfl (Nat.le_of_ble_eq_true rfl) ⟨Nat.le_of_ble_eq_true rfl, Nat.le_of_ble_eq_true rfl⟩ ⟨rfl, rfl⟩ ⟨Nat.le_of_ble_eq_true rfl, Nat.le_of_ble_eq_true rfl⟩ dX8_drawBears_15 ?_
      refine lv_if_eq (tgt := 134) hx hb dX8_drawBears_18 (by decide) (fun c_10 => ?_) (fun c_10 => ?_)
      · refine lv_iinc (v := (nI (i_2 + 1))) (lv' := [(2, .int (nI (i_2 + 1))), (0, .ref (ad 0)), (1, .int v1)]) hx hb dX8_drawBears_134 hl (k := 2) rfl (nI_add _ _) (by decide) rfl (fun ls hl => ?_)
        refine lv_goto (tgt := 2) hx hb dX8_drawBears_137 (by decide) ?_
        have hb_2 : (m_drawBears_b2 RA RS v1 i_2 a41_2) = a41_2 := by rw [m_drawBears_b2, if_pos c_10]
        have hL_2 : (m_drawBears_L2 RA RS v1 (n_2 + 1) i_2 a41_2) = (m_drawBears_L2 RA RS v1 n_2 (i_2 + 1) a41_2) := by rw [m_drawBears_L2.eq_2, hb_2]
        try rw [hL_2] at hk_2
        exact ih_2 (i_2 + 1) a41_2 (by omega) _ _ _ hP hS (lv_sub hl [1, 2, 0] rfl)  hk_2
      · refine lv_iload_n hx hb dX8_drawBears_21 rfl (lv_at hl 1 rfl) ?_
        refine lv_iload_n hx hb dX8_drawBears_22 rfl (lv_at hl 2 rfl) ?_
        refine lv_bipush (v := 99) hx hb dX8_drawBears_23 (by decide) ?_
        refine k_rS (v := .int (m_draw v1 (nI i_2) 99)) (As := [.int v1, .int (nI i_2), .int 99]) (rest := []) hx hb hml hown hts hl.1 (B := fun _ => True) (fun _ _ _ _ q => q) (fun _ _ _ => trivial) (c_m_draw v1 (nI i_2) 99) eX8_314 rfl rfl (Nat.le_of_ble_eq_true rfl) ⟨Nat.le_of_ble_eq_true rfl, Nat.le_of_ble_eq_true rfl⟩ ⟨rfl, rfl⟩ ⟨Nat.le_of_ble_eq_true rfl, Nat.le_of_ble_eq_true rfl⟩ dX8_drawBears_25 ?_
        refine lv_aload_n hx hb dX8_drawBears_28 rfl (lv_at hl 0 rfl) ?_
        refine lv_iload_n hx hb dX8_drawBears_29 rfl (lv_at hl 2 rfl) ?_
        refine k_rV (v := .int (m_chances (va_up RA 41 a41_2) i_2)) (As := [.int (nI i_2)]) (rest := [.int (m_draw v1 (nI i_2) 99)]) hx hb hml hown hts hl.1 hP hK hN (c_m_chances hI i_2 hM (by omega)) eX8_218 (ci := 7) (q0 := 0) rfl rfl rfl rfl rfl (Nat.le_of_ble_eq_true rfl) ⟨Nat.le_of_ble_eq_true rfl, Nat.le_of_ble_eq_true rfl⟩ ⟨rfl, rfl⟩ ⟨Nat.le_of_ble_eq_true rfl, Nat.le_of_ble_eq_true rfl⟩ dX8_drawBears_30 ?_
        refine lv_irem hx hb dX8_drawBears_33 (by refine m_ch_ne hC ?_ ?_ ?_ ?_ (by omega) (by assumption) <;> rfl) ?_
        refine lv_istore_n (lv' := [(3, .int ((m_draw v1 (nI i_2) 99) - (m_draw v1 (nI i_2) 99) / (m_chances (va_up RA 41 a41_2) i_2) * (m_chances (va_up RA 41 a41_2) i_2))), (0, .ref (ad 0)), (1, .int v1), (2, .int (nI i_2))]) hx hb dX8_drawBears_34 rfl hl (by decide) rfl (fun ls hl => ?_)
        refine lv_bipush (v := (-4)) hx hb dX8_drawBears_35 (by decide) ?_
        refine lv_istore (lv' := [(4, .int (-4)), (3, .int ((m_draw v1 (nI i_2) 99) - (m_draw v1 (nI i_2) 99) / (m_chances (va_up RA 41 a41_2) i_2) * (m_chances (va_up RA 41 a41_2) i_2))), (0, .ref (ad 0)), (1, .int v1), (2, .int (nI i_2))]) hx hb dX8_drawBears_37 hl (by decide) rfl (fun ls hl => ?_)
        refine lv_iconst (v := 0) hx hb dX8_drawBears_39 (by decide) ?_
        refine lv_istore (lv' := [(5, .int 0), (4, .int (-4)), (3, .int ((m_draw v1 (nI i_2) 99) - (m_draw v1 (nI i_2) 99) / (m_chances (va_up RA 41 a41_2) i_2) * (m_chances (va_up RA 41 a41_2) i_2))), (0, .ref (ad 0)), (1, .int v1), (2, .int (nI i_2))]) hx hb dX8_drawBears_40 hl (by decide) rfl (fun ls hl => ?_)
        have rest_42 : ∀ (x3_42 : Int32) (x4_42 : Int32), ∀ (ls : Array Slot), lv_has ls 7 [(0, .ref (ad 0)), (1, .int v1), (2, .int (nI i_2)), (4, .int x4_42)] → (0 ≤ (x4_42).toInt ∧ (x4_42).toInt < 4) → (m_drawBears_b2 RA RS v1 i_2 a41_2) = m_drawBears_b2_k42 RA a41_2 i_2 x4_42 → W p l e ({ frames := 3, cells := 0, slots := 0, locals := 66 } : Room) s m args below meth c H locs 0 0 (MQ below (kQ none (kB (dC, dI) [(cI, .int)] (RWs cI ad (va_up RA 41 (m_drawBears RA RS RN v1)) RS RN RL)) (kAA ad 24)) args s 0 0 (kAA ad 24)) (F0 m 117 ls []) := by
          intro x3_42 x4_42 ls hl hx_42a hF_42
          refine lv_aload_n hx hb dX8_drawBears_117 rfl (lv_at hl 0 rfl) ?_
          refine m_get (v := .ref (ad 23)) hx hb hts hown hK hP 41 (by decide) rfl kX8_76 rfl dX8_drawBears_118 ?_
          refine lv_iload_n hx hb dX8_drawBears_121 rfl (lv_at hl 2 rfl) ?_
          refine lv_aload_n hx hb dX8_drawBears_122 rfl (lv_at hl 0 rfl) ?_
          refine m_get (v := .ref (ad 8)) hx hb hts hown hK hP 10 (by decide) rfl kX8_31 rfl dX8_drawBears_123 ?_
          refine lv_iconst (v := 4) hx hb dX8_drawBears_126 (by decide) ?_
          refine lv_iload_n hx hb dX8_drawBears_127 rfl (lv_at hl 2 rfl) ?_
          refine kn_imul hx hb 4 i_2 rfl rfl dX8_drawBears_128 ?_
          have hnat4 : x4_42 = (nI x4_42.toNatClampNeg) := kNat hx_42a.1
          have hl : lv_has ls 7 [(0, .ref (ad 0)), (1, .int v1), (2, .int (nI i_2)), (4, .int (nI x4_42.toNatClampNeg))] := by rw [← hnat4]; exact hl
          have hf4 : x4_42.toNatClampNeg < 4 := kNat_lt (n := 4) hx_42a.2 (by omega)
          refine lv_iload hx hb dX8_drawBears_129 (lv_at hl 3 rfl) ?_
          refine kn_iadd hx hb (4 * i_2) x4_42.toNatClampNeg rfl rfl dX8_drawBears_131 ?_
          refine kn_iald (f := (RA 10)) (v := (RA 10 ((4 * i_2) + x4_42.toNatClampNeg))) hx hb hK hP 8 rfl ((4 * i_2) + x4_42.toNatClampNeg) rfl (by omega) (by omega) rfl dX8_drawBears_132 ?_
          refine kn_iast (f := a41_2) (ws' := RWs cI ad (va_up RA 41 (upd a41_2 i_2 (RA 10 ((4 * i_2) + x4_42.toNatClampNeg)))) RS RN RL) hx hb hK hP (RWsD hI) hS 23 rfl i_2 rfl (by omega) (by omega) rfl dX8_drawBears_133 (fun H locs hP hS => ?_)
          refine lv_iinc (v := (nI (i_2 + 1))) (lv' := [(2, .int (nI (i_2 + 1))), (0, .ref (ad 0)), (1, .int v1), (4, .int (nI x4_42.toNatClampNeg))]) hx hb dX8_drawBears_134 hl (k := 2) rfl (nI_add _ _) (by decide) rfl (fun ls hl => ?_)
          refine lv_goto (tgt := 2) hx hb dX8_drawBears_137 (by decide) ?_
          have hb_2 : (m_drawBears_b2 RA RS v1 i_2 a41_2) = (upd a41_2 i_2 (RA 10 ((4 * i_2) + x4_42.toNatClampNeg))) := hF_42.trans (by rw [m_drawBears_b2_k42])
          have hL_2 : (m_drawBears_L2 RA RS v1 (n_2 + 1) i_2 a41_2) = (m_drawBears_L2 RA RS v1 n_2 (i_2 + 1) (upd a41_2 i_2 (RA 10 ((4 * i_2) + x4_42.toNatClampNeg)))) := by rw [m_drawBears_L2.eq_2, hb_2]
          try rw [hL_2] at hk_2
          exact ih_2 (i_2 + 1) (upd a41_2 i_2 (RA 10 ((4 * i_2) + x4_42.toNatClampNeg))) (by omega) _ _ _ hP hS (lv_sub hl [1, 2, 0] rfl)  hk_2
        have hN_42 : ((RA 12 i_2).toNatClampNeg) < 2 ^ 31 := kcl_lt _
        have loop_42 : ∀ (n_42 i_42 : Nat) (x3_42 : Int32) (x4_42 : Int32), i_42 + n_42 = (RA 12 i_2).toNatClampNeg → ∀ (ls : Array Slot), lv_has ls 7 [(0, .ref (ad 0)), (1, .int v1), (2, .int (nI i_2)), (3, .int x3_42), (4, .int x4_42), (5, .int (nI i_42))] → (x4_42 = -4 → 0 ≤ (x3_42).toInt ∧ (x3_42).toInt < m_rest RA i_2 n_42 i_42) → (x4_42 = -4 ∨ (0 ≤ (x4_42).toInt ∧ (x4_42).toInt < 4)) → (∀ (ls : Array Slot), lv_has ls 7 [(0, .ref (ad 0)), (1, .int v1), (2, .int (nI i_2)), (4, .int ((m_drawBears_L42 RA i_2 n_42 i_42 x3_42 x4_42).2))] → (0 ≤ ((m_drawBears_L42 RA i_2 n_42 i_42 x3_42 x4_42).2).toInt ∧ ((m_drawBears_L42 RA i_2 n_42 i_42 x3_42 x4_42).2).toInt < 4) → W p l e ({ frames := 3, cells := 0, slots := 0, locals := 66 } : Room) s m args below meth c H locs 0 0 (MQ below (kQ none (kB (dC, dI) [(cI, .int)] (RWs cI ad (va_up RA 41 (m_drawBears RA RS RN v1)) RS RN RL)) (kAA ad 24)) args s 0 0 (kAA ad 24)) (F0 m 117 ls [])) → W p l e ({ frames := 3, cells := 0, slots := 0, locals := 66 } : Room) s m args below meth c H locs 0 0 (MQ below (kQ none (kB (dC, dI) [(cI, .int)] (RWs cI ad (va_up RA 41 (m_drawBears RA RS RN v1)) RS RN RL)) (kAA ad 24)) args s 0 0 (kAA ad 24)) (F0 m 42 ls []) := by
          intro n_42
          induction n_42 with
          | zero =>
            intro i_42 x3_42 x4_42 hin_42 ls hl hinv_42a hinv_42b hk_42
            refine lv_iload hx hb dX8_drawBears_42 (lv_at hl 5 rfl) ?_
            refine lv_aload_n hx hb dX8_drawBears_44 rfl (lv_at hl 0 rfl) ?_
            refine m_get (v := .ref (ad 10)) hx hb hts hown hK hP 12 (by decide) rfl kX8_37 rfl dX8_drawBears_45 ?_
            refine lv_iload_n hx hb dX8_drawBears_48 rfl (lv_at hl 2 rfl) ?_
            refine kn_iald (f := (RA 12)) (v := (RA 12 i_2)) hx hb hK hP 10 rfl i_2 rfl (by omega) (by omega) rfl dX8_drawBears_49 ?_
            refine lv_icmp_ge (tgt := 117) hx hb dX8_drawBears_50 (by decide) (fun _ => ?_) (fun c_11 => absurd (kct_ge (N := (RA 12 i_2).toNatClampNeg) rfl (by omega) (by omega)) c_11)
            have hL_42 : (m_drawBears_L42 RA i_2 0 i_42 x3_42 x4_42) = (x3_42, x4_42) := by rw [m_drawBears_L42.eq_1]
            try rw [hL_42] at hk_42
            exact hk_42 _ (lv_sub hl [0, 1, 2, 4] rfl) (by first | exact k44 (by assumption) hinv_42b | exact k44 (kdr0 hinv_42a) hinv_42b)
          | succ n_42 ih_42 =>
            intro i_42 x3_42 x4_42 hin_42 ls hl hinv_42a hinv_42b hk_42
            refine lv_iload hx hb dX8_drawBears_42 (lv_at hl 5 rfl) ?_
            refine lv_aload_n hx hb dX8_drawBears_44 rfl (lv_at hl 0 rfl) ?_
            refine m_get (v := .ref (ad 10)) hx hb hts hown hK hP 12 (by decide) rfl kX8_37 rfl dX8_drawBears_45 ?_
            refine lv_iload_n hx hb dX8_drawBears_48 rfl (lv_at hl 2 rfl) ?_
            refine kn_iald (f := (RA 12)) (v := (RA 12 i_2)) hx hb hK hP 10 rfl i_2 rfl (by omega) (by omega) rfl dX8_drawBears_49 ?_
            refine lv_icmp_ge (tgt := 117) hx hb dX8_drawBears_50 (by decide) (fun c_12 => absurd c_12 (kct_lt (N := (RA 12 i_2).toNatClampNeg) rfl (by omega))) (fun _ => ?_)
            refine lv_iload hx hb dX8_drawBears_53 (lv_at hl 4 rfl) ?_
            refine lv_bipush (v := (-4)) hx hb dX8_drawBears_55 (by decide) ?_
            refine lv_icmp_ne (tgt := 117) hx hb dX8_drawBears_57 (by decide) (fun c_13 => ?_) (fun c_13 => ?_)
            · have hL_42 : (m_drawBears_L42 RA i_2 (n_42 + 1) i_42 x3_42 x4_42) = (x3_42, x4_42) := by rw [m_drawBears_L42.eq_2, if_neg c_13]
              try rw [hL_42] at hk_42
              exact hk_42 _ (lv_sub hl [0, 1, 2, 4] rfl) (by first | exact k44 (by assumption) hinv_42b | exact k44 (kdr0 hinv_42a) hinv_42b)
            · refine lv_aload_n hx hb dX8_drawBears_60 rfl (lv_at hl 0 rfl) ?_
              refine m_get (v := .ref (ad 14)) hx hb hts hown hK hP 22 (by decide) rfl kX8_49 rfl dX8_drawBears_61 ?_
              refine lv_iload_n hx hb dX8_drawBears_64 rfl (lv_at hl 2 rfl) ?_
              refine kn_iald (f := (RA 22)) (v := (RA 22 i_2)) hx hb hK hP 14 rfl i_2 rfl (by omega) (by omega) rfl dX8_drawBears_65 ?_
              refine lv_iload hx hb dX8_drawBears_66 (lv_at hl 5 rfl) ?_
              refine k_rS (v := .int (m_has (RA 22 i_2) (nI i_42))) (As := [.int (RA 22 i_2), .int (nI i_42)]) (rest := []) hx hb hml hown hts hl.1 (B := fun _ => True) (fun _ _ _ _ q => q) (fun _ _ _ => trivial) (c_m_has (RA 22 i_2) (nI i_42)) eX8_204 rfl rfl (Nat.le_of_ble_eq_true rfl) ⟨Nat.le_of_ble_eq_true rfl, Nat.le_of_ble_eq_true rfl⟩ ⟨rfl, rfl⟩ ⟨Nat.le_of_ble_eq_true rfl, Nat.le_of_ble_eq_true rfl⟩ dX8_drawBears_68 ?_
              refine lv_if_eq (tgt := 88) hx hb dX8_drawBears_71 (by decide) (fun c_14 => ?_) (fun c_14 => ?_)
              · refine lv_iconst (v := 0) hx hb dX8_drawBears_88 (by decide) ?_
                refine lv_istore (lv' := [(6, .int 0), (0, .ref (ad 0)), (1, .int v1), (2, .int (nI i_2)), (3, .int x3_42), (4, .int x4_42), (5, .int (nI i_42))]) hx hb dX8_drawBears_89 hl (by decide) rfl (fun ls hl => ?_)
                refine lv_iload_n hx hb dX8_drawBears_91 rfl (lv_at hl 4 rfl) ?_
                refine lv_iload hx hb dX8_drawBears_92 (lv_at hl 0 rfl) ?_
                refine lv_icmp_ge (tgt := 102) hx hb dX8_drawBears_94 (by decide) (fun c_15 => ?_) (fun c_15 => ?_)
                · refine lv_bipush (v := (-4)) hx hb dX8_drawBears_102 (by decide) ?_
                  refine lv_istore (lv' := [(4, .int (-4)), (6, .int 0), (0, .ref (ad 0)), (1, .int v1), (2, .int (nI i_2)), (3, .int x3_42), (5, .int (nI i_42))]) hx hb dX8_drawBears_104 hl (by decide) rfl (fun ls hl => ?_)
                  refine lv_iload_n hx hb dX8_drawBears_106 rfl (lv_at hl 5 rfl) ?_
                  refine lv_iload hx hb dX8_drawBears_107 (lv_at hl 1 rfl) ?_
                  refine lv_isub hx hb dX8_drawBears_109 ?_
                  refine lv_istore_n (lv' := [(3, .int (x3_42 - 0)), (4, .int (-4)), (6, .int 0), (0, .ref (ad 0)), (1, .int v1), (2, .int (nI i_2)), (5, .int (nI i_42))]) hx hb dX8_drawBears_110 rfl hl (by decide) rfl (fun ls hl => ?_)
                  refine lv_iinc (v := (nI (i_42 + 1))) (lv' := [(5, .int (nI (i_42 + 1))), (3, .int (x3_42 - 0)), (4, .int (-4)), (6, .int 0), (0, .ref (ad 0)), (1, .int v1), (2, .int (nI i_2))]) hx hb dX8_drawBears_111 hl (k := 6) rfl (nI_add _ _) (by decide) rfl (fun ls hl => ?_)
                  refine lv_goto (tgt := 42) hx hb dX8_drawBears_114 (by decide) ?_
                  have hL_42 : (m_drawBears_L42 RA i_2 (n_42 + 1) i_42 x3_42 x4_42) = (m_drawBears_L42 RA i_2 n_42 (i_42 + 1) (x3_42 - 0) (-4)) := by rw [m_drawBears_L42.eq_2, if_pos c_13, if_pos c_14, if_pos c_15]
                  try rw [hL_42] at hk_42
                  exact ih_42 (i_42 + 1) (x3_42 - 0) (-4) (by omega) _ (lv_sub hl [4, 5, 6, 1, 2, 0] rfl) (by first | exact fun h => absurd h (kn4 (by omega)) | exact fun _ => m_rest_step hM (by omega) (by omega) hinv_42a (by assumption) _ (Or.inl ⟨by assumption, rfl⟩) (by assumption) | exact fun _ => m_rest_step hM (by omega) (by omega) hinv_42a (by assumption) _ (Or.inr ⟨by assumption, rfl⟩) (by assumption)) (by first | exact Or.inl rfl | exact Or.inr (k44r (by omega))) hk_42
                · refine lv_iload hx hb dX8_drawBears_97 (lv_at hl 6 rfl) ?_
                  refine lv_goto (tgt := 104) hx hb dX8_drawBears_99 (by decide) ?_
                  refine lv_istore (lv' := [(4, .int (nI i_42)), (6, .int 0), (0, .ref (ad 0)), (1, .int v1), (2, .int (nI i_2)), (3, .int x3_42), (5, .int (nI i_42))]) hx hb dX8_drawBears_104 hl (by decide) rfl (fun ls hl => ?_)
                  refine lv_iload_n hx hb dX8_drawBears_106 rfl (lv_at hl 5 rfl) ?_
                  refine lv_iload hx hb dX8_drawBears_107 (lv_at hl 1 rfl) ?_
                  refine lv_isub hx hb dX8_drawBears_109 ?_
                  refine lv_istore_n (lv' := [(3, .int (x3_42 - 0)), (4, .int (nI i_42)), (6, .int 0), (0, .ref (ad 0)), (1, .int v1), (2, .int (nI i_2)), (5, .int (nI i_42))]) hx hb dX8_drawBears_110 rfl hl (by decide) rfl (fun ls hl => ?_)
                  refine lv_iinc (v := (nI (i_42 + 1))) (lv' := [(5, .int (nI (i_42 + 1))), (3, .int (x3_42 - 0)), (4, .int (nI i_42)), (6, .int 0), (0, .ref (ad 0)), (1, .int v1), (2, .int (nI i_2))]) hx hb dX8_drawBears_111 hl (k := 6) rfl (nI_add _ _) (by decide) rfl (fun ls hl => ?_)
                  refine lv_goto (tgt := 42) hx hb dX8_drawBears_114 (by decide) ?_
                  have hL_42 : (m_drawBears_L42 RA i_2 (n_42 + 1) i_42 x3_42 x4_42) = (m_drawBears_L42 RA i_2 n_42 (i_42 + 1) (x3_42 - 0) (nI i_42)) := by rw [m_drawBears_L42.eq_2, if_pos c_13, if_pos c_14, if_neg c_15]
                  try rw [hL_42] at hk_42
                  exact ih_42 (i_42 + 1) (x3_42 - 0) (nI i_42) (by omega) _ (lv_sub hl [4, 5, 6, 1, 2, 0] rfl) (by first | exact fun h => absurd h (kn4 (by omega)) | exact fun _ => m_rest_step hM (by omega) (by omega) hinv_42a (by assumption) _ (Or.inl ⟨by assumption, rfl⟩) (by assumption) | exact fun _ => m_rest_step hM (by omega) (by omega) hinv_42a (by assumption) _ (Or.inr ⟨by assumption, rfl⟩) (by assumption)) (by first | exact Or.inl rfl | exact Or.inr (k44r (by omega))) hk_42
              · refine lv_aload_n hx hb dX8_drawBears_74 rfl (lv_at hl 0 rfl) ?_
                refine m_get (v := .ref (ad 9)) hx hb hts hown hK hP 11 (by decide) rfl kX8_34 rfl dX8_drawBears_75 ?_
                refine lv_iconst (v := 4) hx hb dX8_drawBears_78 (by decide) ?_
                refine lv_iload_n hx hb dX8_drawBears_79 rfl (lv_at hl 2 rfl) ?_
                refine kn_imul hx hb 4 i_2 rfl rfl dX8_drawBears_80 ?_
                refine lv_iload hx hb dX8_drawBears_81 (lv_at hl 5 rfl) ?_
                refine kn_iadd hx hb (4 * i_2) i_42 rfl rfl dX8_drawBears_83 ?_
                refine kn_iald (f := (RA 11)) (v := (RA 11 ((4 * i_2) + i_42))) hx hb hK hP 9 rfl ((4 * i_2) + i_42) rfl (by omega) (by omega) rfl dX8_drawBears_84 ?_
                refine lv_goto (tgt := 89) hx hb dX8_drawBears_85 (by decide) ?_
                refine lv_istore (lv' := [(6, .int (RA 11 ((4 * i_2) + i_42))), (0, .ref (ad 0)), (1, .int v1), (2, .int (nI i_2)), (3, .int x3_42), (4, .int x4_42), (5, .int (nI i_42))]) hx hb dX8_drawBears_89 hl (by decide) rfl (fun ls hl => ?_)
                refine lv_iload_n hx hb dX8_drawBears_91 rfl (lv_at hl 4 rfl) ?_
                refine lv_iload hx hb dX8_drawBears_92 (lv_at hl 0 rfl) ?_
                refine lv_icmp_ge (tgt := 102) hx hb dX8_drawBears_94 (by decide) (fun c_16 => ?_) (fun c_16 => ?_)
                · refine lv_bipush (v := (-4)) hx hb dX8_drawBears_102 (by decide) ?_
                  refine lv_istore (lv' := [(4, .int (-4)), (6, .int (RA 11 ((4 * i_2) + i_42))), (0, .ref (ad 0)), (1, .int v1), (2, .int (nI i_2)), (3, .int x3_42), (5, .int (nI i_42))]) hx hb dX8_drawBears_104 hl (by decide) rfl (fun ls hl => ?_)
                  refine lv_iload_n hx hb dX8_drawBears_106 rfl (lv_at hl 5 rfl) ?_
                  refine lv_iload hx hb dX8_drawBears_107 (lv_at hl 1 rfl) ?_
                  refine lv_isub hx hb dX8_drawBears_109 ?_
                  refine lv_istore_n (lv' := [(3, .int (x3_42 - (RA 11 ((4 * i_2) + i_42)))), (4, .int (-4)), (6, .int (RA 11 ((4 * i_2) + i_42))), (0, .ref (ad 0)), (1, .int v1), (2, .int (nI i_2)), (5, .int (nI i_42))]) hx hb dX8_drawBears_110 rfl hl (by decide) rfl (fun ls hl => ?_)
                  refine lv_iinc (v := (nI (i_42 + 1))) (lv' := [(5, .int (nI (i_42 + 1))), (3, .int (x3_42 - (RA 11 ((4 * i_2) + i_42)))), (4, .int (-4)), (6, .int (RA 11 ((4 * i_2) + i_42))), (0, .ref (ad 0)), (1, .int v1), (2, .int (nI i_2))]) hx hb dX8_drawBears_111 hl (k := 6) rfl (nI_add _ _) (by decide) rfl (fun ls hl => ?_)
                  refine lv_goto (tgt := 42) hx hb dX8_drawBears_114 (by decide) ?_
                  have hL_42 : (m_drawBears_L42 RA i_2 (n_42 + 1) i_42 x3_42 x4_42) = (m_drawBears_L42 RA i_2 n_42 (i_42 + 1) (x3_42 - (RA 11 ((4 * i_2) + i_42))) (-4)) := by rw [m_drawBears_L42.eq_2, if_pos c_13, if_neg c_14, if_pos c_16]
                  try rw [hL_42] at hk_42
                  exact ih_42 (i_42 + 1) (x3_42 - (RA 11 ((4 * i_2) + i_42))) (-4) (by omega) _ (lv_sub hl [4, 5, 6, 1, 2, 0] rfl) (by first | exact fun h => absurd h (kn4 (by omega)) | exact fun _ => m_rest_step hM (by omega) (by omega) hinv_42a (by assumption) _ (Or.inl ⟨by assumption, rfl⟩) (by assumption) | exact fun _ => m_rest_step hM (by omega) (by omega) hinv_42a (by assumption) _ (Or.inr ⟨by assumption, rfl⟩) (by assumption)) (by first | exact Or.inl rfl | exact Or.inr (k44r (by omega))) hk_42
                · refine lv_iload hx hb dX8_drawBears_97 (lv_at hl 6 rfl) ?_
                  refine lv_goto (tgt := 104) hx hb dX8_drawBears_99 (by decide) ?_
                  refine lv_istore (lv' := [(4, .int (nI i_42)), (6, .int (RA 11 ((4 * i_2) + i_42))), (0, .ref (ad 0)), (1, .int v1), (2, .int (nI i_2)), (3, .int x3_42), (5, .int (nI i_42))]) hx hb dX8_drawBears_104 hl (by decide) rfl (fun ls hl => ?_)
                  refine lv_iload_n hx hb dX8_drawBears_106 rfl (lv_at hl 5 rfl) ?_
                  refine lv_iload hx hb dX8_drawBears_107 (lv_at hl 1 rfl) ?_
                  refine lv_isub hx hb dX8_drawBears_109 ?_
                  refine lv_istore_n (lv' := [(3, .int (x3_42 - (RA 11 ((4 * i_2) + i_42)))), (4, .int (nI i_42)), (6, .int (RA 11 ((4 * i_2) + i_42))), (0, .ref (ad 0)), (1, .int v1), (2, .int (nI i_2)), (5, .int (nI i_42))]) hx hb dX8_drawBears_110 rfl hl (by decide) rfl (fun ls hl => ?_)
                  refine lv_iinc (v := (nI (i_42 + 1))) (lv' := [(5, .int (nI (i_42 + 1))), (3, .int (x3_42 - (RA 11 ((4 * i_2) + i_42)))), (4, .int (nI i_42)), (6, .int (RA 11 ((4 * i_2) + i_42))), (0, .ref (ad 0)), (1, .int v1), (2, .int (nI i_2))]) hx hb dX8_drawBears_111 hl (k := 6) rfl (nI_add _ _) (by decide) rfl (fun ls hl => ?_)
                  refine lv_goto (tgt := 42) hx hb dX8_drawBears_114 (by decide) ?_
                  have hL_42 : (m_drawBears_L42 RA i_2 (n_42 + 1) i_42 x3_42 x4_42) = (m_drawBears_L42 RA i_2 n_42 (i_42 + 1) (x3_42 - (RA 11 ((4 * i_2) + i_42))) (nI i_42)) := by rw [m_drawBears_L42.eq_2, if_pos c_13, if_neg c_14, if_neg c_16]
                  try rw [hL_42] at hk_42
                  exact ih_42 (i_42 + 1) (x3_42 - (RA 11 ((4 * i_2) + i_42))) (nI i_42) (by omega) _ (lv_sub hl [4, 5, 6, 1, 2, 0] rfl) (by first | exact fun h => absurd h (kn4 (by omega)) | exact fun _ => m_rest_step hM (by omega) (by omega) hinv_42a (by assumption) _ (Or.inl ⟨by assumption, rfl⟩) (by assumption) | exact fun _ => m_rest_step hM (by omega) (by omega) hinv_42a (by assumption) _ (Or.inr ⟨by assumption, rfl⟩) (by assumption)) (by first | exact Or.inl rfl | exact Or.inr (k44r (by omega))) hk_42
        exact loop_42 ((RA 12 i_2).toNatClampNeg) 0 ((m_draw v1 (nI i_2) 99) - (m_draw v1 (nI i_2) 99) / (m_chances (va_up RA 41 a41_2) i_2) * (m_chances (va_up RA 41 a41_2) i_2)) (-4) (by omega) _ (lv_sub hl [3, 4, 5, 2, 1, 0] rfl) (fun _ => by refine m_draw_rest2 hM ?_ ?_ ?_ ?_ (by omega) (hC i_2 (by omega) (by assumption)) (m_draw_nn hz (by rw [nI_toInt (by omega)]; omega) (by decide)) <;> rfl) (Or.inl rfl) (fun ls hl hx_42a => rest_42 (m_drawBears_L42 RA i_2 ((RA 12 i_2).toNatClampNeg) 0 ((m_draw v1 (nI i_2) 99) - (m_draw v1 (nI i_2) 99) / (m_chances (va_up RA 41 a41_2) i_2) * (m_chances (va_up RA 41 a41_2) i_2)) (-4)).1 (m_drawBears_L42 RA i_2 ((RA 12 i_2).toNatClampNeg) 0 ((m_draw v1 (nI i_2) 99) - (m_draw v1 (nI i_2) 99) / (m_chances (va_up RA 41 a41_2) i_2) * (m_chances (va_up RA 41 a41_2) i_2)) (-4)).2 _ hl hx_42a (by rw [m_drawBears_b2, if_neg c_10]))
  have hP : va_P (dC, dI) vwCl (RWs cI ad (va_up RA 41 (RA 41)) RS RN RL) s.heap := (RWs_conv rfl rfl rfl rfl rfl rfl rfl rfl rfl rfl rfl rfl rfl rfl rfl rfl rfl rfl rfl rfl rfl rfl rfl rfl rfl rfl rfl rfl rfl rfl rfl rfl rfl rfl rfl rfl rfl rfl rfl rfl rfl hP)
  exact loop_2 (RN 4) 0 (RA 41) (by omega) _ _ _ hP hS (lv_sub hl [1, 2, 0] rfl)  (fun H locs ls hP hS hl  => rest_2 (m_drawBears_L2 RA RS v1 (RN 4) 0 (RA 41)) _ _ _ hP hS hl  (by rw [m_drawBears]))
-- X8_night
def m_night_k264 (a36 : Nat → Int32) (a37 : Nat → Int32) (a39 : Nat → Int32) (a41 : Nat → Int32) (s38 : Int32) (v4 : Int32) (v6 : Int32) (v7 : Int32) : Int32 × (Nat → Int32) × (Nat → Int32) × (Nat → Int32) × (Nat → Int32) × Int32 := if v4 = 0 then (v6, a36, a37, a39, a41, s38) else (v7, a36, a37, a39, a41, s38)
def m_night_L264 (RA : Nat → Nat → Int32) (RS : Nat → Int32) (v6 : Int32) : Nat → Nat → Int32 → Int32
  | 0, i, v7 => v7
  | n + 1, i, v7 => if (m_has v6 (nI i)) = 0 then m_night_L264 RA RS v6 n (i + 1) (v7 + 0) else m_night_L264 RA RS v6 n (i + 1) (v7 + ((RA 7 i) + ((RS 20) * (RA 9 i))))
def m_night_k62 (RA : Nat → Nat → Int32) (RS : Nat → Int32) (RN : Nat → Nat) (a36 : Nat → Int32) (a37 : Nat → Int32) (a39 : Nat → Int32) (a41 : Nat → Int32) (s38 : Int32) (v4 : Int32) : Int32 × (Nat → Int32) × (Nat → Int32) × (Nat → Int32) × (Nat → Int32) × Int32 := m_night_k264 a36 a37 a39 a41 s38 v4 ((RS 26) &&& (s38 ^^^ (-1))) (m_night_L264 RA RS ((RS 26) &&& (s38 ^^^ (-1))) (RN 4) 0 0)
def m_night_b62_k157 (a36 : Nat → Int32) (a37 : Nat → Int32) (a39 : Nat → Int32) (s38 : Int32) (v5 : Nat) : Nat × (Nat → Int32) × (Nat → Int32) × (Nat → Int32) × Int32 := (v5, a36, a37, a39, s38)
def m_night_L157 (RA : Nat → Nat → Int32) (RS : Nat → Int32) (a37 : Nat → Int32) (a39 : Nat → Int32) (a41 : Nat → Int32) : Nat → Nat → (Nat → Int32) → Int32 → (Nat → Int32) × Int32
  | 0, i, a36, s38 => (a36, s38)
  | n + 1, i, a36, s38 => if (m_has s38 (nI i)) = 0 then m_night_L157 RA RS a37 a39 a41 n (i + 1) a36 s38 else (if (m_felt (va_up (va_up (va_up (va_up RA 36 a36) 37 a37) 39 a39) 41 a41) (va_up RS 38 s38) i 0 0) ≤ (a41 i) then m_night_L157 RA RS a37 a39 a41 n (i + 1) a36 s38 else m_night_L157 RA RS a37 a39 a41 n (i + 1) (upd (upd a36 (2 * i) 0) ((2 * i) + 1) 0) (s38 &&& ((1 <<< ((nI i) &&& 31)) ^^^ (-1))))
def m_night_b62 (RA : Nat → Nat → Int32) (RS : Nat → Int32) (RN : Nat → Nat) (a41 : Nat → Int32) (v1 : Int32) (v2 : Int32) (i : Nat) (v5 : Nat) (a36 : Nat → Int32) (a37 : Nat → Int32) (a39 : Nat → Int32) (s38 : Int32) : Nat × (Nat → Int32) × (Nat → Int32) × (Nat → Int32) × Int32 := if (RA 14 (3 * v5)) ≤ ((m_draw v1 ((RS 27) + (nI i)) 98) - (m_draw v1 ((RS 27) + (nI i)) 98) / 10 * 10) then (if ((RA 14 (3 * v5)) + (RA 14 ((3 * v5) + 1))) ≤ ((m_draw v1 ((RS 27) + (nI i)) 98) - (m_draw v1 ((RS 27) + (nI i)) 98) / 10 * 10) then m_night_b62_k157 (m_night_L157 RA RS ((m_goHour (va_up (va_up (va_up (va_up RA 36 a36) 37 a37) 39 a39) 41 a41) (va_up RS 38 s38) RN v2 2 (RS 15) (-4)).2.1) ((m_goHour (va_up (va_up (va_up (va_up RA 36 a36) 37 a37) 39 a39) 41 a41) (va_up RS 38 s38) RN v2 2 (RS 15) (-4)).2.2) a41 (RN 4) 0 ((m_goHour (va_up (va_up (va_up (va_up RA 36 a36) 37 a37) 39 a39) 41 a41) (va_up RS 38 s38) RN v2 2 (RS 15) (-4)).1) s38).1 ((m_goHour (va_up (va_up (va_up (va_up RA 36 a36) 37 a37) 39 a39) 41 a41) (va_up RS 38 s38) RN v2 2 (RS 15) (-4)).2.1) ((m_goHour (va_up (va_up (va_up (va_up RA 36 a36) 37 a37) 39 a39) 41 a41) (va_up RS 38 s38) RN v2 2 (RS 15) (-4)).2.2) (m_night_L157 RA RS ((m_goHour (va_up (va_up (va_up (va_up RA 36 a36) 37 a37) 39 a39) 41 a41) (va_up RS 38 s38) RN v2 2 (RS 15) (-4)).2.1) ((m_goHour (va_up (va_up (va_up (va_up RA 36 a36) 37 a37) 39 a39) 41 a41) (va_up RS 38 s38) RN v2 2 (RS 15) (-4)).2.2) a41 (RN 4) 0 ((m_goHour (va_up (va_up (va_up (va_up RA 36 a36) 37 a37) 39 a39) 41 a41) (va_up RS 38 s38) RN v2 2 (RS 15) (-4)).1) s38).2 2 else m_night_b62_k157 (m_night_L157 RA RS ((m_goHour (va_up (va_up (va_up (va_up RA 36 a36) 37 a37) 39 a39) 41 a41) (va_up RS 38 s38) RN v2 1 (RS 15) (-4)).2.1) ((m_goHour (va_up (va_up (va_up (va_up RA 36 a36) 37 a37) 39 a39) 41 a41) (va_up RS 38 s38) RN v2 1 (RS 15) (-4)).2.2) a41 (RN 4) 0 ((m_goHour (va_up (va_up (va_up (va_up RA 36 a36) 37 a37) 39 a39) 41 a41) (va_up RS 38 s38) RN v2 1 (RS 15) (-4)).1) s38).1 ((m_goHour (va_up (va_up (va_up (va_up RA 36 a36) 37 a37) 39 a39) 41 a41) (va_up RS 38 s38) RN v2 1 (RS 15) (-4)).2.1) ((m_goHour (va_up (va_up (va_up (va_up RA 36 a36) 37 a37) 39 a39) 41 a41) (va_up RS 38 s38) RN v2 1 (RS 15) (-4)).2.2) (m_night_L157 RA RS ((m_goHour (va_up (va_up (va_up (va_up RA 36 a36) 37 a37) 39 a39) 41 a41) (va_up RS 38 s38) RN v2 1 (RS 15) (-4)).2.1) ((m_goHour (va_up (va_up (va_up (va_up RA 36 a36) 37 a37) 39 a39) 41 a41) (va_up RS 38 s38) RN v2 1 (RS 15) (-4)).2.2) a41 (RN 4) 0 ((m_goHour (va_up (va_up (va_up (va_up RA 36 a36) 37 a37) 39 a39) 41 a41) (va_up RS 38 s38) RN v2 1 (RS 15) (-4)).1) s38).2 1) else m_night_b62_k157 (m_night_L157 RA RS ((m_goHour (va_up (va_up (va_up (va_up RA 36 a36) 37 a37) 39 a39) 41 a41) (va_up RS 38 s38) RN v2 0 (RS 15) (-4)).2.1) ((m_goHour (va_up (va_up (va_up (va_up RA 36 a36) 37 a37) 39 a39) 41 a41) (va_up RS 38 s38) RN v2 0 (RS 15) (-4)).2.2) a41 (RN 4) 0 ((m_goHour (va_up (va_up (va_up (va_up RA 36 a36) 37 a37) 39 a39) 41 a41) (va_up RS 38 s38) RN v2 0 (RS 15) (-4)).1) s38).1 ((m_goHour (va_up (va_up (va_up (va_up RA 36 a36) 37 a37) 39 a39) 41 a41) (va_up RS 38 s38) RN v2 0 (RS 15) (-4)).2.1) ((m_goHour (va_up (va_up (va_up (va_up RA 36 a36) 37 a37) 39 a39) 41 a41) (va_up RS 38 s38) RN v2 0 (RS 15) (-4)).2.2) (m_night_L157 RA RS ((m_goHour (va_up (va_up (va_up (va_up RA 36 a36) 37 a37) 39 a39) 41 a41) (va_up RS 38 s38) RN v2 0 (RS 15) (-4)).2.1) ((m_goHour (va_up (va_up (va_up (va_up RA 36 a36) 37 a37) 39 a39) 41 a41) (va_up RS 38 s38) RN v2 0 (RS 15) (-4)).2.2) a41 (RN 4) 0 ((m_goHour (va_up (va_up (va_up (va_up RA 36 a36) 37 a37) 39 a39) 41 a41) (va_up RS 38 s38) RN v2 0 (RS 15) (-4)).1) s38).2 0
def m_night_L62 (RA : Nat → Nat → Int32) (RS : Nat → Int32) (RN : Nat → Nat) (a41 : Nat → Int32) (v1 : Int32) (v2 : Int32) : Nat → Nat → Nat → (Nat → Int32) → (Nat → Int32) → (Nat → Int32) → Int32 → Nat × (Nat → Int32) × (Nat → Int32) × (Nat → Int32) × Int32
  | 0, i, v5, a36, a37, a39, s38 => (v5, a36, a37, a39, s38)
  | n + 1, i, v5, a36, a37, a39, s38 => m_night_L62 RA RS RN a41 v1 v2 n (i + 1) (m_night_b62 RA RS RN a41 v1 v2 i v5 a36 a37 a39 s38).1 (m_night_b62 RA RS RN a41 v1 v2 i v5 a36 a37 a39 s38).2.1 (m_night_b62 RA RS RN a41 v1 v2 i v5 a36 a37 a39 s38).2.2.1 (m_night_b62 RA RS RN a41 v1 v2 i v5 a36 a37 a39 s38).2.2.2.1 (m_night_b62 RA RS RN a41 v1 v2 i v5 a36 a37 a39 s38).2.2.2.2
def m_night (RA : Nat → Nat → Int32) (RS : Nat → Int32) (RN : Nat → Nat) (v1 : Int32) (v2 : Int32) (v3 : Int32) (v4 : Int32) : Int32 × (Nat → Int32) × (Nat → Int32) × (Nat → Int32) × (Nat → Int32) × Int32 := if (m_in v1.toInt64 0 9999) = 0 then ((-1), (RA 36), (RA 37), (RA 39), (RA 41), (RS 38)) else (if (m_isRule v2) = 0 then ((-1), (RA 36), (RA 37), (RA 39), (RA 41), (RS 38)) else (if (m_in v3.toInt64 1 24) = 0 then ((-1), (RA 36), (RA 37), (RA 39), (RA 41), (RS 38)) else (if (m_in v4.toInt64 0 1) = 0 then ((-1), (RA 36), (RA 37), (RA 39), (RA 41), (RS 38)) else m_night_k62 RA RS RN (m_night_L62 RA RS RN (m_drawBears RA RS RN v1) v1 v2 v3.toNatClampNeg 0 (RN 28) ((m_load (va_up RA 41 (m_drawBears RA RS RN v1)) RS).1) ((m_load (va_up RA 41 (m_drawBears RA RS RN v1)) RS).2.1) ((m_load (va_up RA 41 (m_drawBears RA RS RN v1)) RS).2.2.1) ((m_load (va_up RA 41 (m_drawBears RA RS RN v1)) RS).2.2.2)).2.1 (m_night_L62 RA RS RN (m_drawBears RA RS RN v1) v1 v2 v3.toNatClampNeg 0 (RN 28) ((m_load (va_up RA 41 (m_drawBears RA RS RN v1)) RS).1) ((m_load (va_up RA 41 (m_drawBears RA RS RN v1)) RS).2.1) ((m_load (va_up RA 41 (m_drawBears RA RS RN v1)) RS).2.2.1) ((m_load (va_up RA 41 (m_drawBears RA RS RN v1)) RS).2.2.2)).2.2.1 (m_night_L62 RA RS RN (m_drawBears RA RS RN v1) v1 v2 v3.toNatClampNeg 0 (RN 28) ((m_load (va_up RA 41 (m_drawBears RA RS RN v1)) RS).1) ((m_load (va_up RA 41 (m_drawBears RA RS RN v1)) RS).2.1) ((m_load (va_up RA 41 (m_drawBears RA RS RN v1)) RS).2.2.1) ((m_load (va_up RA 41 (m_drawBears RA RS RN v1)) RS).2.2.2)).2.2.2.1 (m_drawBears RA RS RN v1) (m_night_L62 RA RS RN (m_drawBears RA RS RN v1) v1 v2 v3.toNatClampNeg 0 (RN 28) ((m_load (va_up RA 41 (m_drawBears RA RS RN v1)) RS).1) ((m_load (va_up RA 41 (m_drawBears RA RS RN v1)) RS).2.1) ((m_load (va_up RA 41 (m_drawBears RA RS RN v1)) RS).2.2.1) ((m_load (va_up RA 41 (m_drawBears RA RS RN v1)) RS).2.2.2)).2.2.2.2 v4)))
set_option maxHeartbeats 4000000 in
set_option maxRecDepth 100000 in
theorem c_m_night (hI : kInj ad 24) (v1 : Int32) (v2 : Int32) (v3 : Int32) (v4 : Int32) (hM : mI RA RS RN) (hC : mC RA RS RN) : Met l yX8_night (.code yX8_night cX8_night 10 (some .int) :: kT) ({ frames := 6, cells := 0, slots := 0, locals := 141 } : Room) (va_Pc [.ref (ad 0), .int v1, .int v2, .int v3, .int v4] (kB (dC, dI) [(cI, .int)] (RWs cI ad RA RS RN RL))) (kQ (some (.int ((m_night RA RS RN v1 v2 v3 v4).1))) (kB (dC, dI) [(cI, .int)] (RWs cI ad (va_up (va_up (va_up (va_up RA 36 ((m_night RA RS RN v1 v2 v3 v4).2.1)) 37 ((m_night RA RS RN v1 v2 v3 v4).2.2.1)) 39 ((m_night RA RS RN v1 v2 v3 v4).2.2.2.1)) 41 ((m_night RA RS RN v1 v2 v3 v4).2.2.2.2.1)) (va_up RS 38 ((m_night RA RS RN v1 v2 v3 v4).2.2.2.2.2)) RN RL)) (kAA ad 24)) 0 0 (kAA ad 24) := by
  refine kMet (by decide) (fun p e s m args below meth c ls hx hb hr hml hts hown hlocks hname hargs hB hl => ?_) (Nat.le_of_ble_eq_true rfl)
  obtain ⟨hP, hK, hN⟩ := hB
  have hl : lv_has ls 10 [(0, .ref (ad 0)), (1, .int v1), (2, .int v2), (3, .int v3), (4, .int v4)] := hl
  have hS : va_S (kAA ad 24) s.heap s.heap [] := va_S.rf
  have h4 : RN 4 ≤ 8 := mI_many hM
  refine lv_iload_n hx hb dX8_night_0 rfl (lv_at hl 1 rfl) ?_
  refine lv_i2l (v := v1.toInt64) hx hb dX8_night_1 rfl ?_
  refine lv_lconst (v := 0) hx hb dX8_night_2 (by decide) ?_
  refine lv_ldc2 (v := 9999) hx hb hown (hts _ kX8_317) dX8_night_3 ?_
  refine k_rS (v := .int (m_in v1.toInt64 0 9999)) (As := [.long v1.toInt64, .long 0, .long 9999]) (rest := []) hx hb hml hown hts hl.1 (B := fun _ => True) (fun _ _ _ _ q => q) (fun _ _ _ => trivial) (c_m_in v1.toInt64 0 9999) eX8_99 rfl rfl (Nat.le_of_ble_eq_true rfl) ⟨Nat.le_of_ble_eq_true rfl, Nat.le_of_ble_eq_true rfl⟩ ⟨rfl, rfl⟩ ⟨Nat.le_of_ble_eq_true rfl, Nat.le_of_ble_eq_true rfl⟩ dX8_night_6 ?_
  refine lv_if_eq (tgt := 42) hx hb dX8_night_9 (by decide) (fun c_14 => ?_) (fun c_14 => ?_)
  · refine lv_iconst (v := (-1)) hx hb dX8_night_42 (by decide) ?_
    have hE : (m_night RA RS RN v1 v2 v3 v4) = ((-1), (RA 36), (RA 37), (RA 39), (RA 41), (RS 38)) := by rw [m_night, if_pos c_14]
    exact W.iret (v := (-1)) hx hb hr (fun t ht hW => ⟨by rw [hE], by rw [hE]; exact kB.of (ws := RWs cI ad (va_up (va_up (va_up (va_up RA 36 (RA 36)) 37 (RA 37)) 39 (RA 39)) 41 (RA 41)) (va_up RS 38 (RS 38)) RN RL) (RWs_conv rfl rfl rfl rfl rfl rfl rfl rfl rfl rfl rfl rfl rfl rfl rfl rfl rfl rfl rfl rfl rfl rfl rfl rfl rfl rfl rfl rfl rfl rfl rfl rfl rfl rfl rfl rfl rfl rfl rfl rfl rfl hP) hK hN ht hW, hS.F ht⟩) hS.2.2 dX8_night_43 hlocks
  · have hq1 := m_in_t c_14
    have hq1b : v1.toNatClampNeg ≤ 9999 := kNat_le hq1.2
    refine lv_iload_n hx hb dX8_night_12 rfl (lv_at hl 2 rfl) ?_
    refine k_rS (v := .int (m_isRule v2)) (As := [.int v2]) (rest := []) hx hb hml hown hts hl.1 (B := fun _ => True) (fun _ _ _ _ q => q) (fun _ _ _ => trivial) (c_m_isRule v2) eX8_262 rfl rfl (Nat.le_of_ble_eq_true rfl) ⟨Nat.le_of_ble_eq_true rfl, Nat.le_of_ble_eq_true rfl⟩ ⟨rfl, rfl⟩ ⟨Nat.le_of_ble_eq_true rfl, Nat.le_of_ble_eq_true rfl⟩ dX8_night_13 ?_
    refine lv_if_eq (tgt := 42) hx hb dX8_night_16 (by decide) (fun c_15 => ?_) (fun c_15 => ?_)
    · refine lv_iconst (v := (-1)) hx hb dX8_night_42 (by decide) ?_
      have hE : (m_night RA RS RN v1 v2 v3 v4) = ((-1), (RA 36), (RA 37), (RA 39), (RA 41), (RS 38)) := by rw [m_night, if_neg c_14, if_pos c_15]
      exact W.iret (v := (-1)) hx hb hr (fun t ht hW => ⟨by rw [hE], by rw [hE]; exact kB.of (ws := RWs cI ad (va_up (va_up (va_up (va_up RA 36 (RA 36)) 37 (RA 37)) 39 (RA 39)) 41 (RA 41)) (va_up RS 38 (RS 38)) RN RL) (RWs_conv rfl rfl rfl rfl rfl rfl rfl rfl rfl rfl rfl rfl rfl rfl rfl rfl rfl rfl rfl rfl rfl rfl rfl rfl rfl rfl rfl rfl rfl rfl rfl rfl rfl rfl rfl rfl rfl rfl rfl rfl rfl hP) hK hN ht hW, hS.F ht⟩) hS.2.2 dX8_night_43 hlocks
    · refine lv_iload_n hx hb dX8_night_19 rfl (lv_at hl 3 rfl) ?_
      refine lv_i2l (v := v3.toInt64) hx hb dX8_night_20 rfl ?_
      refine lv_lconst (v := 1) hx hb dX8_night_21 (by decide) ?_
      refine lv_ldc2 (v := 24) hx hb hown (hts _ kX8_319) dX8_night_22 ?_
      refine k_rS (v := .int (m_in v3.toInt64 1 24)) (As := [.long v3.toInt64, .long 1, .long 24]) (rest := []) hx hb hml hown hts hl.1 (B := fun _ => True) (fun _ _ _ _ q => q) (fun _ _ _ => trivial) (c_m_in v3.toInt64 1 24) eX8_99 rfl rfl (Nat.le_of_ble_eq_true rfl) ⟨Nat.le_of_ble_eq_true rfl, Nat.le_of_ble_eq_true rfl⟩ ⟨rfl, rfl⟩ ⟨Nat.le_of_ble_eq_true rfl, Nat.le_of_ble_eq_true rfl⟩ dX8_night_25 ?_
      refine lv_if_eq (tgt := 42) hx hb dX8_night_28 (by decide) (fun c_16 => ?_) (fun c_16 => ?_)
      · refine lv_iconst (v := (-1)) hx hb dX8_night_42 (by decide) ?_
        have hE : (m_night RA RS RN v1 v2 v3 v4) = ((-1), (RA 36), (RA 37), (RA 39), (RA 41), (RS 38)) := by rw [m_night, if_neg c_14, if_neg c_15, if_pos c_16]
        exact W.iret (v := (-1)) hx hb hr (fun t ht hW => ⟨by rw [hE], by rw [hE]; exact kB.of (ws := RWs cI ad (va_up (va_up (va_up (va_up RA 36 (RA 36)) 37 (RA 37)) 39 (RA 39)) 41 (RA 41)) (va_up RS 38 (RS 38)) RN RL) (RWs_conv rfl rfl rfl rfl rfl rfl rfl rfl rfl rfl rfl rfl rfl rfl rfl rfl rfl rfl rfl rfl rfl rfl rfl rfl rfl rfl rfl rfl rfl rfl rfl rfl rfl rfl rfl rfl rfl rfl rfl rfl rfl hP) hK hN ht hW, hS.F ht⟩) hS.2.2 dX8_night_43 hlocks
      · have hq3 := m_in_t c_16
        have hq3a : 1 ≤ v3.toNatClampNeg := kNat_ge hq3.1
        have hq3b : v3.toNatClampNeg ≤ 24 := kNat_le hq3.2
        refine lv_iload hx hb dX8_night_31 (lv_at hl 4 rfl) ?_
        refine lv_i2l (v := v4.toInt64) hx hb dX8_night_33 rfl ?_
        refine lv_lconst (v := 0) hx hb dX8_night_34 (by decide) ?_
        refine lv_lconst (v := 1) hx hb dX8_night_35 (by decide) ?_
        refine k_rS (v := .int (m_in v4.toInt64 0 1)) (As := [.long v4.toInt64, .long 0, .long 1]) (rest := []) hx hb hml hown hts hl.1 (B := fun _ => True) (fun _ _ _ _ q => q) (fun _ _ _ => trivial) (c_m_in v4.toInt64 0 1) eX8_99 rfl rfl (Nat.le_of_ble_eq_true rfl) ⟨Nat.le_of_ble_eq_true rfl, Nat.le_of_ble_eq_true rfl⟩ ⟨rfl, rfl⟩ ⟨Nat.le_of_ble_eq_true rfl, Nat.le_of_ble_eq_true rfl⟩ dX8_night_36 ?_
        refine lv_if_ne (tgt := 44) hx hb dX8_night_39 (by decide) (fun c_17 => ?_) (fun c_17 => ?_)
        · have hq4 := m_in_t c_17
          have hq4b : v4.toNatClampNeg ≤ 1 := kNat_le hq4.2
          refine lv_aload_n hx hb dX8_night_44 rfl (lv_at hl 0 rfl) ?_
          refine lv_iload_n hx hb dX8_night_45 rfl (lv_at hl 1 rfl) ?_
          refine k_wV (r := none) (As := [.int v1]) (rest := []) hx hb hml hown hts hl.1 hP hK hN hS (c_m_drawBears hI v1 hM (mC_of hC rfl rfl rfl rfl rfl rfl) ⟨hq1.1, hq1.2⟩) eX8_321 (ci := 7) (q0 := 0) rfl rfl rfl rfl rfl (Nat.le_of_ble_eq_true rfl) ⟨Nat.le_of_ble_eq_true rfl, Nat.le_of_ble_eq_true rfl⟩ ⟨rfl, rfl⟩ ⟨Nat.le_of_ble_eq_true rfl, Nat.le_of_ble_eq_true rfl⟩ dX8_night_46 (fun H locs hP hS => ?_)
          obtain ⟨r_18, hr_18⟩ : ∃ z, z = (m_drawBears RA RS RN v1) := ⟨_, rfl⟩
          rw [← hr_18] at hP
          have hP : va_P (dC, dI) vwCl (RWs cI ad (va_up RA 41 r_18) RS RN RL) H := (RWs_conv rfl rfl rfl rfl rfl rfl rfl rfl rfl rfl rfl rfl rfl rfl rfl rfl rfl rfl rfl rfl rfl rfl rfl rfl rfl rfl rfl rfl rfl rfl rfl rfl rfl rfl rfl rfl rfl rfl rfl rfl rfl hP)
          refine lv_aload_n hx hb dX8_night_49 rfl (lv_at hl 0 rfl) ?_
          refine k_wV (r := none) (As := []) (rest := []) hx hb hml hown hts hl.1 hP hK hN hS (c_m_load hI) eX8_212 (ci := 7) (q0 := 0) rfl rfl rfl rfl rfl (Nat.le_of_ble_eq_true rfl) ⟨Nat.le_of_ble_eq_true rfl, Nat.le_of_ble_eq_true rfl⟩ ⟨rfl, rfl⟩ ⟨Nat.le_of_ble_eq_true rfl, Nat.le_of_ble_eq_true rfl⟩ dX8_night_50 (fun H locs hP hS => ?_)
          obtain ⟨r_19, hr_19⟩ : ∃ z, z = (m_load (va_up RA 41 r_18) RS) := ⟨_, rfl⟩
          rw [← hr_19] at hP
          have hP : va_P (dC, dI) vwCl (RWs cI ad (va_up (va_up (va_up (va_up RA 36 r_19.1) 37 r_19.2.1) 39 r_19.2.2.1) 41 r_18) (va_up RS 38 r_19.2.2.2) RN RL) H := (RWs_conv rfl rfl rfl rfl rfl rfl rfl rfl rfl rfl rfl rfl rfl rfl rfl rfl rfl rfl rfl rfl rfl rfl rfl rfl rfl rfl rfl rfl rfl rfl rfl rfl rfl rfl rfl rfl rfl rfl rfl rfl rfl hP)
          refine lv_aload_n hx hb dX8_night_53 rfl (lv_at hl 0 rfl) ?_
          refine m_get (v := .int (nI (RN 28))) hx hb hts hown hK hP 28 (by decide) rfl kX8_160 rfl dX8_night_54 ?_
          refine lv_istore (lv' := [(5, .int (nI (RN 28))), (0, .ref (ad 0)), (1, .int v1), (2, .int v2), (3, .int v3), (4, .int v4)]) hx hb dX8_night_57 hl (by decide) rfl (fun ls hl => ?_)
          refine lv_iconst (v := 0) hx hb dX8_night_59 (by decide) ?_
          refine lv_istore (lv' := [(6, .int 0), (5, .int (nI (RN 28))), (0, .ref (ad 0)), (1, .int v1), (2, .int v2), (3, .int v3), (4, .int v4)]) hx hb dX8_night_60 hl (by decide) rfl (fun ls hl => ?_)
          have rest_62 : ∀ (x5_62 : Nat) (a36_62 : Nat → Int32) (a37_62 : Nat → Int32) (a39_62 : Nat → Int32) (s38_62 : Int32), ∀ (H : Heap) (locs : List Loc) (ls : Array Slot), va_P (dC, dI) vwCl (RWs cI ad (va_up (va_up (va_up (va_up RA 36 a36_62) 37 a37_62) 39 a39_62) 41 r_18) (va_up RS 38 s38_62) RN RL) H → va_S (kAA ad 24) s.heap H locs → lv_has ls 10 [(0, .ref (ad 0)), (4, .int v4)] → (m_night RA RS RN v1 v2 v3 v4) = m_night_k62 RA RS RN a36_62 a37_62 a39_62 r_18 s38_62 v4 → W p l e ({ frames := 6, cells := 0, slots := 0, locals := 141 } : Room) s m args below meth c H locs 0 0 (MQ below (kQ (some (.int ((m_night RA RS RN v1 v2 v3 v4).1))) (kB (dC, dI) [(cI, .int)] (RWs cI ad (va_up (va_up (va_up (va_up RA 36 ((m_night RA RS RN v1 v2 v3 v4).2.1)) 37 ((m_night RA RS RN v1 v2 v3 v4).2.2.1)) 39 ((m_night RA RS RN v1 v2 v3 v4).2.2.2.1)) 41 ((m_night RA RS RN v1 v2 v3 v4).2.2.2.2.1)) (va_up RS 38 ((m_night RA RS RN v1 v2 v3 v4).2.2.2.2.2)) RN RL)) (kAA ad 24)) args s 0 0 (kAA ad 24)) (F0 m 245 ls []) := by
            intro x5_62 a36_62 a37_62 a39_62 s38_62 H locs ls hP hS hl  hF_62
            refine lv_aload_n hx hb dX8_night_245 rfl (lv_at hl 0 rfl) ?_
            refine m_get (v := .int (RS 26)) hx hb hts hown hK hP 26 (by decide) rfl kX8_163 rfl dX8_night_246 ?_
            refine lv_aload_n hx hb dX8_night_249 rfl (lv_at hl 0 rfl) ?_
            refine m_get (v := .int s38_62) hx hb hts hown hK hP 38 (by decide) rfl kX8_194 rfl dX8_night_250 ?_
            refine lv_iconst (v := (-1)) hx hb dX8_night_253 (by decide) ?_
            refine lv_ixor hx hb dX8_night_254 ?_
            refine lv_iand hx hb dX8_night_255 ?_
            refine lv_istore (lv' := [(6, .int ((RS 26) &&& (s38_62 ^^^ (-1)))), (0, .ref (ad 0)), (4, .int v4)]) hx hb dX8_night_256 hl (by decide) rfl (fun ls hl => ?_)
            refine lv_iconst (v := 0) hx hb dX8_night_258 (by decide) ?_
            refine lv_istore (lv' := [(7, .int 0), (6, .int ((RS 26) &&& (s38_62 ^^^ (-1)))), (0, .ref (ad 0)), (4, .int v4)]) hx hb dX8_night_259 hl (by decide) rfl (fun ls hl => ?_)
            refine lv_iconst (v := 0) hx hb dX8_night_261 (by decide) ?_
            refine lv_istore (lv' := [(8, .int 0), (7, .int 0), (6, .int ((RS 26) &&& (s38_62 ^^^ (-1)))), (0, .ref (ad 0)), (4, .int v4)]) hx hb dX8_night_262 hl (by decide) rfl (fun ls hl => ?_)
            have rest_264 : ∀ (x7_264 : Int32), ∀ (ls : Array Slot), lv_has ls 10 [(4, .int v4), (6, .int ((RS 26) &&& (s38_62 ^^^ (-1)))), (7, .int x7_264)] → (m_night RA RS RN v1 v2 v3 v4) = m_night_k264 a36_62 a37_62 a39_62 r_18 s38_62 v4 ((RS 26) &&& (s38_62 ^^^ (-1))) x7_264 → W p l e ({ frames := 6, cells := 0, slots := 0, locals := 141 } : Room) s m args below meth c H locs 0 0 (MQ below (kQ (some (.int ((m_night RA RS RN v1 v2 v3 v4).1))) (kB (dC, dI) [(cI, .int)] (RWs cI ad (va_up (va_up (va_up (va_up RA 36 ((m_night RA RS RN v1 v2 v3 v4).2.1)) 37 ((m_night RA RS RN v1 v2 v3 v4).2.2.1)) 39 ((m_night RA RS RN v1 v2 v3 v4).2.2.2.1)) 41 ((m_night RA RS RN v1 v2 v3 v4).2.2.2.2.1)) (va_up RS 38 ((m_night RA RS RN v1 v2 v3 v4).2.2.2.2.2)) RN RL)) (kAA ad 24)) args s 0 0 (kAA ad 24)) (F0 m 318 ls []) := by
              intro x7_264 ls hl  hF_264
              refine lv_iload hx hb dX8_night_318 (lv_at hl 0 rfl) ?_
              refine lv_if_ne (tgt := 328) hx hb dX8_night_320 (by decide) (fun c_20 => ?_) (fun c_20 => ?_)
              · refine lv_iload hx hb dX8_night_328 (lv_at hl 2 rfl) ?_
                have hE : (m_night RA RS RN v1 v2 v3 v4) = (x7_264, a36_62, a37_62, a39_62, r_18, s38_62) := by subst hr_19; subst hr_18; exact hF_264.trans (by rw [m_night_k264, if_neg c_20])
                exact W.iret (v := x7_264) hx hb hr (fun t ht hW => ⟨by rw [hE], by rw [hE]; exact kB.of (ws := RWs cI ad (va_up (va_up (va_up (va_up RA 36 a36_62) 37 a37_62) 39 a39_62) 41 r_18) (va_up RS 38 s38_62) RN RL) hP hK hN ht hW, hS.F ht⟩) hS.2.2 dX8_night_330 hlocks
              · refine lv_iload hx hb dX8_night_323 (lv_at hl 1 rfl) ?_
                refine lv_goto (tgt := 330) hx hb dX8_night_325 (by decide) ?_
                have hE : (m_night RA RS RN v1 v2 v3 v4) = (((RS 26) &&& (s38_62 ^^^ (-1))), a36_62, a37_62, a39_62, r_18, s38_62) := by subst hr_19; subst hr_18; exact hF_264.trans (by rw [m_night_k264, if_pos c_20])
                exact W.iret (v := ((RS 26) &&& (s38_62 ^^^ (-1)))) hx hb hr (fun t ht hW => ⟨by rw [hE], by rw [hE]; exact kB.of (ws := RWs cI ad (va_up (va_up (va_up (va_up RA 36 a36_62) 37 a37_62) 39 a39_62) 41 r_18) (va_up RS 38 s38_62) RN RL) hP hK hN ht hW, hS.F ht⟩) hS.2.2 dX8_night_330 hlocks
            have loop_264 : ∀ (n_264 i_264 : Nat) (x7_264 : Int32), i_264 + n_264 = (RN 4) → ∀ (ls : Array Slot), lv_has ls 10 [(0, .ref (ad 0)), (4, .int v4), (6, .int ((RS 26) &&& (s38_62 ^^^ (-1)))), (7, .int x7_264), (8, .int (nI i_264))] → (∀ (ls : Array Slot), lv_has ls 10 [(4, .int v4), (6, .int ((RS 26) &&& (s38_62 ^^^ (-1)))), (7, .int (m_night_L264 RA RS ((RS 26) &&& (s38_62 ^^^ (-1))) n_264 i_264 x7_264))] → W p l e ({ frames := 6, cells := 0, slots := 0, locals := 141 } : Room) s m args below meth c H locs 0 0 (MQ below (kQ (some (.int ((m_night RA RS RN v1 v2 v3 v4).1))) (kB (dC, dI) [(cI, .int)] (RWs cI ad (va_up (va_up (va_up (va_up RA 36 ((m_night RA RS RN v1 v2 v3 v4).2.1)) 37 ((m_night RA RS RN v1 v2 v3 v4).2.2.1)) 39 ((m_night RA RS RN v1 v2 v3 v4).2.2.2.1)) 41 ((m_night RA RS RN v1 v2 v3 v4).2.2.2.2.1)) (va_up RS 38 ((m_night RA RS RN v1 v2 v3 v4).2.2.2.2.2)) RN RL)) (kAA ad 24)) args s 0 0 (kAA ad 24)) (F0 m 318 ls [])) → W p l e ({ frames := 6, cells := 0, slots := 0, locals := 141 } : Room) s m args below meth c H locs 0 0 (MQ below (kQ (some (.int ((m_night RA RS RN v1 v2 v3 v4).1))) (kB (dC, dI) [(cI, .int)] (RWs cI ad (va_up (va_up (va_up (va_up RA 36 ((m_night RA RS RN v1 v2 v3 v4).2.1)) 37 ((m_night RA RS RN v1 v2 v3 v4).2.2.1)) 39 ((m_night RA RS RN v1 v2 v3 v4).2.2.2.1)) 41 ((m_night RA RS RN v1 v2 v3 v4).2.2.2.2.1)) (va_up RS 38 ((m_night RA RS RN v1 v2 v3 v4).2.2.2.2.2)) RN RL)) (kAA ad 24)) args s 0 0 (kAA ad 24)) (F0 m 264 ls []) := by
              intro n_264
              induction n_264 with
              | zero =>
                intro i_264 x7_264 hin_264 ls hl  hk_264
                refine lv_iload hx hb dX8_night_264 (lv_at hl 4 rfl) ?_
                refine lv_aload_n hx hb dX8_night_266 rfl (lv_at hl 0 rfl) ?_
                refine m_get (v := .int (nI (RN 4))) hx hb hts hown hK hP 4 (by decide) rfl kX8_82 rfl dX8_night_267 ?_
                refine lv_icmp_ge (tgt := 318) hx hb dX8_night_270 (by decide) (fun _ => ?_) (fun c_21 => absurd (kct_ge (N := (RN 4)) (nI_clamp (by omega)) (by omega) (by omega)) c_21)
                have hL_264 : (m_night_L264 RA RS ((RS 26) &&& (s38_62 ^^^ (-1))) 0 i_264 x7_264) = x7_264 := by subst hr_19; subst hr_18; rw [m_night_L264.eq_1]
                try rw [hL_264] at hk_264
                exact hk_264 _ (lv_sub hl [1, 2, 3] rfl) 
              | succ n_264 ih_264 =>
                intro i_264 x7_264 hin_264 ls hl  hk_264
                refine lv_iload hx hb dX8_night_264 (lv_at hl 4 rfl) ?_
                refine lv_aload_n hx hb dX8_night_266 rfl (lv_at hl 0 rfl) ?_
                refine m_get (v := .int (nI (RN 4))) hx hb hts hown hK hP 4 (by decide) rfl kX8_82 rfl dX8_night_267 ?_
                refine lv_icmp_ge (tgt := 318) hx hb dX8_night_270 (by decide) (fun c_22 => absurd c_22 (kct_lt (N := (RN 4)) (nI_clamp (by omega)) (by omega))) (fun _ => ?_)
                refine lv_iload hx hb dX8_night_273 (lv_at hl 3 rfl) ?_
                refine lv_iload hx hb dX8_night_275 (lv_at hl 2 rfl) ?_
                refine lv_iload hx hb dX8_night_277 (lv_at hl 4 rfl) ?_
                refine k_rS (v := .int (m_has ((RS 26) &&& (s38_62 ^^^ (-1))) (nI i_264))) (As := [.int ((RS 26) &&& (s38_62 ^^^ (-1))), .int (nI i_264)]) (rest := [.int x7_264]) hx hb hml hown hts hl.1 (B := fun _ => True) (fun _ _ _ _ q => q) (fun _ _ _ => trivial) (c_m_has ((RS 26) &&& (s38_62 ^^^ (-1))) (nI i_264)) eX8_204 rfl rfl (Nat.le_of_ble_eq_true rfl) ⟨Nat.le_of_ble_eq_true rfl, Nat.le_of_ble_eq_true rfl⟩ ⟨rfl, rfl⟩ ⟨Nat.le_of_ble_eq_true rfl, Nat.le_of_ble_eq_true rfl⟩ dX8_night_279 ?_
                refine lv_if_eq (tgt := 308) hx hb dX8_night_282 (by decide) (fun c_23 => ?_) (fun c_23 => ?_)
                · refine lv_iconst (v := 0) hx hb dX8_night_308 (by decide) ?_
                  refine lv_iadd hx hb dX8_night_309 ?_
                  refine lv_istore (lv' := [(7, .int (x7_264 + 0)), (0, .ref (ad 0)), (4, .int v4), (6, .int ((RS 26) &&& (s38_62 ^^^ (-1)))), (8, .int (nI i_264))]) hx hb dX8_night_310 hl (by decide) rfl (fun ls hl => ?_)
                  refine lv_iinc (v := (nI (i_264 + 1))) (lv' := [(8, .int (nI (i_264 + 1))), (7, .int (x7_264 + 0)), (0, .ref (ad 0)), (4, .int v4), (6, .int ((RS 26) &&& (s38_62 ^^^ (-1))))]) hx hb dX8_night_312 hl (k := 4) rfl (nI_add _ _) (by decide) rfl (fun ls hl => ?_)
                  refine lv_goto (tgt := 264) hx hb dX8_night_315 (by decide) ?_
                  have hL_264 : (m_night_L264 RA RS ((RS 26) &&& (s38_62 ^^^ (-1))) (n_264 + 1) i_264 x7_264) = (m_night_L264 RA RS ((RS 26) &&& (s38_62 ^^^ (-1))) n_264 (i_264 + 1) (x7_264 + 0)) := by subst hr_19; subst hr_18; rw [m_night_L264.eq_2, if_pos c_23]
                  try rw [hL_264] at hk_264
                  exact ih_264 (i_264 + 1) (x7_264 + 0) (by omega) _ (lv_sub hl [2, 3, 4, 1, 0] rfl)  hk_264
                · refine lv_aload_n hx hb dX8_night_285 rfl (lv_at hl 0 rfl) ?_
                  refine m_get (v := .ref (ad 5)) hx hb hts hown hK hP 7 (by decide) rfl kX8_22 rfl dX8_night_286 ?_
                  refine lv_iload hx hb dX8_night_289 (lv_at hl 4 rfl) ?_
                  refine kn_iald (f := (RA 7)) (v := (RA 7 i_264)) hx hb hK hP 5 rfl i_264 rfl (by omega) (by omega) rfl dX8_night_291 ?_
                  refine lv_aload_n hx hb dX8_night_292 rfl (lv_at hl 0 rfl) ?_
                  refine m_get (v := .int (RS 20)) hx hb hts hown hK hP 20 (by decide) rfl kX8_157 rfl dX8_night_293 ?_
                  refine lv_aload_n hx hb dX8_night_296 rfl (lv_at hl 0 rfl) ?_
                  refine m_get (v := .ref (ad 7)) hx hb hts hown hK hP 9 (by decide) rfl kX8_28 rfl dX8_night_297 ?_
                  refine lv_iload hx hb dX8_night_300 (lv_at hl 4 rfl) ?_
                  refine kn_iald (f := (RA 9)) (v := (RA 9 i_264)) hx hb hK hP 7 rfl i_264 rfl (by omega) (by omega) rfl dX8_night_302 ?_
                  refine lv_imul hx hb dX8_night_303 ?_
                  refine lv_iadd hx hb dX8_night_304 ?_
                  refine lv_goto (tgt := 309) hx hb dX8_night_305 (by decide) ?_
                  refine lv_iadd hx hb dX8_night_309 ?_
                  refine lv_istore (lv' := [(7, .int (x7_264 + ((RA 7 i_264) + ((RS 20) * (RA 9 i_264))))), (0, .ref (ad 0)), (4, .int v4), (6, .int ((RS 26) &&& (s38_62 ^^^ (-1)))), (8, .int (nI i_264))]) hx hb dX8_night_310 hl (by decide) rfl (fun ls hl => ?_)
                  refine lv_iinc (v := (nI (i_264 + 1))) (lv' := [(8, .int (nI (i_264 + 1))), (7, .int (x7_264 + ((RA 7 i_264) + ((RS 20) * (RA 9 i_264))))), (0, .ref (ad 0)), (4, .int v4), (6, .int ((RS 26) &&& (s38_62 ^^^ (-1))))]) hx hb dX8_night_312 hl (k := 4) rfl (nI_add _ _) (by decide) rfl (fun ls hl => ?_)
                  refine lv_goto (tgt := 264) hx hb dX8_night_315 (by decide) ?_
                  have hL_264 : (m_night_L264 RA RS ((RS 26) &&& (s38_62 ^^^ (-1))) (n_264 + 1) i_264 x7_264) = (m_night_L264 RA RS ((RS 26) &&& (s38_62 ^^^ (-1))) n_264 (i_264 + 1) (x7_264 + ((RA 7 i_264) + ((RS 20) * (RA 9 i_264))))) := by subst hr_19; subst hr_18; rw [m_night_L264.eq_2, if_neg c_23]
                  try rw [hL_264] at hk_264
                  exact ih_264 (i_264 + 1) (x7_264 + ((RA 7 i_264) + ((RS 20) * (RA 9 i_264)))) (by omega) _ (lv_sub hl [2, 3, 4, 1, 0] rfl)  hk_264
            exact loop_264 (RN 4) 0 0 (by omega) _ (lv_sub hl [3, 4, 2, 1, 0] rfl)  (fun ls hl  => rest_264 (m_night_L264 RA RS ((RS 26) &&& (s38_62 ^^^ (-1))) (RN 4) 0 0) _ hl  (by subst hr_19; subst hr_18; exact hF_62.trans (by rw [m_night_k62])))
          have hN_62 : v3.toNatClampNeg < 2 ^ 31 := kcl_lt _
          have loop_62 : ∀ (n_62 i_62 : Nat) (x5_62 : Nat) (a36_62 : Nat → Int32) (a37_62 : Nat → Int32) (a39_62 : Nat → Int32) (s38_62 : Int32), i_62 + n_62 = v3.toNatClampNeg → ∀ (H : Heap) (locs : List Loc) (ls : Array Slot), va_P (dC, dI) vwCl (RWs cI ad (va_up (va_up (va_up (va_up RA 36 a36_62) 37 a37_62) 39 a39_62) 41 r_18) (va_up RS 38 s38_62) RN RL) H → va_S (kAA ad 24) s.heap H locs → lv_has ls 10 [(0, .ref (ad 0)), (1, .int v1), (2, .int v2), (3, .int v3), (4, .int v4), (5, .int (nI x5_62)), (6, .int (nI i_62))] → (x5_62 < 3) → (∀ (H : Heap) (locs : List Loc) (ls : Array Slot), va_P (dC, dI) vwCl (RWs cI ad (va_up (va_up (va_up (va_up RA 36 ((m_night_L62 RA RS RN r_18 v1 v2 n_62 i_62 x5_62 a36_62 a37_62 a39_62 s38_62).2.1)) 37 ((m_night_L62 RA RS RN r_18 v1 v2 n_62 i_62 x5_62 a36_62 a37_62 a39_62 s38_62).2.2.1)) 39 ((m_night_L62 RA RS RN r_18 v1 v2 n_62 i_62 x5_62 a36_62 a37_62 a39_62 s38_62).2.2.2.1)) 41 r_18) (va_up RS 38 ((m_night_L62 RA RS RN r_18 v1 v2 n_62 i_62 x5_62 a36_62 a37_62 a39_62 s38_62).2.2.2.2)) RN RL) H → va_S (kAA ad 24) s.heap H locs → lv_has ls 10 [(0, .ref (ad 0)), (4, .int v4)] → W p l e ({ frames := 6, cells := 0, slots := 0, locals := 141 } : Room) s m args below meth c H locs 0 0 (MQ below (kQ (some (.int ((m_night RA RS RN v1 v2 v3 v4).1))) (kB (dC, dI) [(cI, .int)] (RWs cI ad (va_up (va_up (va_up (va_up RA 36 ((m_night RA RS RN v1 v2 v3 v4).2.1)) 37 ((m_night RA RS RN v1 v2 v3 v4).2.2.1)) 39 ((m_night RA RS RN v1 v2 v3 v4).2.2.2.1)) 41 ((m_night RA RS RN v1 v2 v3 v4).2.2.2.2.1)) (va_up RS 38 ((m_night RA RS RN v1 v2 v3 v4).2.2.2.2.2)) RN RL)) (kAA ad 24)) args s 0 0 (kAA ad 24)) (F0 m 245 ls [])) → W p l e ({ frames := 6, cells := 0, slots := 0, locals := 141 } : Room) s m args below meth c H locs 0 0 (MQ below (kQ (some (.int ((m_night RA RS RN v1 v2 v3 v4).1))) (kB (dC, dI) [(cI, .int)] (RWs cI ad (va_up (va_up (va_up (va_up RA 36 ((m_night RA RS RN v1 v2 v3 v4).2.1)) 37 ((m_night RA RS RN v1 v2 v3 v4).2.2.1)) 39 ((m_night RA RS RN v1 v2 v3 v4).2.2.2.1)) 41 ((m_night RA RS RN v1 v2 v3 v4).2.2.2.2.1)) (va_up RS 38 ((m_night RA RS RN v1 v2 v3 v4).2.2.2.2.2)) RN RL)) (kAA ad 24)) args s 0 0 (kAA ad 24)) (F0 m 62 ls []) := by
            intro n_62
            induction n_62 with
            | zero =>
              intro i_62 x5_62 a36_62 a37_62 a39_62 s38_62 hin_62 H locs ls hP hS hl hinv_62a hk_62
              refine lv_iload hx hb dX8_night_62 (lv_at hl 6 rfl) ?_
              refine lv_iload_n hx hb dX8_night_64 rfl (lv_at hl 3 rfl) ?_
              refine lv_icmp_ge (tgt := 245) hx hb dX8_night_65 (by decide) (fun _ => ?_) (fun c_24 => absurd (kct_ge (N := v3.toNatClampNeg) rfl (by omega) (by omega)) c_24)
              have hL_62 : (m_night_L62 RA RS RN r_18 v1 v2 0 i_62 x5_62 a36_62 a37_62 a39_62 s38_62) = (x5_62, a36_62, a37_62, a39_62, s38_62) := by subst hr_19; subst hr_18; rw [m_night_L62.eq_1]
              try rw [hL_62] at hk_62
              exact hk_62 _ _ _ hP hS (lv_sub hl [0, 4] rfl) 
            | succ n_62 ih_62 =>
              intro i_62 x5_62 a36_62 a37_62 a39_62 s38_62 hin_62 H locs ls hP hS hl hinv_62a hk_62
              refine lv_iload hx hb dX8_night_62 (lv_at hl 6 rfl) ?_
              refine lv_iload_n hx hb dX8_night_64 rfl (lv_at hl 3 rfl) ?_
              refine lv_icmp_ge (tgt := 245) hx hb dX8_night_65 (by decide) (fun c_25 => absurd c_25 (kct_lt (N := v3.toNatClampNeg) rfl (by omega))) (fun _ => ?_)
              refine lv_iload_n hx hb dX8_night_68 rfl (lv_at hl 1 rfl) ?_
              refine lv_aload_n hx hb dX8_night_69 rfl (lv_at hl 0 rfl) ?_
              refine m_get (v := .int (RS 27)) hx hb hts hown hK hP 27 (by decide) rfl kX8_166 rfl dX8_night_70 ?_
              refine lv_iload hx hb dX8_night_73 (lv_at hl 6 rfl) ?_
              refine lv_iadd hx hb dX8_night_75 ?_
              refine lv_bipush (v := 98) hx hb dX8_night_76 (by decide) ?_
              refine k_rS (v := .int (m_draw v1 ((RS 27) + (nI i_62)) 98)) (As := [.int v1, .int ((RS 27) + (nI i_62)), .int 98]) (rest := []) hx hb hml hown hts hl.1 (B := fun _ => True) (fun _ _ _ _ q => q) (fun _ _ _ => trivial) (c_m_draw v1 ((RS 27) + (nI i_62)) 98) eX8_314 rfl rfl (Nat.le_of_ble_eq_true rfl) ⟨Nat.le_of_ble_eq_true rfl, Nat.le_of_ble_eq_true rfl⟩ ⟨rfl, rfl⟩ ⟨Nat.le_of_ble_eq_true rfl, Nat.le_of_ble_eq_true rfl⟩ dX8_night_78 ?_
              refine lv_bipush (v := 10) hx hb dX8_night_81 (by decide) ?_
              refine lv_irem hx hb dX8_night_83 (by decide) ?_
              refine lv_istore (lv' := [(7, .int ((m_draw v1 ((RS 27) + (nI i_62)) 98) - (m_draw v1 ((RS 27) + (nI i_62)) 98) / 10 * 10)), (0, .ref (ad 0)), (1, .int v1), (2, .int v2), (3, .int v3), (4, .int v4), (5, .int (nI x5_62)), (6, .int (nI i_62))]) hx hb dX8_night_84 hl (by decide) rfl (fun ls hl => ?_)
              refine lv_iload hx hb dX8_night_86 (lv_at hl 0 rfl) ?_
              refine lv_aload_n hx hb dX8_night_88 rfl (lv_at hl 1 rfl) ?_
              refine m_get (v := .ref (ad 12)) hx hb hts hown hK hP 14 (by decide) rfl kX8_43 rfl dX8_night_89 ?_
              refine lv_iconst (v := 3) hx hb dX8_night_92 (by decide) ?_
              refine lv_iload hx hb dX8_night_93 (lv_at hl 6 rfl) ?_
              refine kn_imul hx hb 3 x5_62 rfl rfl dX8_night_95 ?_
              refine kn_iald (f := (RA 14)) (v := (RA 14 (3 * x5_62))) hx hb hK hP 12 rfl (3 * x5_62) rfl (by omega) (by omega) rfl dX8_night_96 ?_
              refine lv_icmp_ge (tgt := 104) hx hb dX8_night_97 (by decide) (fun c_26 => ?_) (fun c_26 => ?_)
              · refine lv_iload hx hb dX8_night_104 (lv_at hl 0 rfl) ?_
                refine lv_aload_n hx hb dX8_night_106 rfl (lv_at hl 1 rfl) ?_
                refine m_get (v := .ref (ad 12)) hx hb hts hown hK hP 14 (by decide) rfl kX8_43 rfl dX8_night_107 ?_
                refine lv_iconst (v := 3) hx hb dX8_night_110 (by decide) ?_
                refine lv_iload hx hb dX8_night_111 (lv_at hl 6 rfl) ?_
                refine kn_imul hx hb 3 x5_62 rfl rfl dX8_night_113 ?_
                refine kn_iald (f := (RA 14)) (v := (RA 14 (3 * x5_62))) hx hb hK hP 12 rfl (3 * x5_62) rfl (by omega) (by omega) rfl dX8_night_114 ?_
                refine lv_aload_n hx hb dX8_night_115 rfl (lv_at hl 1 rfl) ?_
                refine m_get (v := .ref (ad 12)) hx hb hts hown hK hP 14 (by decide) rfl kX8_43 rfl dX8_night_116 ?_
                refine lv_iconst (v := 3) hx hb dX8_night_119 (by decide) ?_
                refine lv_iload hx hb dX8_night_120 (lv_at hl 6 rfl) ?_
                refine kn_imul hx hb 3 x5_62 rfl rfl dX8_night_122 ?_
                refine lv_iconst (v := 1) hx hb dX8_night_123 (by decide) ?_
                refine kn_iadd hx hb (3 * x5_62) 1 rfl rfl dX8_night_124 ?_
                refine kn_iald (f := (RA 14)) (v := (RA 14 ((3 * x5_62) + 1))) hx hb hK hP 12 rfl ((3 * x5_62) + 1) rfl (by omega) (by omega) rfl dX8_night_125 ?_
                refine lv_iadd hx hb dX8_night_126 ?_
                refine lv_icmp_ge (tgt := 134) hx hb dX8_night_127 (by decide) (fun c_27 => ?_) (fun c_27 => ?_)
                · refine lv_iconst (v := 2) hx hb dX8_night_134 (by decide) ?_
                  refine lv_istore (lv' := [(8, .int 2), (7, .int ((m_draw v1 ((RS 27) + (nI i_62)) 98) - (m_draw v1 ((RS 27) + (nI i_62)) 98) / 10 * 10)), (0, .ref (ad 0)), (1, .int v1), (2, .int v2), (3, .int v3), (4, .int v4), (5, .int (nI x5_62)), (6, .int (nI i_62))]) hx hb dX8_night_135 hl (by decide) rfl (fun ls hl => ?_)
                  refine lv_aload_n hx hb dX8_night_137 rfl (lv_at hl 2 rfl) ?_
                  refine lv_iload_n hx hb dX8_night_138 rfl (lv_at hl 4 rfl) ?_
                  refine lv_iload hx hb dX8_night_139 (lv_at hl 0 rfl) ?_
                  refine lv_aload_n hx hb dX8_night_141 rfl (lv_at hl 2 rfl) ?_
                  refine m_get (v := .int (RS 15)) hx hb hts hown hK hP 15 (by decide) rfl kX8_142 rfl dX8_night_142 ?_
                  refine lv_bipush (v := (-4)) hx hb dX8_night_145 (by decide) ?_
                  refine k_wV (r := none) (As := [.int v2, .int 2, .int (RS 15), .int (-4)]) (rest := []) hx hb hml hown hts hl.1 hP hK hN hS (c_m_goHour hI v2 2 (RS 15) (-4) hM (by omega) (by decide)) eX8_268 (ci := 7) (q0 := 0) rfl rfl rfl rfl rfl (Nat.le_of_ble_eq_true rfl) ⟨Nat.le_of_ble_eq_true rfl, Nat.le_of_ble_eq_true rfl⟩ ⟨rfl, rfl⟩ ⟨Nat.le_of_ble_eq_true rfl, Nat.le_of_ble_eq_true rfl⟩ dX8_night_147 (fun H locs hP hS => ?_)
                  obtain ⟨r_28, hr_28⟩ : ∃ z, z = (m_goHour (va_up (va_up (va_up (va_up RA 36 a36_62) 37 a37_62) 39 a39_62) 41 r_18) (va_up RS 38 s38_62) RN v2 2 (RS 15) (-4)) := ⟨_, rfl⟩
                  rw [← hr_28] at hP
                  have hP : va_P (dC, dI) vwCl (RWs cI ad (va_up (va_up (va_up (va_up RA 36 r_28.1) 37 r_28.2.1) 39 r_28.2.2) 41 r_18) (va_up RS 38 s38_62) RN RL) H := (RWs_conv rfl rfl rfl rfl rfl rfl rfl rfl rfl rfl rfl rfl rfl rfl rfl rfl rfl rfl rfl rfl rfl rfl rfl rfl rfl rfl rfl rfl rfl rfl rfl rfl rfl rfl rfl rfl rfl rfl rfl rfl rfl hP)
                  refine lv_iload hx hb dX8_night_150 (lv_at hl 0 rfl) ?_
                  refine lv_istore (lv' := [(5, .int 2), (8, .int 2), (7, .int ((m_draw v1 ((RS 27) + (nI i_62)) 98) - (m_draw v1 ((RS 27) + (nI i_62)) 98) / 10 * 10)), (0, .ref (ad 0)), (1, .int v1), (2, .int v2), (3, .int v3), (4, .int v4), (6, .int (nI i_62))]) hx hb dX8_night_152 hl (by decide) rfl (fun ls hl => ?_)
                  refine lv_iconst (v := 0) hx hb dX8_night_154 (by decide) ?_
                  refine lv_istore (lv' := [(9, .int 0), (5, .int 2), (8, .int 2), (7, .int ((m_draw v1 ((RS 27) + (nI i_62)) 98) - (m_draw v1 ((RS 27) + (nI i_62)) 98) / 10 * 10)), (0, .ref (ad 0)), (1, .int v1), (2, .int v2), (3, .int v3), (4, .int v4), (6, .int (nI i_62))]) hx hb dX8_night_155 hl (by decide) rfl (fun ls hl => ?_)
                  have rest_157 : ∀ (a36_157 : Nat → Int32) (s38_157 : Int32), ∀ (H : Heap) (locs : List Loc) (ls : Array Slot), va_P (dC, dI) vwCl (RWs cI ad (va_up (va_up (va_up (va_up RA 36 a36_157) 37 r_28.2.1) 39 r_28.2.2) 41 r_18) (va_up RS 38 s38_157) RN RL) H → va_S (kAA ad 24) s.heap H locs → lv_has ls 10 [(0, .ref (ad 0)), (1, .int v1), (2, .int v2), (3, .int v3), (4, .int v4), (5, .int 2), (6, .int (nI i_62))] → (m_night_b62 RA RS RN r_18 v1 v2 i_62 x5_62 a36_62 a37_62 a39_62 s38_62) = m_night_b62_k157 a36_157 r_28.2.1 r_28.2.2 s38_157 2 → W p l e ({ frames := 6, cells := 0, slots := 0, locals := 141 } : Room) s m args below meth c H locs 0 0 (MQ below (kQ (some (.int ((m_night RA RS RN v1 v2 v3 v4).1))) (kB (dC, dI) [(cI, .int)] (RWs cI ad (va_up (va_up (va_up (va_up RA 36 ((m_night RA RS RN v1 v2 v3 v4).2.1)) 37 ((m_night RA RS RN v1 v2 v3 v4).2.2.1)) 39 ((m_night RA RS RN v1 v2 v3 v4).2.2.2.1)) 41 ((m_night RA RS RN v1 v2 v3 v4).2.2.2.2.1)) (va_up RS 38 ((m_night RA RS RN v1 v2 v3 v4).2.2.2.2.2)) RN RL)) (kAA ad 24)) args s 0 0 (kAA ad 24)) (F0 m 239 ls []) := by
                    intro a36_157 s38_157 H locs ls hP hS hl  hF_157
                    refine lv_iinc (v := (nI (i_62 + 1))) (lv' := [(6, .int (nI (i_62 + 1))), (0, .ref (ad 0)), (1, .int v1), (2, .int v2), (3, .int v3), (4, .int v4), (5, .int 2)]) hx hb dX8_night_239 hl (k := 6) rfl (nI_add _ _) (by decide) rfl (fun ls hl => ?_)
                    refine lv_goto (tgt := 62) hx hb dX8_night_242 (by decide) ?_
                    have hb_62 : (m_night_b62 RA RS RN r_18 v1 v2 i_62 x5_62 a36_62 a37_62 a39_62 s38_62) = (2, a36_157, r_28.2.1, r_28.2.2, s38_157) := by subst hr_28; subst hr_19; subst hr_18; exact hF_157.trans (by rw [m_night_b62_k157])
                    have hL_62 : (m_night_L62 RA RS RN r_18 v1 v2 (n_62 + 1) i_62 x5_62 a36_62 a37_62 a39_62 s38_62) = (m_night_L62 RA RS RN r_18 v1 v2 n_62 (i_62 + 1) 2 a36_157 r_28.2.1 r_28.2.2 s38_157) := by rw [m_night_L62.eq_2, hb_62]
                    try rw [hL_62] at hk_62
                    exact ih_62 (i_62 + 1) 2 a36_157 r_28.2.1 r_28.2.2 s38_157 (by omega) _ _ _ hP hS (lv_sub hl [1, 2, 3, 4, 5, 6, 0] rfl) (by omega) hk_62
                  have loop_157 : ∀ (n_157 i_157 : Nat) (a36_157 : Nat → Int32) (s38_157 : Int32), i_157 + n_157 = (RN 4) → ∀ (H : Heap) (locs : List Loc) (ls : Array Slot), va_P (dC, dI) vwCl (RWs cI ad (va_up (va_up (va_up (va_up RA 36 a36_157) 37 r_28.2.1) 39 r_28.2.2) 41 r_18) (va_up RS 38 s38_157) RN RL) H → va_S (kAA ad 24) s.heap H locs → lv_has ls 10 [(0, .ref (ad 0)), (1, .int v1), (2, .int v2), (3, .int v3), (4, .int v4), (5, .int 2), (6, .int (nI i_62)), (9, .int (nI i_157))] → (∀ (H : Heap) (locs : List Loc) (ls : Array Slot), va_P (dC, dI) vwCl (RWs cI ad (va_up (va_up (va_up (va_up RA 36 ((m_night_L157 RA RS r_28.2.1 r_28.2.2 r_18 n_157 i_157 a36_157 s38_157).1)) 37 r_28.2.1) 39 r_28.2.2) 41 r_18) (va_up RS 38 ((m_night_L157 RA RS r_28.2.1 r_28.2.2 r_18 n_157 i_157 a36_157 s38_157).2)) RN RL) H → va_S (kAA ad 24) s.heap H locs → lv_has ls 10 [(0, .ref (ad 0)), (1, .int v1), (2, .int v2), (3, .int v3), (4, .int v4), (5, .int 2), (6, .int (nI i_62))] → W p l e ({ frames := 6, cells := 0, slots := 0, locals := 141 } : Room) s m args below meth c H locs 0 0 (MQ below (kQ (some (.int ((m_night RA RS RN v1 v2 v3 v4).1))) (kB (dC, dI) [(cI, .int)] (RWs cI ad (va_up (va_up (va_up (va_up RA 36 ((m_night RA RS RN v1 v2 v3 v4).2.1)) 37 ((m_night RA RS RN v1 v2 v3 v4).2.2.1)) 39 ((m_night RA RS RN v1 v2 v3 v4).2.2.2.1)) 41 ((m_night RA RS RN v1 v2 v3 v4).2.2.2.2.1)) (va_up RS 38 ((m_night RA RS RN v1 v2 v3 v4).2.2.2.2.2)) RN RL)) (kAA ad 24)) args s 0 0 (kAA ad 24)) (F0 m 239 ls [])) → W p l e ({ frames := 6, cells := 0, slots := 0, locals := 141 } : Room) s m args below meth c H locs 0 0 (MQ below (kQ (some (.int ((m_night RA RS RN v1 v2 v3 v4).1))) (kB (dC, dI) [(cI, .int)] (RWs cI ad (va_up (va_up (va_up (va_up RA 36 ((m_night RA RS RN v1 v2 v3 v4).2.1)) 37 ((m_night RA RS RN v1 v2 v3 v4).2.2.1)) 39 ((m_night RA RS RN v1 v2 v3 v4).2.2.2.1)) 41 ((m_night RA RS RN v1 v2 v3 v4).2.2.2.2.1)) (va_up RS 38 ((m_night RA RS RN v1 v2 v3 v4).2.2.2.2.2)) RN RL)) (kAA ad 24)) args s 0 0 (kAA ad 24)) (F0 m 157 ls []) := by
                    intro n_157
                    induction n_157 with
                    | zero =>
                      intro i_157 a36_157 s38_157 hin_157 H locs ls hP hS hl  hk_157
                      refine lv_iload hx hb dX8_night_157 (lv_at hl 7 rfl) ?_
                      refine lv_aload_n hx hb dX8_night_159 rfl (lv_at hl 0 rfl) ?_
                      refine m_get (v := .int (nI (RN 4))) hx hb hts hown hK hP 4 (by decide) rfl kX8_82 rfl dX8_night_160 ?_
                      refine lv_icmp_ge (tgt := 239) hx hb dX8_night_163 (by decide) (fun _ => ?_) (fun c_29 => absurd (kct_ge (N := (RN 4)) (nI_clamp (by omega)) (by omega) (by omega)) c_29)
                      have hL_157 : (m_night_L157 RA RS r_28.2.1 r_28.2.2 r_18 0 i_157 a36_157 s38_157) = (a36_157, s38_157) := by subst hr_28; subst hr_19; subst hr_18; rw [m_night_L157.eq_1]
                      try rw [hL_157] at hk_157
                      exact hk_157 _ _ _ hP hS (lv_sub hl [0, 1, 2, 3, 4, 5, 6] rfl) 
                    | succ n_157 ih_157 =>
                      intro i_157 a36_157 s38_157 hin_157 H locs ls hP hS hl  hk_157
                      refine lv_iload hx hb dX8_night_157 (lv_at hl 7 rfl) ?_
                      refine lv_aload_n hx hb dX8_night_159 rfl (lv_at hl 0 rfl) ?_
                      refine m_get (v := .int (nI (RN 4))) hx hb hts hown hK hP 4 (by decide) rfl kX8_82 rfl dX8_night_160 ?_
                      refine lv_icmp_ge (tgt := 239) hx hb dX8_night_163 (by decide) (fun c_30 => absurd c_30 (kct_lt (N := (RN 4)) (nI_clamp (by omega)) (by omega))) (fun _ => ?_)
                      refine lv_aload_n hx hb dX8_night_166 rfl (lv_at hl 0 rfl) ?_
                      refine m_get (v := .int s38_157) hx hb hts hown hK hP 38 (by decide) rfl kX8_194 rfl dX8_night_167 ?_
                      refine lv_iload hx hb dX8_night_170 (lv_at hl 7 rfl) ?_
                      refine k_rS (v := .int (m_has s38_157 (nI i_157))) (As := [.int s38_157, .int (nI i_157)]) (rest := []) hx hb hml hown hts hl.1 (B := fun _ => True) (fun _ _ _ _ q => q) (fun _ _ _ => trivial) (c_m_has s38_157 (nI i_157)) eX8_204 rfl rfl (Nat.le_of_ble_eq_true rfl) ⟨Nat.le_of_ble_eq_true rfl, Nat.le_of_ble_eq_true rfl⟩ ⟨rfl, rfl⟩ ⟨Nat.le_of_ble_eq_true rfl, Nat.le_of_ble_eq_true rfl⟩ dX8_night_172 ?_
                      refine lv_if_eq (tgt := 233) hx hb dX8_night_175 (by decide) (fun c_31 => ?_) (fun c_31 => ?_)
                      · refine lv_iinc (v := (nI (i_157 + 1))) (lv' := [(9, .int (nI (i_157 + 1))), (0, .ref (ad 0)), (1, .int v1), (2, .int v2), (3, .int v3), (4, .int v4), (5, .int 2), (6, .int (nI i_62))]) hx hb dX8_night_233 hl (k := 7) rfl (nI_add _ _) (by decide) rfl (fun ls hl => ?_)
                        refine lv_goto (tgt := 157) hx hb dX8_night_236 (by decide) ?_
                        have hL_157 : (m_night_L157 RA RS r_28.2.1 r_28.2.2 r_18 (n_157 + 1) i_157 a36_157 s38_157) = (m_night_L157 RA RS r_28.2.1 r_28.2.2 r_18 n_157 (i_157 + 1) a36_157 s38_157) := by subst hr_28; subst hr_19; subst hr_18; rw [m_night_L157.eq_2, if_pos c_31]
                        try rw [hL_157] at hk_157
                        exact ih_157 (i_157 + 1) a36_157 s38_157 (by omega) _ _ _ hP hS (lv_sub hl [1, 2, 3, 4, 5, 6, 7, 0] rfl)  hk_157
                      · refine lv_aload_n hx hb dX8_night_178 rfl (lv_at hl 0 rfl) ?_
                        refine m_get (v := .ref (ad 23)) hx hb hts hown hK hP 41 (by decide) rfl kX8_76 rfl dX8_night_179 ?_
                        refine lv_iload hx hb dX8_night_182 (lv_at hl 7 rfl) ?_
                        refine kn_iald (f := r_18) (v := (r_18 i_157)) hx hb hK hP 23 rfl i_157 rfl (by omega) (by omega) rfl dX8_night_184 ?_
                        refine lv_aload_n hx hb dX8_night_185 rfl (lv_at hl 0 rfl) ?_
                        refine lv_iload hx hb dX8_night_186 (lv_at hl 7 rfl) ?_
                        refine lv_iconst (v := 0) hx hb dX8_night_188 (by decide) ?_
                        refine lv_iconst (v := 0) hx hb dX8_night_189 (by decide) ?_
                        refine k_rV (v := .int (m_felt (va_up (va_up (va_up (va_up RA 36 a36_157) 37 r_28.2.1) 39 r_28.2.2) 41 r_18) (va_up RS 38 s38_157) i_157 0 0)) (As := [.int (nI i_157), .int 0, .int 0]) (rest := [.int (r_18 i_157)]) hx hb hml hown hts hl.1 hP hK hN (c_m_felt hI i_157 0 0 hM (by omega)) eX8_215 (ci := 7) (q0 := 0) rfl rfl rfl rfl rfl (Nat.le_of_ble_eq_true rfl) ⟨Nat.le_of_ble_eq_true rfl, Nat.le_of_ble_eq_true rfl⟩ ⟨rfl, rfl⟩ ⟨Nat.le_of_ble_eq_true rfl, Nat.le_of_ble_eq_true rfl⟩ dX8_night_190 ?_
                        refine lv_icmp_ge (tgt := 233) hx hb dX8_night_193 (by decide) (fun c_32 => ?_) (fun c_32 => ?_)
                        · refine lv_iinc (v := (nI (i_157 + 1))) (lv' := [(9, .int (nI (i_157 + 1))), (0, .ref (ad 0)), (1, .int v1), (2, .int v2), (3, .int v3), (4, .int v4), (5, .int 2), (6, .int (nI i_62))]) hx hb dX8_night_233 hl (k := 7) rfl (nI_add _ _) (by decide) rfl (fun ls hl => ?_)
                          refine lv_goto (tgt := 157) hx hb dX8_night_236 (by decide) ?_
                          have hL_157 : (m_night_L157 RA RS r_28.2.1 r_28.2.2 r_18 (n_157 + 1) i_157 a36_157 s38_157) = (m_night_L157 RA RS r_28.2.1 r_28.2.2 r_18 n_157 (i_157 + 1) a36_157 s38_157) := by subst hr_28; subst hr_19; subst hr_18; rw [m_night_L157.eq_2, if_neg c_31, if_pos c_32]
                          try rw [hL_157] at hk_157
                          exact ih_157 (i_157 + 1) a36_157 s38_157 (by omega) _ _ _ hP hS (lv_sub hl [1, 2, 3, 4, 5, 6, 7, 0] rfl)  hk_157
                        · refine lv_aload_n hx hb dX8_night_196 rfl (lv_at hl 0 rfl) ?_
                          refine lv_dup hx hb dX8_night_197 rfl ?_
                          refine m_get (v := .int s38_157) hx hb hts hown hK hP 38 (by decide) rfl kX8_194 rfl dX8_night_198 ?_
                          refine lv_iconst (v := 1) hx hb dX8_night_201 (by decide) ?_
                          refine lv_iload hx hb dX8_night_202 (lv_at hl 7 rfl) ?_
                          refine lv_ishl hx hb dX8_night_204 ?_
                          refine lv_iconst (v := (-1)) hx hb dX8_night_205 (by decide) ?_
                          refine lv_ixor hx hb dX8_night_206 ?_
                          refine lv_iand hx hb dX8_night_207 ?_
                          refine m_put (RS' := (va_up RS 38 (s38_157 &&& ((1 <<< ((nI i_157) &&& 31)) ^^^ (-1))))) (RN' := RN) (RL' := RL) (ty := .int) hx hb hts hown hI hK hP hS 38 (by decide) rfl kX8_194 rfl (by decide +kernel) rfl rfl rfl dX8_night_208 (fun H locs hP hS => ?_)
                          refine lv_aload_n hx hb dX8_night_211 rfl (lv_at hl 0 rfl) ?_
                          refine m_get (v := .ref (ad 20)) hx hb hts hown hK hP 36 (by decide) rfl kX8_67 rfl dX8_night_212 ?_
                          refine lv_iconst (v := 2) hx hb dX8_night_215 (by decide) ?_
                          refine lv_iload hx hb dX8_night_216 (lv_at hl 7 rfl) ?_
                          refine kn_imul hx hb 2 i_157 rfl rfl dX8_night_218 ?_
                          refine lv_iconst (v := 0) hx hb dX8_night_219 (by decide) ?_
                          refine kn_iast (f := a36_157) (ws' := RWs cI ad (va_up (va_up (va_up (va_up RA 36 (upd a36_157 (2 * i_157) 0)) 37 r_28.2.1) 39 r_28.2.2) 41 r_18) (va_up RS 38 (s38_157 &&& ((1 <<< ((nI i_157) &&& 31)) ^^^ (-1)))) RN RL) hx hb hK hP (RWsD hI) hS 20 rfl (2 * i_157) rfl (by omega) (by omega) rfl dX8_night_220 (fun H locs hP hS => ?_)
                          refine lv_aload_n hx hb dX8_night_221 rfl (lv_at hl 0 rfl) ?_
                          refine m_get (v := .ref (ad 20)) hx hb hts hown hK hP 36 (by decide) rfl kX8_67 rfl dX8_night_222 ?_
                          refine lv_iconst (v := 2) hx hb dX8_night_225 (by decide) ?_
                          refine lv_iload hx hb dX8_night_226 (lv_at hl 7 rfl) ?_
                          refine kn_imul hx hb 2 i_157 rfl rfl dX8_night_228 ?_
                          refine lv_iconst (v := 1) hx hb dX8_night_229 (by decide) ?_
                          refine kn_iadd hx hb (2 * i_157) 1 rfl rfl dX8_night_230 ?_
                          refine lv_iconst (v := 0) hx hb dX8_night_231 (by decide) ?_
                          refine kn_iast (f := (upd a36_157 (2 * i_157) 0)) (ws' := RWs cI ad (va_up (va_up (va_up (va_up RA 36 (upd (upd a36_157 (2 * i_157) 0) ((2 * i_157) + 1) 0)) 37 r_28.2.1) 39 r_28.2.2) 41 r_18) (va_up RS 38 (s38_157 &&& ((1 <<< ((nI i_157) &&& 31)) ^^^ (-1)))) RN RL) hx hb hK hP (RWsD hI) hS 20 rfl ((2 * i_157) + 1) rfl (by omega) (by omega) rfl dX8_night_232 (fun H locs hP hS => ?_)
                          refine lv_iinc (v := (nI (i_157 + 1))) (lv' := [(9, .int (nI (i_157 + 1))), (0, .ref (ad 0)), (1, .int v1), (2, .int v2), (3, .int v3), (4, .int v4), (5, .int 2), (6, .int (nI i_62))]) hx hb dX8_night_233 hl (k := 7) rfl (nI_add _ _) (by decide) rfl (fun ls hl => ?_)
                          refine lv_goto (tgt := 157) hx hb dX8_night_236 (by decide) ?_
                          have hL_157 : (m_night_L157 RA RS r_28.2.1 r_28.2.2 r_18 (n_157 + 1) i_157 a36_157 s38_157) = (m_night_L157 RA RS r_28.2.1 r_28.2.2 r_18 n_157 (i_157 + 1) (upd (upd a36_157 (2 * i_157) 0) ((2 * i_157) + 1) 0) (s38_157 &&& ((1 <<< ((nI i_157) &&& 31)) ^^^ (-1)))) := by subst hr_28; subst hr_19; subst hr_18; rw [m_night_L157.eq_2, if_neg c_31, if_neg c_32]
                          try rw [hL_157] at hk_157
                          exact ih_157 (i_157 + 1) (upd (upd a36_157 (2 * i_157) 0) ((2 * i_157) + 1) 0) (s38_157 &&& ((1 <<< ((nI i_157) &&& 31)) ^^^ (-1))) (by omega) _ _ _ hP hS (lv_sub hl [1, 2, 3, 4, 5, 6, 7, 0] rfl)  hk_157
                  exact loop_157 (RN 4) 0 r_28.1 s38_62 (by omega) _ _ _ hP hS (lv_sub hl [4, 5, 6, 7, 8, 1, 9, 0] rfl)  (fun H locs ls hP hS hl  => rest_157 (m_night_L157 RA RS r_28.2.1 r_28.2.2 r_18 (RN 4) 0 r_28.1 s38_62).1 (m_night_L157 RA RS r_28.2.1 r_28.2.2 r_18 (RN 4) 0 r_28.1 s38_62).2 _ _ _ hP hS hl  (by subst hr_28; subst hr_19; subst hr_18; rw [m_night_b62, if_pos c_26, if_pos c_27]))
                · refine lv_iconst (v := 1) hx hb dX8_night_130 (by decide) ?_
                  refine lv_goto (tgt := 135) hx hb dX8_night_131 (by decide) ?_
                  refine lv_istore (lv' := [(8, .int 1), (7, .int ((m_draw v1 ((RS 27) + (nI i_62)) 98) - (m_draw v1 ((RS 27) + (nI i_62)) 98) / 10 * 10)), (0, .ref (ad 0)), (1, .int v1), (2, .int v2), (3, .int v3), (4, .int v4), (5, .int (nI x5_62)), (6, .int (nI i_62))]) hx hb dX8_night_135 hl (by decide) rfl (fun ls hl => ?_)
                  refine lv_aload_n hx hb dX8_night_137 rfl (lv_at hl 2 rfl) ?_
                  refine lv_iload_n hx hb dX8_night_138 rfl (lv_at hl 4 rfl) ?_
                  refine lv_iload hx hb dX8_night_139 (lv_at hl 0 rfl) ?_
                  refine lv_aload_n hx hb dX8_night_141 rfl (lv_at hl 2 rfl) ?_
                  refine m_get (v := .int (RS 15)) hx hb hts hown hK hP 15 (by decide) rfl kX8_142 rfl dX8_night_142 ?_
                  refine lv_bipush (v := (-4)) hx hb dX8_night_145 (by decide) ?_
                  refine k_wV (r := none) (As := [.int v2, .int 1, .int (RS 15), .int (-4)]) (rest := []) hx hb hml hown hts hl.1 hP hK hN hS (c_m_goHour hI v2 1 (RS 15) (-4) hM (by omega) (by decide)) eX8_268 (ci := 7) (q0 := 0) rfl rfl rfl rfl rfl (Nat.le_of_ble_eq_true rfl) ⟨Nat.le_of_ble_eq_true rfl, Nat.le_of_ble_eq_true rfl⟩ ⟨rfl, rfl⟩ ⟨Nat.le_of_ble_eq_true rfl, Nat.le_of_ble_eq_true rfl⟩ dX8_night_147 (fun H locs hP hS => ?_)
                  obtain ⟨r_33, hr_33⟩ : ∃ z, z = (m_goHour (va_up (va_up (va_up (va_up RA 36 a36_62) 37 a37_62) 39 a39_62) 41 r_18) (va_up RS 38 s38_62) RN v2 1 (RS 15) (-4)) := ⟨_, rfl⟩
                  rw [← hr_33] at hP
                  have hP : va_P (dC, dI) vwCl (RWs cI ad (va_up (va_up (va_up (va_up RA 36 r_33.1) 37 r_33.2.1) 39 r_33.2.2) 41 r_18) (va_up RS 38 s38_62) RN RL) H := (RWs_conv rfl rfl rfl rfl rfl rfl rfl rfl rfl rfl rfl rfl rfl rfl rfl rfl rfl rfl rfl rfl rfl rfl rfl rfl rfl rfl rfl rfl rfl rfl rfl rfl rfl rfl rfl rfl rfl rfl rfl rfl rfl hP)
                  refine lv_iload hx hb dX8_night_150 (lv_at hl 0 rfl) ?_
                  refine lv_istore (lv' := [(5, .int 1), (8, .int 1), (7, .int ((m_draw v1 ((RS 27) + (nI i_62)) 98) - (m_draw v1 ((RS 27) + (nI i_62)) 98) / 10 * 10)), (0, .ref (ad 0)), (1, .int v1), (2, .int v2), (3, .int v3), (4, .int v4), (6, .int (nI i_62))]) hx hb dX8_night_152 hl (by decide) rfl (fun ls hl => ?_)
                  refine lv_iconst (v := 0) hx hb dX8_night_154 (by decide) ?_
                  refine lv_istore (lv' := [(9, .int 0), (5, .int 1), (8, .int 1), (7, .int ((m_draw v1 ((RS 27) + (nI i_62)) 98) - (m_draw v1 ((RS 27) + (nI i_62)) 98) / 10 * 10)), (0, .ref (ad 0)), (1, .int v1), (2, .int v2), (3, .int v3), (4, .int v4), (6, .int (nI i_62))]) hx hb dX8_night_155 hl (by decide) rfl (fun ls hl => ?_)
                  have rest_157 : ∀ (a36_157 : Nat → Int32) (s38_157 : Int32), ∀ (H : Heap) (locs : List Loc) (ls : Array Slot), va_P (dC, dI) vwCl (RWs cI ad (va_up (va_up (va_up (va_up RA 36 a36_157) 37 r_33.2.1) 39 r_33.2.2) 41 r_18) (va_up RS 38 s38_157) RN RL) H → va_S (kAA ad 24) s.heap H locs → lv_has ls 10 [(0, .ref (ad 0)), (1, .int v1), (2, .int v2), (3, .int v3), (4, .int v4), (5, .int 1), (6, .int (nI i_62))] → (m_night_b62 RA RS RN r_18 v1 v2 i_62 x5_62 a36_62 a37_62 a39_62 s38_62) = m_night_b62_k157 a36_157 r_33.2.1 r_33.2.2 s38_157 1 → W p l e ({ frames := 6, cells := 0, slots := 0, locals := 141 } : Room) s m args below meth c H locs 0 0 (MQ below (kQ (some (.int ((m_night RA RS RN v1 v2 v3 v4).1))) (kB (dC, dI) [(cI, .int)] (RWs cI ad (va_up (va_up (va_up (va_up RA 36 ((m_night RA RS RN v1 v2 v3 v4).2.1)) 37 ((m_night RA RS RN v1 v2 v3 v4).2.2.1)) 39 ((m_night RA RS RN v1 v2 v3 v4).2.2.2.1)) 41 ((m_night RA RS RN v1 v2 v3 v4).2.2.2.2.1)) (va_up RS 38 ((m_night RA RS RN v1 v2 v3 v4).2.2.2.2.2)) RN RL)) (kAA ad 24)) args s 0 0 (kAA ad 24)) (F0 m 239 ls []) := by
                    intro a36_157 s38_157 H locs ls hP hS hl  hF_157
                    refine lv_iinc (v := (nI (i_62 + 1))) (lv' := [(6, .int (nI (i_62 + 1))), (0, .ref (ad 0)), (1, .int v1), (2, .int v2), (3, .int v3), (4, .int v4), (5, .int 1)]) hx hb dX8_night_239 hl (k := 6) rfl (nI_add _ _) (by decide) rfl (fun ls hl => ?_)
                    refine lv_goto (tgt := 62) hx hb dX8_night_242 (by decide) ?_
                    have hb_62 : (m_night_b62 RA RS RN r_18 v1 v2 i_62 x5_62 a36_62 a37_62 a39_62 s38_62) = (1, a36_157, r_33.2.1, r_33.2.2, s38_157) := by subst hr_33; subst hr_19; subst hr_18; exact hF_157.trans (by rw [m_night_b62_k157])
                    have hL_62 : (m_night_L62 RA RS RN r_18 v1 v2 (n_62 + 1) i_62 x5_62 a36_62 a37_62 a39_62 s38_62) = (m_night_L62 RA RS RN r_18 v1 v2 n_62 (i_62 + 1) 1 a36_157 r_33.2.1 r_33.2.2 s38_157) := by rw [m_night_L62.eq_2, hb_62]
                    try rw [hL_62] at hk_62
                    exact ih_62 (i_62 + 1) 1 a36_157 r_33.2.1 r_33.2.2 s38_157 (by omega) _ _ _ hP hS (lv_sub hl [1, 2, 3, 4, 5, 6, 0] rfl) (by omega) hk_62
                  have loop_157 : ∀ (n_157 i_157 : Nat) (a36_157 : Nat → Int32) (s38_157 : Int32), i_157 + n_157 = (RN 4) → ∀ (H : Heap) (locs : List Loc) (ls : Array Slot), va_P (dC, dI) vwCl (RWs cI ad (va_up (va_up (va_up (va_up RA 36 a36_157) 37 r_33.2.1) 39 r_33.2.2) 41 r_18) (va_up RS 38 s38_157) RN RL) H → va_S (kAA ad 24) s.heap H locs → lv_has ls 10 [(0, .ref (ad 0)), (1, .int v1), (2, .int v2), (3, .int v3), (4, .int v4), (5, .int 1), (6, .int (nI i_62)), (9, .int (nI i_157))] → (∀ (H : Heap) (locs : List Loc) (ls : Array Slot), va_P (dC, dI) vwCl (RWs cI ad (va_up (va_up (va_up (va_up RA 36 ((m_night_L157 RA RS r_33.2.1 r_33.2.2 r_18 n_157 i_157 a36_157 s38_157).1)) 37 r_33.2.1) 39 r_33.2.2) 41 r_18) (va_up RS 38 ((m_night_L157 RA RS r_33.2.1 r_33.2.2 r_18 n_157 i_157 a36_157 s38_157).2)) RN RL) H → va_S (kAA ad 24) s.heap H locs → lv_has ls 10 [(0, .ref (ad 0)), (1, .int v1), (2, .int v2), (3, .int v3), (4, .int v4), (5, .int 1), (6, .int (nI i_62))] → W p l e ({ frames := 6, cells := 0, slots := 0, locals := 141 } : Room) s m args below meth c H locs 0 0 (MQ below (kQ (some (.int ((m_night RA RS RN v1 v2 v3 v4).1))) (kB (dC, dI) [(cI, .int)] (RWs cI ad (va_up (va_up (va_up (va_up RA 36 ((m_night RA RS RN v1 v2 v3 v4).2.1)) 37 ((m_night RA RS RN v1 v2 v3 v4).2.2.1)) 39 ((m_night RA RS RN v1 v2 v3 v4).2.2.2.1)) 41 ((m_night RA RS RN v1 v2 v3 v4).2.2.2.2.1)) (va_up RS 38 ((m_night RA RS RN v1 v2 v3 v4).2.2.2.2.2)) RN RL)) (kAA ad 24)) args s 0 0 (kAA ad 24)) (F0 m 239 ls [])) → W p l e ({ frames := 6, cells := 0, slots := 0, locals := 141 } : Room) s m args below meth c H locs 0 0 (MQ below (kQ (some (.int ((m_night RA RS RN v1 v2 v3 v4).1))) (kB (dC, dI) [(cI, .int)] (RWs cI ad (va_up (va_up (va_up (va_up RA 36 ((m_night RA RS RN v1 v2 v3 v4).2.1)) 37 ((m_night RA RS RN v1 v2 v3 v4).2.2.1)) 39 ((m_night RA RS RN v1 v2 v3 v4).2.2.2.1)) 41 ((m_night RA RS RN v1 v2 v3 v4).2.2.2.2.1)) (va_up RS 38 ((m_night RA RS RN v1 v2 v3 v4).2.2.2.2.2)) RN RL)) (kAA ad 24)) args s 0 0 (kAA ad 24)) (F0 m 157 ls []) := by
                    intro n_157
                    induction n_157 with
                    | zero =>
                      intro i_157 a36_157 s38_157 hin_157 H locs ls hP hS hl  hk_157
                      refine lv_iload hx hb dX8_night_157 (lv_at hl 7 rfl) ?_
                      refine lv_aload_n hx hb dX8_night_159 rfl (lv_at hl 0 rfl) ?_
                      refine m_get (v := .int (nI (RN 4))) hx hb hts hown hK hP 4 (by decide) rfl kX8_82 rfl dX8_night_160 ?_
                      refine lv_icmp_ge (tgt := 239) hx hb dX8_night_163 (by decide) (fun _ => ?_) (fun c_34 => absurd (kct_ge (N := (RN 4)) (nI_clamp (by omega)) (by omega) (by omega)) c_34)
                      have hL_157 : (m_night_L157 RA RS r_33.2.1 r_33.2.2 r_18 0 i_157 a36_157 s38_157) = (a36_157, s38_157) := by subst hr_33; subst hr_19; subst hr_18; rw [m_night_L157.eq_1]
                      try rw [hL_157] at hk_157
                      exact hk_157 _ _ _ hP hS (lv_sub hl [0, 1, 2, 3, 4, 5, 6] rfl) 
                    | succ n_157 ih_157 =>
                      intro i_157 a36_157 s38_157 hin_157 H locs ls hP hS hl  hk_157
                      refine lv_iload hx hb dX8_night_157 (lv_at hl 7 rfl) ?_
                      refine lv_aload_n hx hb dX8_night_159 rfl (lv_at hl 0 rfl) ?_
                      refine m_get (v := .int (nI (RN 4))) hx hb hts hown hK hP 4 (by decide) rfl kX8_82 rfl dX8_night_160 ?_
                      refine lv_icmp_ge (tgt := 239) hx hb dX8_night_163 (by decide) (fun c_35 => absurd c_35 (kct_lt (N := (RN 4)) (nI_clamp (by omega)) (by omega))) (fun _ => ?_)
                      refine lv_aload_n hx hb dX8_night_166 rfl (lv_at hl 0 rfl) ?_
                      refine m_get (v := .int s38_157) hx hb hts hown hK hP 38 (by decide) rfl kX8_194 rfl dX8_night_167 ?_
                      refine lv_iload hx hb dX8_night_170 (lv_at hl 7 rfl) ?_
                      refine k_rS (v := .int (m_has s38_157 (nI i_157))) (As := [.int s38_157, .int (nI i_157)]) (rest := []) hx hb hml hown hts hl.1 (B := fun _ => True) (fun _ _ _ _ q => q) (fun _ _ _ => trivial) (c_m_has s38_157 (nI i_157)) eX8_204 rfl rfl (Nat.le_of_ble_eq_true rfl) ⟨Nat.le_of_ble_eq_true rfl, Nat.le_of_ble_eq_true rfl⟩ ⟨rfl, rfl⟩ ⟨Nat.le_of_ble_eq_true rfl, Nat.le_of_ble_eq_true rfl⟩ dX8_night_172 ?_
                      refine lv_if_eq (tgt := 233) hx hb dX8_night_175 (by decide) (fun c_36 => ?_) (fun c_36 => ?_)
                      · refine lv_iinc (v := (nI (i_157 + 1))) (lv' := [(9, .int (nI (i_157 + 1))), (0, .ref (ad 0)), (1, .int v1), (2, .int v2), (3, .int v3), (4, .int v4), (5, .int 1), (6, .int (nI i_62))]) hx hb dX8_night_233 hl (k := 7) rfl (nI_add _ _) (by decide) rfl (fun ls hl => ?_)
                        refine lv_goto (tgt := 157) hx hb dX8_night_236 (by decide) ?_
                        have hL_157 : (m_night_L157 RA RS r_33.2.1 r_33.2.2 r_18 (n_157 + 1) i_157 a36_157 s38_157) = (m_night_L157 RA RS r_33.2.1 r_33.2.2 r_18 n_157 (i_157 + 1) a36_157 s38_157) := by subst hr_33; subst hr_19; subst hr_18; rw [m_night_L157.eq_2, if_pos c_36]
                        try rw [hL_157] at hk_157
                        exact ih_157 (i_157 + 1) a36_157 s38_157 (by omega) _ _ _ hP hS (lv_sub hl [1, 2, 3, 4, 5, 6, 7, 0] rfl)  hk_157
                      · refine lv_aload_n hx hb dX8_night_178 rfl (lv_at hl 0 rfl) ?_
                        refine m_get (v := .ref (ad 23)) hx hb hts hown hK hP 41 (by decide) rfl kX8_76 rfl dX8_night_179 ?_
                        refine lv_iload hx hb dX8_night_182 (lv_at hl 7 rfl) ?_
                        refine kn_iald (f := r_18) (v := (r_18 i_157)) hx hb hK hP 23 rfl i_157 rfl (by omega) (by omega) rfl dX8_night_184 ?_
                        refine lv_aload_n hx hb dX8_night_185 rfl (lv_at hl 0 rfl) ?_
                        refine lv_iload hx hb dX8_night_186 (lv_at hl 7 rfl) ?_
                        refine lv_iconst (v := 0) hx hb dX8_night_188 (by decide) ?_
                        refine lv_iconst (v := 0) hx hb dX8_night_189 (by decide) ?_
                        refine k_rV (v := .int (m_felt (va_up (va_up (va_up (va_up RA 36 a36_157) 37 r_33.2.1) 39 r_33.2.2) 41 r_18) (va_up RS 38 s38_157) i_157 0 0)) (As := [.int (nI i_157), .int 0, .int 0]) (rest := [.int (r_18 i_157)]) hx hb hml hown hts hl.1 hP hK hN (c_m_felt hI i_157 0 0 hM (by omega)) eX8_215 (ci := 7) (q0 := 0) rfl rfl rfl rfl rfl (Nat.le_of_ble_eq_true rfl) ⟨Nat.le_of_ble_eq_true rfl, Nat.le_of_ble_eq_true rfl⟩ ⟨rfl, rfl⟩ ⟨Nat.le_of_ble_eq_true rfl, Nat.le_of_ble_eq_true rfl⟩ dX8_night_190 ?_
                        refine lv_icmp_ge (tgt := 233) hx hb dX8_night_193 (by decide) (fun c_37 => ?_) (fun c_37 => ?_)
                        · refine lv_iinc (v := (nI (i_157 + 1))) (lv' := [(9, .int (nI (i_157 + 1))), (0, .ref (ad 0)), (1, .int v1), (2, .int v2), (3, .int v3), (4, .int v4), (5, .int 1), (6, .int (nI i_62))]) hx hb dX8_night_233 hl (k := 7) rfl (nI_add _ _) (by decide) rfl (fun ls hl => ?_)
                          refine lv_goto (tgt := 157) hx hb dX8_night_236 (by decide) ?_
                          have hL_157 : (m_night_L157 RA RS r_33.2.1 r_33.2.2 r_18 (n_157 + 1) i_157 a36_157 s38_157) = (m_night_L157 RA RS r_33.2.1 r_33.2.2 r_18 n_157 (i_157 + 1) a36_157 s38_157) := by subst hr_33; subst hr_19; subst hr_18; rw [m_night_L157.eq_2, if_neg c_36, if_pos c_37]
                          try rw [hL_157] at hk_157
                          exact ih_157 (i_157 + 1) a36_157 s38_157 (by omega) _ _ _ hP hS (lv_sub hl [1, 2, 3, 4, 5, 6, 7, 0] rfl)  hk_157
                        · refine lv_aload_n hx hb dX8_night_196 rfl (lv_at hl 0 rfl) ?_
                          refine lv_dup hx hb dX8_night_197 rfl ?_
                          refine m_get (v := .int s38_157) hx hb hts hown hK hP 38 (by decide) rfl kX8_194 rfl dX8_night_198 ?_
                          refine lv_iconst (v := 1) hx hb dX8_night_201 (by decide) ?_
                          refine lv_iload hx hb dX8_night_202 (lv_at hl 7 rfl) ?_
                          refine lv_ishl hx hb dX8_night_204 ?_
                          refine lv_iconst (v := (-1)) hx hb dX8_night_205 (by decide) ?_
                          refine lv_ixor hx hb dX8_night_206 ?_
                          refine lv_iand hx hb dX8_night_207 ?_
                          refine m_put (RS' := (va_up RS 38 (s38_157 &&& ((1 <<< ((nI i_157) &&& 31)) ^^^ (-1))))) (RN' := RN) (RL' := RL) (ty := .int) hx hb hts hown hI hK hP hS 38 (by decide) rfl kX8_194 rfl (by decide +kernel) rfl rfl rfl dX8_night_208 (fun H locs hP hS => ?_)
                          refine lv_aload_n hx hb dX8_night_211 rfl (lv_at hl 0 rfl) ?_
                          refine m_get (v := .ref (ad 20)) hx hb hts hown hK hP 36 (by decide) rfl kX8_67 rfl dX8_night_212 ?_
                          refine lv_iconst (v := 2) hx hb dX8_night_215 (by decide) ?_
                          refine lv_iload hx hb dX8_night_216 (lv_at hl 7 rfl) ?_
                          refine kn_imul hx hb 2 i_157 rfl rfl dX8_night_218 ?_
                          refine lv_iconst (v := 0) hx hb dX8_night_219 (by decide) ?_
                          refine kn_iast (f := a36_157) (ws' := RWs cI ad (va_up (va_up (va_up (va_up RA 36 (upd a36_157 (2 * i_157) 0)) 37 r_33.2.1) 39 r_33.2.2) 41 r_18) (va_up RS 38 (s38_157 &&& ((1 <<< ((nI i_157) &&& 31)) ^^^ (-1)))) RN RL) hx hb hK hP (RWsD hI) hS 20 rfl (2 * i_157) rfl (by omega) (by omega) rfl dX8_night_220 (fun H locs hP hS => ?_)
                          refine lv_aload_n hx hb dX8_night_221 rfl (lv_at hl 0 rfl) ?_
                          refine m_get (v := .ref (ad 20)) hx hb hts hown hK hP 36 (by decide) rfl kX8_67 rfl dX8_night_222 ?_
                          refine lv_iconst (v := 2) hx hb dX8_night_225 (by decide) ?_
                          refine lv_iload hx hb dX8_night_226 (lv_at hl 7 rfl) ?_
                          refine kn_imul hx hb 2 i_157 rfl rfl dX8_night_228 ?_
                          refine lv_iconst (v := 1) hx hb dX8_night_229 (by decide) ?_
                          refine kn_iadd hx hb (2 * i_157) 1 rfl rfl dX8_night_230 ?_
                          refine lv_iconst (v := 0) hx hb dX8_night_231 (by decide) ?_
                          refine kn_iast (f := (upd a36_157 (2 * i_157) 0)) (ws' := RWs cI ad (va_up (va_up (va_up (va_up RA 36 (upd (upd a36_157 (2 * i_157) 0) ((2 * i_157) + 1) 0)) 37 r_33.2.1) 39 r_33.2.2) 41 r_18) (va_up RS 38 (s38_157 &&& ((1 <<< ((nI i_157) &&& 31)) ^^^ (-1)))) RN RL) hx hb hK hP (RWsD hI) hS 20 rfl ((2 * i_157) + 1) rfl (by omega) (by omega) rfl dX8_night_232 (fun H locs hP hS => ?_)
                          refine lv_iinc (v := (nI (i_157 + 1))) (lv' := [(9, .int (nI (i_157 + 1))), (0, .ref (ad 0)), (1, .int v1), (2, .int v2), (3, .int v3), (4, .int v4), (5, .int 1), (6, .int (nI i_62))]) hx hb dX8_night_233 hl (k := 7) rfl (nI_add _ _) (by decide) rfl (fun ls hl => ?_)
                          refine lv_goto (tgt := 157) hx hb dX8_night_236 (by decide) ?_
                          have hL_157 : (m_night_L157 RA RS r_33.2.1 r_33.2.2 r_18 (n_157 + 1) i_157 a36_157 s38_157) = (m_night_L157 RA RS r_33.2.1 r_33.2.2 r_18 n_157 (i_157 + 1) (upd (upd a36_157 (2 * i_157) 0) ((2 * i_157) + 1) 0) (s38_157 &&& ((1 <<< ((nI i_157) &&& 31)) ^^^ (-1)))) := by subst hr_33; subst hr_19; subst hr_18; rw [m_night_L157.eq_2, if_neg c_36, if_neg c_37]
                          try rw [hL_157] at hk_157
                          exact ih_157 (i_157 + 1) (upd (upd a36_157 (2 * i_157) 0) ((2 * i_157) + 1) 0) (s38_157 &&& ((1 <<< ((nI i_157) &&& 31)) ^^^ (-1))) (by omega) _ _ _ hP hS (lv_sub hl [1, 2, 3, 4, 5, 6, 7, 0] rfl)  hk_157
                  exact loop_157 (RN 4) 0 r_33.1 s38_62 (by omega) _ _ _ hP hS (lv_sub hl [4, 5, 6, 7, 8, 1, 9, 0] rfl)  (fun H locs ls hP hS hl  => rest_157 (m_night_L157 RA RS r_33.2.1 r_33.2.2 r_18 (RN 4) 0 r_33.1 s38_62).1 (m_night_L157 RA RS r_33.2.1 r_33.2.2 r_18 (RN 4) 0 r_33.1 s38_62).2 _ _ _ hP hS hl  (by subst hr_33; subst hr_19; subst hr_18; rw [m_night_b62, if_pos c_26, if_neg c_27]))
              · refine lv_iconst (v := 0) hx hb dX8_night_100 (by decide) ?_
                refine lv_goto (tgt := 135) hx hb dX8_night_101 (by decide) ?_
                refine lv_istore (lv' := [(8, .int 0), (7, .int ((m_draw v1 ((RS 27) + (nI i_62)) 98) - (m_draw v1 ((RS 27) + (nI i_62)) 98) / 10 * 10)), (0, .ref (ad 0)), (1, .int v1), (2, .int v2), (3, .int v3), (4, .int v4), (5, .int (nI x5_62)), (6, .int (nI i_62))]) hx hb dX8_night_135 hl (by decide) rfl (fun ls hl => ?_)
                refine lv_aload_n hx hb dX8_night_137 rfl (lv_at hl 2 rfl) ?_
                refine lv_iload_n hx hb dX8_night_138 rfl (lv_at hl 4 rfl) ?_
                refine lv_iload hx hb dX8_night_139 (lv_at hl 0 rfl) ?_
                refine lv_aload_n hx hb dX8_night_141 rfl (lv_at hl 2 rfl) ?_
                refine m_get (v := .int (RS 15)) hx hb hts hown hK hP 15 (by decide) rfl kX8_142 rfl dX8_night_142 ?_
                refine lv_bipush (v := (-4)) hx hb dX8_night_145 (by decide) ?_
                refine k_wV (r := none) (As := [.int v2, .int 0, .int (RS 15), .int (-4)]) (rest := []) hx hb hml hown hts hl.1 hP hK hN hS (c_m_goHour hI v2 0 (RS 15) (-4) hM (by omega) (by decide)) eX8_268 (ci := 7) (q0 := 0) rfl rfl rfl rfl rfl (Nat.le_of_ble_eq_true rfl) ⟨Nat.le_of_ble_eq_true rfl, Nat.le_of_ble_eq_true rfl⟩ ⟨rfl, rfl⟩ ⟨Nat.le_of_ble_eq_true rfl, Nat.le_of_ble_eq_true rfl⟩ dX8_night_147 (fun H locs hP hS => ?_)
                obtain ⟨r_38, hr_38⟩ : ∃ z, z = (m_goHour (va_up (va_up (va_up (va_up RA 36 a36_62) 37 a37_62) 39 a39_62) 41 r_18) (va_up RS 38 s38_62) RN v2 0 (RS 15) (-4)) := ⟨_, rfl⟩
                rw [← hr_38] at hP
                have hP : va_P (dC, dI) vwCl (RWs cI ad (va_up (va_up (va_up (va_up RA 36 r_38.1) 37 r_38.2.1) 39 r_38.2.2) 41 r_18) (va_up RS 38 s38_62) RN RL) H := (RWs_conv rfl rfl rfl rfl rfl rfl rfl rfl rfl rfl rfl rfl rfl rfl rfl rfl rfl rfl rfl rfl rfl rfl rfl rfl rfl rfl rfl rfl rfl rfl rfl rfl rfl rfl rfl rfl rfl rfl rfl rfl rfl hP)
                refine lv_iload hx hb dX8_night_150 (lv_at hl 0 rfl) ?_
                refine lv_istore (lv' := [(5, .int 0), (8, .int 0), (7, .int ((m_draw v1 ((RS 27) + (nI i_62)) 98) - (m_draw v1 ((RS 27) + (nI i_62)) 98) / 10 * 10)), (0, .ref (ad 0)), (1, .int v1), (2, .int v2), (3, .int v3), (4, .int v4), (6, .int (nI i_62))]) hx hb dX8_night_152 hl (by decide) rfl (fun ls hl => ?_)
                refine lv_iconst (v := 0) hx hb dX8_night_154 (by decide) ?_
                refine lv_istore (lv' := [(9, .int 0), (5, .int 0), (8, .int 0), (7, .int ((m_draw v1 ((RS 27) + (nI i_62)) 98) - (m_draw v1 ((RS 27) + (nI i_62)) 98) / 10 * 10)), (0, .ref (ad 0)), (1, .int v1), (2, .int v2), (3, .int v3), (4, .int v4), (6, .int (nI i_62))]) hx hb dX8_night_155 hl (by decide) rfl (fun ls hl => ?_)
                have rest_157 : ∀ (a36_157 : Nat → Int32) (s38_157 : Int32), ∀ (H : Heap) (locs : List Loc) (ls : Array Slot), va_P (dC, dI) vwCl (RWs cI ad (va_up (va_up (va_up (va_up RA 36 a36_157) 37 r_38.2.1) 39 r_38.2.2) 41 r_18) (va_up RS 38 s38_157) RN RL) H → va_S (kAA ad 24) s.heap H locs → lv_has ls 10 [(0, .ref (ad 0)), (1, .int v1), (2, .int v2), (3, .int v3), (4, .int v4), (5, .int 0), (6, .int (nI i_62))] → (m_night_b62 RA RS RN r_18 v1 v2 i_62 x5_62 a36_62 a37_62 a39_62 s38_62) = m_night_b62_k157 a36_157 r_38.2.1 r_38.2.2 s38_157 0 → W p l e ({ frames := 6, cells := 0, slots := 0, locals := 141 } : Room) s m args below meth c H locs 0 0 (MQ below (kQ (some (.int ((m_night RA RS RN v1 v2 v3 v4).1))) (kB (dC, dI) [(cI, .int)] (RWs cI ad (va_up (va_up (va_up (va_up RA 36 ((m_night RA RS RN v1 v2 v3 v4).2.1)) 37 ((m_night RA RS RN v1 v2 v3 v4).2.2.1)) 39 ((m_night RA RS RN v1 v2 v3 v4).2.2.2.1)) 41 ((m_night RA RS RN v1 v2 v3 v4).2.2.2.2.1)) (va_up RS 38 ((m_night RA RS RN v1 v2 v3 v4).2.2.2.2.2)) RN RL)) (kAA ad 24)) args s 0 0 (kAA ad 24)) (F0 m 239 ls []) := by
                  intro a36_157 s38_157 H locs ls hP hS hl  hF_157
                  refine lv_iinc (v := (nI (i_62 + 1))) (lv' := [(6, .int (nI (i_62 + 1))), (0, .ref (ad 0)), (1, .int v1), (2, .int v2), (3, .int v3), (4, .int v4), (5, .int 0)]) hx hb dX8_night_239 hl (k := 6) rfl (nI_add _ _) (by decide) rfl (fun ls hl => ?_)
                  refine lv_goto (tgt := 62) hx hb dX8_night_242 (by decide) ?_
                  have hb_62 : (m_night_b62 RA RS RN r_18 v1 v2 i_62 x5_62 a36_62 a37_62 a39_62 s38_62) = (0, a36_157, r_38.2.1, r_38.2.2, s38_157) := by subst hr_38; subst hr_19; subst hr_18; exact hF_157.trans (by rw [m_night_b62_k157])
                  have hL_62 : (m_night_L62 RA RS RN r_18 v1 v2 (n_62 + 1) i_62 x5_62 a36_62 a37_62 a39_62 s38_62) = (m_night_L62 RA RS RN r_18 v1 v2 n_62 (i_62 + 1) 0 a36_157 r_38.2.1 r_38.2.2 s38_157) := by rw [m_night_L62.eq_2, hb_62]
                  try rw [hL_62] at hk_62
                  exact ih_62 (i_62 + 1) 0 a36_157 r_38.2.1 r_38.2.2 s38_157 (by omega) _ _ _ hP hS (lv_sub hl [1, 2, 3, 4, 5, 6, 0] rfl) (by omega) hk_62
                have loop_157 : ∀ (n_157 i_157 : Nat) (a36_157 : Nat → Int32) (s38_157 : Int32), i_157 + n_157 = (RN 4) → ∀ (H : Heap) (locs : List Loc) (ls : Array Slot), va_P (dC, dI) vwCl (RWs cI ad (va_up (va_up (va_up (va_up RA 36 a36_157) 37 r_38.2.1) 39 r_38.2.2) 41 r_18) (va_up RS 38 s38_157) RN RL) H → va_S (kAA ad 24) s.heap H locs → lv_has ls 10 [(0, .ref (ad 0)), (1, .int v1), (2, .int v2), (3, .int v3), (4, .int v4), (5, .int 0), (6, .int (nI i_62)), (9, .int (nI i_157))] → (∀ (H : Heap) (locs : List Loc) (ls : Array Slot), va_P (dC, dI) vwCl (RWs cI ad (va_up (va_up (va_up (va_up RA 36 ((m_night_L157 RA RS r_38.2.1 r_38.2.2 r_18 n_157 i_157 a36_157 s38_157).1)) 37 r_38.2.1) 39 r_38.2.2) 41 r_18) (va_up RS 38 ((m_night_L157 RA RS r_38.2.1 r_38.2.2 r_18 n_157 i_157 a36_157 s38_157).2)) RN RL) H → va_S (kAA ad 24) s.heap H locs → lv_has ls 10 [(0, .ref (ad 0)), (1, .int v1), (2, .int v2), (3, .int v3), (4, .int v4), (5, .int 0), (6, .int (nI i_62))] → W p l e ({ frames := 6, cells := 0, slots := 0, locals := 141 } : Room) s m args below meth c H locs 0 0 (MQ below (kQ (some (.int ((m_night RA RS RN v1 v2 v3 v4).1))) (kB (dC, dI) [(cI, .int)] (RWs cI ad (va_up (va_up (va_up (va_up RA 36 ((m_night RA RS RN v1 v2 v3 v4).2.1)) 37 ((m_night RA RS RN v1 v2 v3 v4).2.2.1)) 39 ((m_night RA RS RN v1 v2 v3 v4).2.2.2.1)) 41 ((m_night RA RS RN v1 v2 v3 v4).2.2.2.2.1)) (va_up RS 38 ((m_night RA RS RN v1 v2 v3 v4).2.2.2.2.2)) RN RL)) (kAA ad 24)) args s 0 0 (kAA ad 24)) (F0 m 239 ls [])) → W p l e ({ frames := 6, cells := 0, slots := 0, locals := 141 } : Room) s m args below meth c H locs 0 0 (MQ below (kQ (some (.int ((m_night RA RS RN v1 v2 v3 v4).1))) (kB (dC, dI) [(cI, .int)] (RWs cI ad (va_up (va_up (va_up (va_up RA 36 ((m_night RA RS RN v1 v2 v3 v4).2.1)) 37 ((m_night RA RS RN v1 v2 v3 v4).2.2.1)) 39 ((m_night RA RS RN v1 v2 v3 v4).2.2.2.1)) 41 ((m_night RA RS RN v1 v2 v3 v4).2.2.2.2.1)) (va_up RS 38 ((m_night RA RS RN v1 v2 v3 v4).2.2.2.2.2)) RN RL)) (kAA ad 24)) args s 0 0 (kAA ad 24)) (F0 m 157 ls []) := by
                  intro n_157
                  induction n_157 with
                  | zero =>
                    intro i_157 a36_157 s38_157 hin_157 H locs ls hP hS hl  hk_157
                    refine lv_iload hx hb dX8_night_157 (lv_at hl 7 rfl) ?_
                    refine lv_aload_n hx hb dX8_night_159 rfl (lv_at hl 0 rfl) ?_
                    refine m_get (v := .int (nI (RN 4))) hx hb hts hown hK hP 4 (by decide) rfl kX8_82 rfl dX8_night_160 ?_
                    refine lv_icmp_ge (tgt := 239) hx hb dX8_night_163 (by decide) (fun _ => ?_) (fun c_39 => absurd (kct_ge (N := (RN 4)) (nI_clamp (by omega)) (by omega) (by omega)) c_39)
                    have hL_157 : (m_night_L157 RA RS r_38.2.1 r_38.2.2 r_18 0 i_157 a36_157 s38_157) = (a36_157, s38_157) := by subst hr_38; subst hr_19; subst hr_18; rw [m_night_L157.eq_1]
                    try rw [hL_157] at hk_157
                    exact hk_157 _ _ _ hP hS (lv_sub hl [0, 1, 2, 3, 4, 5, 6] rfl) 
                  | succ n_157 ih_157 =>
                    intro i_157 a36_157 s38_157 hin_157 H locs ls hP hS hl  hk_157
                    refine lv_iload hx hb dX8_night_157 (lv_at hl 7 rfl) ?_
                    refine lv_aload_n hx hb dX8_night_159 rfl (lv_at hl 0 rfl) ?_
                    refine m_get (v := .int (nI (RN 4))) hx hb hts hown hK hP 4 (by decide) rfl kX8_82 rfl dX8_night_160 ?_
                    refine lv_icmp_ge (tgt := 239) hx hb dX8_night_163 (by decide) (fun c_40 => absurd c_40 (kct_lt (N := (RN 4)) (nI_clamp (by omega)) (by omega))) (fun _ => ?_)
                    refine lv_aload_n hx hb dX8_night_166 rfl (lv_at hl 0 rfl) ?_
                    refine m_get (v := .int s38_157) hx hb hts hown hK hP 38 (by decide) rfl kX8_194 rfl dX8_night_167 ?_
                    refine lv_iload hx hb dX8_night_170 (lv_at hl 7 rfl) ?_
                    refine k_rS (v := .int (m_has s38_157 (nI i_157))) (As := [.int s38_157, .int (nI i_157)]) (rest := []) hx hb hml hown hts hl.1 (B := fun _ => True) (fun _ _ _ _ q => q) (fun _ _ _ => trivial) (c_m_has s38_157 (nI i_157)) eX8_204 rfl rfl (Nat.le_of_ble_eq_true rfl) ⟨Nat.le_of_ble_eq_true rfl, Nat.le_of_ble_eq_true rfl⟩ ⟨rfl, rfl⟩ ⟨Nat.le_of_ble_eq_true rfl, Nat.le_of_ble_eq_true rfl⟩ dX8_night_172 ?_
                    refine lv_if_eq (tgt := 233) hx hb dX8_night_175 (by decide) (fun c_41 => ?_) (fun c_41 => ?_)
                    · refine lv_iinc (v := (nI (i_157 + 1))) (lv' := [(9, .int (nI (i_157 + 1))), (0, .ref (ad 0)), (1, .int v1), (2, .int v2), (3, .int v3), (4, .int v4), (5, .int 0), (6, .int (nI i_62))]) hx hb dX8_night_233 hl (k := 7) rfl (nI_add _ _) (by decide) rfl (fun ls hl => ?_)
                      refine lv_goto (tgt := 157) hx hb dX8_night_236 (by decide) ?_
                      have hL_157 : (m_night_L157 RA RS r_38.2.1 r_38.2.2 r_18 (n_157 + 1) i_157 a36_157 s38_157) = (m_night_L157 RA RS r_38.2.1 r_38.2.2 r_18 n_157 (i_157 + 1) a36_157 s38_157) := by subst hr_38; subst hr_19; subst hr_18; rw [m_night_L157.eq_2, if_pos c_41]
                      try rw [hL_157] at hk_157
                      exact ih_157 (i_157 + 1) a36_157 s38_157 (by omega) _ _ _ hP hS (lv_sub hl [1, 2, 3, 4, 5, 6, 7, 0] rfl)  hk_157
                    · refine lv_aload_n hx hb dX8_night_178 rfl (lv_at hl 0 rfl) ?_
                      refine m_get (v := .ref (ad 23)) hx hb hts hown hK hP 41 (by decide) rfl kX8_76 rfl dX8_night_179 ?_
                      refine lv_iload hx hb dX8_night_182 (lv_at hl 7 rfl) ?_
                      refine kn_iald (f := r_18) (v := (r_18 i_157)) hx hb hK hP 23 rfl i_157 rfl (by omega) (by omega) rfl dX8_night_184 ?_
                      refine lv_aload_n hx hb dX8_night_185 rfl (lv_at hl 0 rfl) ?_
                      refine lv_iload hx hb dX8_night_186 (lv_at hl 7 rfl) ?_
                      refine lv_iconst (v := 0) hx hb dX8_night_188 (by decide) ?_
                      refine lv_iconst (v := 0) hx hb dX8_night_189 (by decide) ?_
                      refine k_rV (v := .int (m_felt (va_up (va_up (va_up (va_up RA 36 a36_157) 37 r_38.2.1) 39 r_38.2.2) 41 r_18) (va_up RS 38 s38_157) i_157 0 0)) (As := [.int (nI i_157), .int 0, .int 0]) (rest := [.int (r_18 i_157)]) hx hb hml hown hts hl.1 hP hK hN (c_m_felt hI i_157 0 0 hM (by omega)) eX8_215 (ci := 7) (q0 := 0) rfl rfl rfl rfl rfl (Nat.le_of_ble_eq_true rfl) ⟨Nat.le_of_ble_eq_true rfl, Nat.le_of_ble_eq_true rfl⟩ ⟨rfl, rfl⟩ ⟨Nat.le_of_ble_eq_true rfl, Nat.le_of_ble_eq_true rfl⟩ dX8_night_190 ?_
                      refine lv_icmp_ge (tgt := 233) hx hb dX8_night_193 (by decide) (fun c_42 => ?_) (fun c_42 => ?_)
                      · refine lv_iinc (v := (nI (i_157 + 1))) (lv' := [(9, .int (nI (i_157 + 1))), (0, .ref (ad 0)), (1, .int v1), (2, .int v2), (3, .int v3), (4, .int v4), (5, .int 0), (6, .int (nI i_62))]) hx hb dX8_night_233 hl (k := 7) rfl (nI_add _ _) (by decide) rfl (fun ls hl => ?_)
                        refine lv_goto (tgt := 157) hx hb dX8_night_236 (by decide) ?_
                        have hL_157 : (m_night_L157 RA RS r_38.2.1 r_38.2.2 r_18 (n_157 + 1) i_157 a36_157 s38_157) = (m_night_L157 RA RS r_38.2.1 r_38.2.2 r_18 n_157 (i_157 + 1) a36_157 s38_157) := by subst hr_38; subst hr_19; subst hr_18; rw [m_night_L157.eq_2, if_neg c_41, if_pos c_42]
                        try rw [hL_157] at hk_157
                        exact ih_157 (i_157 + 1) a36_157 s38_157 (by omega) _ _ _ hP hS (lv_sub hl [1, 2, 3, 4, 5, 6, 7, 0] rfl)  hk_157
                      · refine lv_aload_n hx hb dX8_night_196 rfl (lv_at hl 0 rfl) ?_
                        refine lv_dup hx hb dX8_night_197 rfl ?_
                        refine m_get (v := .int s38_157) hx hb hts hown hK hP 38 (by decide) rfl kX8_194 rfl dX8_night_198 ?_
                        refine lv_iconst (v := 1) hx hb dX8_night_201 (by decide) ?_
                        refine lv_iload hx hb dX8_night_202 (lv_at hl 7 rfl) ?_
                        refine lv_ishl hx hb dX8_night_204 ?_
                        refine lv_iconst (v := (-1)) hx hb dX8_night_205 (by decide) ?_
                        refine lv_ixor hx hb dX8_night_206 ?_
                        refine lv_iand hx hb dX8_night_207 ?_
                        refine m_put (RS' := (va_up RS 38 (s38_157 &&& ((1 <<< ((nI i_157) &&& 31)) ^^^ (-1))))) (RN' := RN) (RL' := RL) (ty := .int) hx hb hts hown hI hK hP hS 38 (by decide) rfl kX8_194 rfl (by decide +kernel) rfl rfl rfl dX8_night_208 (fun H locs hP hS => ?_)
                        refine lv_aload_n hx hb dX8_night_211 rfl (lv_at hl 0 rfl) ?_
                        refine m_get (v := .ref (ad 20)) hx hb hts hown hK hP 36 (by decide) rfl kX8_67 rfl dX8_night_212 ?_
                        refine lv_iconst (v := 2) hx hb dX8_night_215 (by decide) ?_
                        refine lv_iload hx hb dX8_night_216 (lv_at hl 7 rfl) ?_
                        refine kn_imul hx hb 2 i_157 rfl rfl dX8_night_218 ?_
                        refine lv_iconst (v := 0) hx hb dX8_night_219 (by decide) ?_
                        refine kn_iast (f := a36_157) (ws' := RWs cI ad (va_up (va_up (va_up (va_up RA 36 (upd a36_157 (2 * i_157) 0)) 37 r_38.2.1) 39 r_38.2.2) 41 r_18) (va_up RS 38 (s38_157 &&& ((1 <<< ((nI i_157) &&& 31)) ^^^ (-1)))) RN RL) hx hb hK hP (RWsD hI) hS 20 rfl (2 * i_157) rfl (by omega) (by omega) rfl dX8_night_220 (fun H locs hP hS => ?_)
                        refine lv_aload_n hx hb dX8_night_221 rfl (lv_at hl 0 rfl) ?_
                        refine m_get (v := .ref (ad 20)) hx hb hts hown hK hP 36 (by decide) rfl kX8_67 rfl dX8_night_222 ?_
                        refine lv_iconst (v := 2) hx hb dX8_night_225 (by decide) ?_
                        refine lv_iload hx hb dX8_night_226 (lv_at hl 7 rfl) ?_
                        refine kn_imul hx hb 2 i_157 rfl rfl dX8_night_228 ?_
                        refine lv_iconst (v := 1) hx hb dX8_night_229 (by decide) ?_
                        refine kn_iadd hx hb (2 * i_157) 1 rfl rfl dX8_night_230 ?_
                        refine lv_iconst (v := 0) hx hb dX8_night_231 (by decide) ?_
                        refine kn_iast (f := (upd a36_157 (2 * i_157) 0)) (ws' := RWs cI ad (va_up (va_up (va_up (va_up RA 36 (upd (upd a36_157 (2 * i_157) 0) ((2 * i_157) + 1) 0)) 37 r_38.2.1) 39 r_38.2.2) 41 r_18) (va_up RS 38 (s38_157 &&& ((1 <<< ((nI i_157) &&& 31)) ^^^ (-1)))) RN RL) hx hb hK hP (RWsD hI) hS 20 rfl ((2 * i_157) + 1) rfl (by omega) (by omega) rfl dX8_night_232 (fun H locs hP hS => ?_)
                        refine lv_iinc (v := (nI (i_157 + 1))) (lv' := [(9, .int (nI (i_157 + 1))), (0, .ref (ad 0)), (1, .int v1), (2, .int v2), (3, .int v3), (4, .int v4), (5, .int 0), (6, .int (nI i_62))]) hx hb dX8_night_233 hl (k := 7) rfl (nI_add _ _) (by decide) rfl (fun ls hl => ?_)
                        refine lv_goto (tgt := 157) hx hb dX8_night_236 (by decide) ?_
                        have hL_157 : (m_night_L157 RA RS r_38.2.1 r_38.2.2 r_18 (n_157 + 1) i_157 a36_157 s38_157) = (m_night_L157 RA RS r_38.2.1 r_38.2.2 r_18 n_157 (i_157 + 1) (upd (upd a36_157 (2 * i_157) 0) ((2 * i_157) + 1) 0) (s38_157 &&& ((1 <<< ((nI i_157) &&& 31)) ^^^ (-1)))) := by subst hr_38; subst hr_19; subst hr_18; rw [m_night_L157.eq_2, if_neg c_41, if_neg c_42]
                        try rw [hL_157] at hk_157
                        exact ih_157 (i_157 + 1) (upd (upd a36_157 (2 * i_157) 0) ((2 * i_157) + 1) 0) (s38_157 &&& ((1 <<< ((nI i_157) &&& 31)) ^^^ (-1))) (by omega) _ _ _ hP hS (lv_sub hl [1, 2, 3, 4, 5, 6, 7, 0] rfl)  hk_157
                exact loop_157 (RN 4) 0 r_38.1 s38_62 (by omega) _ _ _ hP hS (lv_sub hl [4, 5, 6, 7, 8, 1, 9, 0] rfl)  (fun H locs ls hP hS hl  => rest_157 (m_night_L157 RA RS r_38.2.1 r_38.2.2 r_18 (RN 4) 0 r_38.1 s38_62).1 (m_night_L157 RA RS r_38.2.1 r_38.2.2 r_18 (RN 4) 0 r_38.1 s38_62).2 _ _ _ hP hS hl  (by subst hr_38; subst hr_19; subst hr_18; rw [m_night_b62, if_neg c_26]))
          exact loop_62 v3.toNatClampNeg 0 (RN 28) r_19.1 r_19.2.1 r_19.2.2.1 r_19.2.2.2 (by omega) _ _ _ hP hS (lv_sub hl [2, 3, 4, 5, 6, 1, 0] rfl) (mI_sky hM) (fun H locs ls hP hS hl  => rest_62 (m_night_L62 RA RS RN r_18 v1 v2 v3.toNatClampNeg 0 (RN 28) r_19.1 r_19.2.1 r_19.2.2.1 r_19.2.2.2).1 (m_night_L62 RA RS RN r_18 v1 v2 v3.toNatClampNeg 0 (RN 28) r_19.1 r_19.2.1 r_19.2.2.1 r_19.2.2.2).2.1 (m_night_L62 RA RS RN r_18 v1 v2 v3.toNatClampNeg 0 (RN 28) r_19.1 r_19.2.1 r_19.2.2.1 r_19.2.2.2).2.2.1 (m_night_L62 RA RS RN r_18 v1 v2 v3.toNatClampNeg 0 (RN 28) r_19.1 r_19.2.1 r_19.2.2.1 r_19.2.2.2).2.2.2.1 (m_night_L62 RA RS RN r_18 v1 v2 v3.toNatClampNeg 0 (RN 28) r_19.1 r_19.2.1 r_19.2.2.1 r_19.2.2.2).2.2.2.2 _ _ _ hP hS hl  (by subst hr_19; subst hr_18; rw [m_night, if_neg c_14, if_neg c_15, if_neg c_16, if_neg c_17]))
        · refine lv_iconst (v := (-1)) hx hb dX8_night_42 (by decide) ?_
          have hE : (m_night RA RS RN v1 v2 v3 v4) = ((-1), (RA 36), (RA 37), (RA 39), (RA 41), (RS 38)) := by rw [m_night, if_neg c_14, if_neg c_15, if_neg c_16, if_pos c_17]
          exact W.iret (v := (-1)) hx hb hr (fun t ht hW => ⟨by rw [hE], by rw [hE]; exact kB.of (ws := RWs cI ad (va_up (va_up (va_up (va_up RA 36 (RA 36)) 37 (RA 37)) 39 (RA 39)) 41 (RA 41)) (va_up RS 38 (RS 38)) RN RL) (RWs_conv rfl rfl rfl rfl rfl rfl rfl rfl rfl rfl rfl rfl rfl rfl rfl rfl rfl rfl rfl rfl rfl rfl rfl rfl rfl rfl rfl rfl rfl rfl rfl rfl rfl rfl rfl rfl rfl rfl rfl rfl rfl hP) hK hN ht hW, hS.F ht⟩) hS.2.2 dX8_night_43 hlocks

end REF
