section REF
variable {l : Launch} {dC : Nat → ClassId} {dI : Nat → Nat → Nat} {cI : ClassId} {ad : Nat → Nat} {RA : Nat → Nat → Int32} {RS : Nat → Int32} {RN : Nat → Nat} {RL : Int64}
-- X8_creak
def m_creak_k50 (RA : Nat → Nat → Int32) (RS : Nat → Int32) (a36 : Nat → Int32) (a37 : Nat → Int32) (a39 : Nat → Int32) (s38 : Int32) (v1 : Nat) (v4 : Int32) (v5 : Int32) : Int32 × (Nat → Int32) × (Nat → Int32) × (Nat → Int32) × (Nat → Int32) × Int32 × Int32 := if v5 = 0 then ((-2), (RA 22), a36, a37, a39, (RS 30), s38) else (if (RS 30) = 20 then ((-3), (RA 22), a36, a37, a39, (RS 30), s38) else (v5, (upd (RA 22) v1 v4), a36, a37, a39, ((RS 30) + 1), s38))
def m_creak_L50 (RA : Nat → Nat → Int32) (v1 : Nat) (v2 : Int32) (v3 : Int32) : Nat → Nat → Int32 → Int32 → Int32 × Int32
  | 0, i, v4, v5 => (v4, v5)
  | n + 1, i, v4, v5 => if (m_has (RA 22 v1) (nI i)) = 0 then m_creak_L50 RA v1 v2 v3 n (i + 1) (v4 ||| 0) (v5 + 0) else (if v3 ≤ (RA 10 ((4 * v1) + i)) then (if 0 = v2 then m_creak_L50 RA v1 v2 v3 n (i + 1) (v4 ||| (1 <<< ((nI i) &&& 31))) (v5 + (RA 11 ((4 * v1) + i))) else m_creak_L50 RA v1 v2 v3 n (i + 1) (v4 ||| 0) (v5 + 0)) else (if 1 = v2 then m_creak_L50 RA v1 v2 v3 n (i + 1) (v4 ||| (1 <<< ((nI i) &&& 31))) (v5 + (RA 11 ((4 * v1) + i))) else m_creak_L50 RA v1 v2 v3 n (i + 1) (v4 ||| 0) (v5 + 0)))
def m_creak (RA : Nat → Nat → Int32) (RS : Nat → Int32) (RN : Nat → Nat) (v1 : Int32) (v2 : Int32) : Int32 × (Nat → Int32) × (Nat → Int32) × (Nat → Int32) × (Nat → Int32) × Int32 × Int32 := if (m_isRoof RN v1) = 0 then ((-1), (RA 22), (RA 36), (RA 37), (RA 39), (RS 30), (RS 38)) else (if (m_has (RS 26) (nI v1.toNatClampNeg)) = 0 then ((-2), (RA 22), (RA 36), (RA 37), (RA 39), (RS 30), (RS 38)) else m_creak_k50 RA RS ((m_load RA RS).1) ((m_load RA RS).2.1) ((m_load RA RS).2.2.1) ((m_load RA RS).2.2.2) v1.toNatClampNeg (m_creak_L50 RA v1.toNatClampNeg v2 ((m_felt (va_up (va_up (va_up RA 36 ((m_load RA RS).1)) 37 ((m_load RA RS).2.1)) 39 ((m_load RA RS).2.2.1)) (va_up RS 38 ((m_load RA RS).2.2.2)) v1.toNatClampNeg 0 0) + (RS 17)) ((RA 12 v1.toNatClampNeg).toNatClampNeg) 0 0 0).1 (m_creak_L50 RA v1.toNatClampNeg v2 ((m_felt (va_up (va_up (va_up RA 36 ((m_load RA RS).1)) 37 ((m_load RA RS).2.1)) 39 ((m_load RA RS).2.2.1)) (va_up RS 38 ((m_load RA RS).2.2.2)) v1.toNatClampNeg 0 0) + (RS 17)) ((RA 12 v1.toNatClampNeg).toNatClampNeg) 0 0 0).2)
set_option maxHeartbeats 4000000 in
set_option maxRecDepth 100000 in
theorem c_m_creak (hI : kInj ad 24) (v1 : Int32) (v2 : Int32) (hM : mI RA RS RN) : Met l yX8_creak (.code yX8_creak cX8_creak 8 (some .int) :: kT) ({ frames := 2, cells := 0, slots := 0, locals := 47 } : Room) (va_Pc [.ref (ad 0), .int v1, .int v2] (kB (dC, dI) [(cI, .int)] (RWs cI ad RA RS RN RL))) (kQ (some (.int ((m_creak RA RS RN v1 v2).1))) (kB (dC, dI) [(cI, .int)] (RWs cI ad (va_up (va_up (va_up (va_up RA 22 ((m_creak RA RS RN v1 v2).2.1)) 36 ((m_creak RA RS RN v1 v2).2.2.1)) 37 ((m_creak RA RS RN v1 v2).2.2.2.1)) 39 ((m_creak RA RS RN v1 v2).2.2.2.2.1)) (va_up (va_up RS 30 ((m_creak RA RS RN v1 v2).2.2.2.2.2.1)) 38 ((m_creak RA RS RN v1 v2).2.2.2.2.2.2)) RN RL)) (kAA ad 24)) 0 0 (kAA ad 24) := by
  refine kMet (by decide) (fun p e s m args below meth c ls hx hb hr hml hts hown hlocks hname hargs hB hl => ?_) (Nat.le_of_ble_eq_true rfl)
  obtain ⟨hP, hK, hN⟩ := hB
  have hl : lv_has ls 8 [(0, .ref (ad 0)), (1, .int v1), (2, .int v2)] := hl
  have hS : va_S (kAA ad 24) s.heap s.heap [] := va_S.rf
  have h4 : RN 4 ≤ 8 := mI_many hM
  refine lv_aload_n hx hb dX8_creak_0 rfl (lv_at hl 0 rfl) ?_
  refine lv_iload_n hx hb dX8_creak_1 rfl (lv_at hl 1 rfl) ?_
  refine k_rV (v := .int (m_isRoof RN v1)) (As := [.int v1]) (rest := []) hx hb hml hown hts hl.1 hP hK hN (c_m_isRoof hI v1) eX8_221 (ci := 7) (q0 := 0) rfl rfl rfl rfl rfl (Nat.le_of_ble_eq_true rfl) ⟨Nat.le_of_ble_eq_true rfl, Nat.le_of_ble_eq_true rfl⟩ ⟨rfl, rfl⟩ ⟨Nat.le_of_ble_eq_true rfl, Nat.le_of_ble_eq_true rfl⟩ dX8_creak_2 ?_
  refine lv_if_ne (tgt := 10) hx hb dX8_creak_5 (by decide) (fun c_20 => ?_) (fun c_20 => ?_)
  · have hr1 := m_isRoof_t h4 c_20
    have hnat1 : v1 = (nI v1.toNatClampNeg) := kNat hr1.1
    have hl : lv_has ls 8 [(0, .ref (ad 0)), (1, .int (nI v1.toNatClampNeg)), (2, .int v2)] := by rw [← hnat1]; exact hl
    have hr1b : v1.toNatClampNeg < (RN 4) := kNat_lt hr1.2 (by omega)
    refine lv_aload_n hx hb dX8_creak_10 rfl (lv_at hl 0 rfl) ?_
    refine m_get (v := .int (RS 26)) hx hb hts hown hK hP 26 (by decide) rfl kX8_163 rfl dX8_creak_11 ?_
    refine lv_iload_n hx hb dX8_creak_14 rfl (lv_at hl 1 rfl) ?_
    refine k_rS (v := .int (m_has (RS 26) (nI v1.toNatClampNeg))) (As := [.int (RS 26), .int (nI v1.toNatClampNeg)]) (rest := []) hx hb hml hown hts hl.1 (B := fun _ => True) (fun _ _ _ _ q => q) (fun _ _ _ => trivial) (c_m_has (RS 26) (nI v1.toNatClampNeg)) eX8_204 rfl rfl (Nat.le_of_ble_eq_true rfl) ⟨Nat.le_of_ble_eq_true rfl, Nat.le_of_ble_eq_true rfl⟩ ⟨rfl, rfl⟩ ⟨Nat.le_of_ble_eq_true rfl, Nat.le_of_ble_eq_true rfl⟩ dX8_creak_15 ?_
    refine lv_if_ne (tgt := 24) hx hb dX8_creak_18 (by decide) (fun c_21 => ?_) (fun c_21 => ?_)
    · refine lv_aload_n hx hb dX8_creak_24 rfl (lv_at hl 0 rfl) ?_
      refine k_wV (r := none) (As := []) (rest := []) hx hb hml hown hts hl.1 hP hK hN hS (c_m_load hI) eX8_212 (ci := 7) (q0 := 0) rfl rfl rfl rfl rfl (Nat.le_of_ble_eq_true rfl) ⟨Nat.le_of_ble_eq_true rfl, Nat.le_of_ble_eq_true rfl⟩ ⟨rfl, rfl⟩ ⟨Nat.le_of_ble_eq_true rfl, Nat.le_of_ble_eq_true rfl⟩ dX8_creak_25 (fun H locs hP hS => ?_)
      obtain ⟨r_22, hr_22⟩ : ∃ z, z = (m_load RA RS) := ⟨_, rfl⟩
      rw [← hr_22] at hP
      have hP : va_P (dC, dI) vwCl (RWs cI ad (va_up (va_up (va_up RA 36 r_22.1) 37 r_22.2.1) 39 r_22.2.2.1) (va_up RS 38 r_22.2.2.2) RN RL) H := (RWs_conv rfl rfl rfl rfl rfl rfl rfl rfl rfl rfl rfl rfl rfl rfl rfl rfl rfl rfl rfl rfl rfl rfl rfl rfl rfl rfl rfl rfl rfl rfl rfl rfl rfl rfl rfl rfl rfl rfl rfl rfl rfl hP)
      refine lv_aload_n hx hb dX8_creak_28 rfl (lv_at hl 0 rfl) ?_
      refine lv_iload_n hx hb dX8_creak_29 rfl (lv_at hl 1 rfl) ?_
      refine lv_iconst (v := 0) hx hb dX8_creak_30 (by decide) ?_
      refine lv_iconst (v := 0) hx hb dX8_creak_31 (by decide) ?_
      refine k_rV (v := .int (m_felt (va_up (va_up (va_up RA 36 r_22.1) 37 r_22.2.1) 39 r_22.2.2.1) (va_up RS 38 r_22.2.2.2) v1.toNatClampNeg 0 0)) (As := [.int (nI v1.toNatClampNeg), .int 0, .int 0]) (rest := []) hx hb hml hown hts hl.1 hP hK hN (c_m_felt hI v1.toNatClampNeg 0 0 hM (by omega)) eX8_215 (ci := 7) (q0 := 0) rfl rfl rfl rfl rfl (Nat.le_of_ble_eq_true rfl) ⟨Nat.le_of_ble_eq_true rfl, Nat.le_of_ble_eq_true rfl⟩ ⟨rfl, rfl⟩ ⟨Nat.le_of_ble_eq_true rfl, Nat.le_of_ble_eq_true rfl⟩ dX8_creak_32 ?_
      refine lv_aload_n hx hb dX8_creak_35 rfl (lv_at hl 0 rfl) ?_
      refine m_get (v := .int (RS 17)) hx hb hts hown hK hP 17 (by decide) rfl kX8_148 rfl dX8_creak_36 ?_
      refine lv_iadd hx hb dX8_creak_39 ?_
      refine lv_istore_n (lv' := [(3, .int ((m_felt (va_up (va_up (va_up RA 36 r_22.1) 37 r_22.2.1) 39 r_22.2.2.1) (va_up RS 38 r_22.2.2.2) v1.toNatClampNeg 0 0) + (RS 17))), (0, .ref (ad 0)), (1, .int (nI v1.toNatClampNeg)), (2, .int v2)]) hx hb dX8_creak_40 rfl hl (by decide) rfl (fun ls hl => ?_)
      refine lv_iconst (v := 0) hx hb dX8_creak_41 (by decide) ?_
      refine lv_istore (lv' := [(4, .int 0), (3, .int ((m_felt (va_up (va_up (va_up RA 36 r_22.1) 37 r_22.2.1) 39 r_22.2.2.1) (va_up RS 38 r_22.2.2.2) v1.toNatClampNeg 0 0) + (RS 17))), (0, .ref (ad 0)), (1, .int (nI v1.toNatClampNeg)), (2, .int v2)]) hx hb dX8_creak_42 hl (by decide) rfl (fun ls hl => ?_)
      refine lv_iconst (v := 0) hx hb dX8_creak_44 (by decide) ?_
      refine lv_istore (lv' := [(5, .int 0), (4, .int 0), (3, .int ((m_felt (va_up (va_up (va_up RA 36 r_22.1) 37 r_22.2.1) 39 r_22.2.2.1) (va_up RS 38 r_22.2.2.2) v1.toNatClampNeg 0 0) + (RS 17))), (0, .ref (ad 0)), (1, .int (nI v1.toNatClampNeg)), (2, .int v2)]) hx hb dX8_creak_45 hl (by decide) rfl (fun ls hl => ?_)
      refine lv_iconst (v := 0) hx hb dX8_creak_47 (by decide) ?_
      refine lv_istore (lv' := [(6, .int 0), (5, .int 0), (4, .int 0), (3, .int ((m_felt (va_up (va_up (va_up RA 36 r_22.1) 37 r_22.2.1) 39 r_22.2.2.1) (va_up RS 38 r_22.2.2.2) v1.toNatClampNeg 0 0) + (RS 17))), (0, .ref (ad 0)), (1, .int (nI v1.toNatClampNeg)), (2, .int v2)]) hx hb dX8_creak_48 hl (by decide) rfl (fun ls hl => ?_)
      have rest_50 : ∀ (x4_50 : Int32) (x5_50 : Int32), ∀ (ls : Array Slot), lv_has ls 8 [(0, .ref (ad 0)), (1, .int (nI v1.toNatClampNeg)), (4, .int x4_50), (5, .int x5_50)] → (m_creak RA RS RN v1 v2) = m_creak_k50 RA RS r_22.1 r_22.2.1 r_22.2.2.1 r_22.2.2.2 v1.toNatClampNeg x4_50 x5_50 → W p l e ({ frames := 2, cells := 0, slots := 0, locals := 47 } : Room) s m args below meth c H locs 0 0 (MQ below (kQ (some (.int ((m_creak RA RS RN v1 v2).1))) (kB (dC, dI) [(cI, .int)] (RWs cI ad (va_up (va_up (va_up (va_up RA 22 ((m_creak RA RS RN v1 v2).2.1)) 36 ((m_creak RA RS RN v1 v2).2.2.1)) 37 ((m_creak RA RS RN v1 v2).2.2.2.1)) 39 ((m_creak RA RS RN v1 v2).2.2.2.2.1)) (va_up (va_up RS 30 ((m_creak RA RS RN v1 v2).2.2.2.2.2.1)) 38 ((m_creak RA RS RN v1 v2).2.2.2.2.2.2)) RN RL)) (kAA ad 24)) args s 0 0 (kAA ad 24)) (F0 m 155 ls []) := by
        intro x4_50 x5_50 ls hl  hF_50
        refine lv_iload hx hb dX8_creak_155 (lv_at hl 3 rfl) ?_
        refine lv_if_ne (tgt := 163) hx hb dX8_creak_157 (by decide) (fun c_23 => ?_) (fun c_23 => ?_)
        · refine lv_aload_n hx hb dX8_creak_163 rfl (lv_at hl 0 rfl) ?_
          refine m_get (v := .int (RS 30)) hx hb hts hown hK hP 30 (by decide) rfl kX8_171 rfl dX8_creak_164 ?_
          refine lv_bipush (v := 20) hx hb dX8_creak_167 (by decide) ?_
          refine lv_icmp_ne (tgt := 175) hx hb dX8_creak_169 (by decide) (fun c_24 => ?_) (fun c_24 => ?_)
          · refine lv_aload_n hx hb dX8_creak_175 rfl (lv_at hl 0 rfl) ?_
            refine lv_dup hx hb dX8_creak_176 rfl ?_
            refine m_get (v := .int (RS 30)) hx hb hts hown hK hP 30 (by decide) rfl kX8_171 rfl dX8_creak_177 ?_
            refine lv_iconst (v := 1) hx hb dX8_creak_180 (by decide) ?_
            refine lv_iadd hx hb dX8_creak_181 ?_
            refine m_put (RS' := (va_up (va_up RS 30 ((RS 30) + 1)) 38 r_22.2.2.2)) (RN' := RN) (RL' := RL) (ty := .int) hx hb hts hown hI hK hP hS 30 (by decide) rfl kX8_171 rfl (by decide +kernel) rfl rfl rfl dX8_creak_182 (fun H locs hP hS => ?_)
            refine lv_aload_n hx hb dX8_creak_185 rfl (lv_at hl 0 rfl) ?_
            refine m_get (v := .ref (ad 14)) hx hb hts hown hK hP 22 (by decide) rfl kX8_49 rfl dX8_creak_186 ?_
            refine lv_iload_n hx hb dX8_creak_189 rfl (lv_at hl 1 rfl) ?_
            refine lv_iload hx hb dX8_creak_190 (lv_at hl 2 rfl) ?_
            refine kn_iast (f := (RA 22)) (ws' := RWs cI ad (va_up (va_up (va_up (va_up RA 22 (upd (RA 22) v1.toNatClampNeg x4_50)) 36 r_22.1) 37 r_22.2.1) 39 r_22.2.2.1) (va_up (va_up RS 30 ((RS 30) + 1)) 38 r_22.2.2.2) RN RL) hx hb hK hP (RWsD hI) hS 14 rfl v1.toNatClampNeg rfl (by omega) (by omega) rfl dX8_creak_192 (fun H locs hP hS => ?_)
            refine lv_iload hx hb dX8_creak_193 (lv_at hl 3 rfl) ?_
            have hE : (m_creak RA RS RN v1 v2) = (x5_50, (upd (RA 22) v1.toNatClampNeg x4_50), r_22.1, r_22.2.1, r_22.2.2.1, ((RS 30) + 1), r_22.2.2.2) := by subst hr_22; exact hF_50.trans (by rw [m_creak_k50, if_neg c_23, if_neg c_24])
            exact W.iret (v := x5_50) hx hb hr (fun t ht hW => ⟨by rw [hE], by rw [hE]; exact kB.of (ws := RWs cI ad (va_up (va_up (va_up (va_up RA 22 (upd (RA 22) v1.toNatClampNeg x4_50)) 36 r_22.1) 37 r_22.2.1) 39 r_22.2.2.1) (va_up (va_up RS 30 ((RS 30) + 1)) 38 r_22.2.2.2) RN RL) hP hK hN ht hW, hS.F ht⟩) hS.2.2 dX8_creak_195 hlocks
          · refine lv_bipush (v := (-3)) hx hb dX8_creak_172 (by decide) ?_
            have hE : (m_creak RA RS RN v1 v2) = ((-3), (RA 22), r_22.1, r_22.2.1, r_22.2.2.1, (RS 30), r_22.2.2.2) := by subst hr_22; exact hF_50.trans (by rw [m_creak_k50, if_neg c_23, if_pos c_24])
            exact W.iret (v := (-3)) hx hb hr (fun t ht hW => ⟨by rw [hE], by rw [hE]; exact kB.of (ws := RWs cI ad (va_up (va_up (va_up (va_up RA 22 (RA 22)) 36 r_22.1) 37 r_22.2.1) 39 r_22.2.2.1) (va_up (va_up RS 30 (RS 30)) 38 r_22.2.2.2) RN RL) (RWs_conv rfl rfl rfl rfl rfl rfl rfl rfl rfl rfl rfl rfl rfl rfl rfl rfl rfl rfl rfl rfl rfl rfl rfl rfl rfl rfl rfl rfl rfl rfl rfl rfl rfl rfl rfl rfl rfl rfl rfl rfl rfl hP) hK hN ht hW, hS.F ht⟩) hS.2.2 dX8_creak_174 hlocks
        · refine lv_bipush (v := (-2)) hx hb dX8_creak_160 (by decide) ?_
          have hE : (m_creak RA RS RN v1 v2) = ((-2), (RA 22), r_22.1, r_22.2.1, r_22.2.2.1, (RS 30), r_22.2.2.2) := by subst hr_22; exact hF_50.trans (by rw [m_creak_k50, if_pos c_23])
          exact W.iret (v := (-2)) hx hb hr (fun t ht hW => ⟨by rw [hE], by rw [hE]; exact kB.of (ws := RWs cI ad (va_up (va_up (va_up (va_up RA 22 (RA 22)) 36 r_22.1) 37 r_22.2.1) 39 r_22.2.2.1) (va_up (va_up RS 30 (RS 30)) 38 r_22.2.2.2) RN RL) (RWs_conv rfl rfl rfl rfl rfl rfl rfl rfl rfl rfl rfl rfl rfl rfl rfl rfl rfl rfl rfl rfl rfl rfl rfl rfl rfl rfl rfl rfl rfl rfl rfl rfl rfl rfl rfl rfl rfl rfl rfl rfl rfl hP) hK hN ht hW, hS.F ht⟩) hS.2.2 dX8_creak_162 hlocks
      have hN_50 : ((RA 12 v1.toNatClampNeg).toNatClampNeg) < 2 ^ 31 := kcl_lt _
      have loop_50 : ∀ (n_50 i_50 : Nat) (x4_50 : Int32) (x5_50 : Int32), i_50 + n_50 = (RA 12 v1.toNatClampNeg).toNatClampNeg → ∀ (ls : Array Slot), lv_has ls 8 [(0, .ref (ad 0)), (1, .int (nI v1.toNatClampNeg)), (2, .int v2), (3, .int ((m_felt (va_up (va_up (va_up RA 36 r_22.1) 37 r_22.2.1) 39 r_22.2.2.1) (va_up RS 38 r_22.2.2.2) v1.toNatClampNeg 0 0) + (RS 17))), (4, .int x4_50), (5, .int x5_50), (6, .int (nI i_50))] → (∀ (ls : Array Slot), lv_has ls 8 [(0, .ref (ad 0)), (1, .int (nI v1.toNatClampNeg)), (4, .int ((m_creak_L50 RA v1.toNatClampNeg v2 ((m_felt (va_up (va_up (va_up RA 36 r_22.1) 37 r_22.2.1) 39 r_22.2.2.1) (va_up RS 38 r_22.2.2.2) v1.toNatClampNeg 0 0) + (RS 17)) n_50 i_50 x4_50 x5_50).1)), (5, .int ((m_creak_L50 RA v1.toNatClampNeg v2 ((m_felt (va_up (va_up (va_up RA 36 r_22.1) 37 r_22.2.1) 39 r_22.2.2.1) (va_up RS 38 r_22.2.2.2) v1.toNatClampNeg 0 0) + (RS 17)) n_50 i_50 x4_50 x5_50).2))] → W p l e ({ frames := 2, cells := 0, slots := 0, locals := 47 } : Room) s m args below meth c H locs 0 0 (MQ below (kQ (some (.int ((m_creak RA RS RN v1 v2).1))) (kB (dC, dI) [(cI, .int)] (RWs cI ad (va_up (va_up (va_up (va_up RA 22 ((m_creak RA RS RN v1 v2).2.1)) 36 ((m_creak RA RS RN v1 v2).2.2.1)) 37 ((m_creak RA RS RN v1 v2).2.2.2.1)) 39 ((m_creak RA RS RN v1 v2).2.2.2.2.1)) (va_up (va_up RS 30 ((m_creak RA RS RN v1 v2).2.2.2.2.2.1)) 38 ((m_creak RA RS RN v1 v2).2.2.2.2.2.2)) RN RL)) (kAA ad 24)) args s 0 0 (kAA ad 24)) (F0 m 155 ls [])) → W p l e ({ frames := 2, cells := 0, slots := 0, locals := 47 } : Room) s m args below meth c H locs 0 0 (MQ below (kQ (some (.int ((m_creak RA RS RN v1 v2).1))) (kB (dC, dI) [(cI, .int)] (RWs cI ad (va_up (va_up (va_up (va_up RA 22 ((m_creak RA RS RN v1 v2).2.1)) 36 ((m_creak RA RS RN v1 v2).2.2.1)) 37 ((m_creak RA RS RN v1 v2).2.2.2.1)) 39 ((m_creak RA RS RN v1 v2).2.2.2.2.1)) (va_up (va_up RS 30 ((m_creak RA RS RN v1 v2).2.2.2.2.2.1)) 38 ((m_creak RA RS RN v1 v2).2.2.2.2.2.2)) RN RL)) (kAA ad 24)) args s 0 0 (kAA ad 24)) (F0 m 50 ls []) := by
        intro n_50
        induction n_50 with
        | zero =>
          intro i_50 x4_50 x5_50 hin_50 ls hl  hk_50
          refine lv_iload hx hb dX8_creak_50 (lv_at hl 6 rfl) ?_
          refine lv_aload_n hx hb dX8_creak_52 rfl (lv_at hl 0 rfl) ?_
          refine m_get (v := .ref (ad 10)) hx hb hts hown hK hP 12 (by decide) rfl kX8_37 rfl dX8_creak_53 ?_
          refine lv_iload_n hx hb dX8_creak_56 rfl (lv_at hl 1 rfl) ?_
          refine kn_iald (f := (RA 12)) (v := (RA 12 v1.toNatClampNeg)) hx hb hK hP 10 rfl v1.toNatClampNeg rfl (by omega) (by omega) rfl dX8_creak_57 ?_
          refine lv_icmp_ge (tgt := 155) hx hb dX8_creak_58 (by decide) (fun _ => ?_) (fun c_25 => absurd (kct_ge (N := (RA 12 v1.toNatClampNeg).toNatClampNeg) rfl (by omega) (by omega)) c_25)
          have hL_50 : (m_creak_L50 RA v1.toNatClampNeg v2 ((m_felt (va_up (va_up (va_up RA 36 r_22.1) 37 r_22.2.1) 39 r_22.2.2.1) (va_up RS 38 r_22.2.2.2) v1.toNatClampNeg 0 0) + (RS 17)) 0 i_50 x4_50 x5_50) = (x4_50, x5_50) := by subst hr_22; rw [m_creak_L50.eq_1]
          try rw [hL_50] at hk_50
          exact hk_50 _ (lv_sub hl [0, 1, 4, 5] rfl) 
        | succ n_50 ih_50 =>
          intro i_50 x4_50 x5_50 hin_50 ls hl  hk_50
          have h12 := mI_bm hM v1.toNatClampNeg (by omega)
          refine lv_iload hx hb dX8_creak_50 (lv_at hl 6 rfl) ?_
          refine lv_aload_n hx hb dX8_creak_52 rfl (lv_at hl 0 rfl) ?_
          refine m_get (v := .ref (ad 10)) hx hb hts hown hK hP 12 (by decide) rfl kX8_37 rfl dX8_creak_53 ?_
          refine lv_iload_n hx hb dX8_creak_56 rfl (lv_at hl 1 rfl) ?_
          refine kn_iald (f := (RA 12)) (v := (RA 12 v1.toNatClampNeg)) hx hb hK hP 10 rfl v1.toNatClampNeg rfl (by omega) (by omega) rfl dX8_creak_57 ?_
          refine lv_icmp_ge (tgt := 155) hx hb dX8_creak_58 (by decide) (fun c_26 => absurd c_26 (kct_lt (N := (RA 12 v1.toNatClampNeg).toNatClampNeg) rfl (by omega))) (fun _ => ?_)
          refine lv_aload_n hx hb dX8_creak_61 rfl (lv_at hl 0 rfl) ?_
          refine m_get (v := .ref (ad 14)) hx hb hts hown hK hP 22 (by decide) rfl kX8_49 rfl dX8_creak_62 ?_
          refine lv_iload_n hx hb dX8_creak_65 rfl (lv_at hl 1 rfl) ?_
          refine kn_iald (f := (RA 22)) (v := (RA 22 v1.toNatClampNeg)) hx hb hK hP 14 rfl v1.toNatClampNeg rfl (by omega) (by omega) rfl dX8_creak_66 ?_
          refine lv_iload hx hb dX8_creak_67 (lv_at hl 6 rfl) ?_
          refine k_rS (v := .int (m_has (RA 22 v1.toNatClampNeg) (nI i_50))) (As := [.int (RA 22 v1.toNatClampNeg), .int (nI i_50)]) (rest := []) hx hb hml hown hts hl.1 (B := fun _ => True) (fun _ _ _ _ q => q) (fun _ _ _ => trivial) (c_m_has (RA 22 v1.toNatClampNeg) (nI i_50)) eX8_204 rfl rfl (Nat.le_of_ble_eq_true rfl) ⟨Nat.le_of_ble_eq_true rfl, Nat.le_of_ble_eq_true rfl⟩ ⟨rfl, rfl⟩ ⟨Nat.le_of_ble_eq_true rfl, Nat.le_of_ble_eq_true rfl⟩ dX8_creak_69 ?_
          refine lv_if_eq (tgt := 103) hx hb dX8_creak_72 (by decide) (fun c_27 => ?_) (fun c_27 => ?_)
          · refine lv_iconst (v := 0) hx hb dX8_creak_103 (by decide) ?_
            refine lv_istore (lv' := [(7, .int 0), (0, .ref (ad 0)), (1, .int (nI v1.toNatClampNeg)), (2, .int v2), (3, .int ((m_felt (va_up (va_up (va_up RA 36 r_22.1) 37 r_22.2.1) 39 r_22.2.2.1) (va_up RS 38 r_22.2.2.2) v1.toNatClampNeg 0 0) + (RS 17))), (4, .int x4_50), (5, .int x5_50), (6, .int (nI i_50))]) hx hb dX8_creak_104 hl (by decide) rfl (fun ls hl => ?_)
            refine lv_iload hx hb dX8_creak_106 (lv_at hl 5 rfl) ?_
            refine lv_iload hx hb dX8_creak_108 (lv_at hl 0 rfl) ?_
            refine lv_if_eq (tgt := 120) hx hb dX8_creak_110 (by decide) (fun _ => ?_) (fun c_28 => absurd (by decide) c_28)
            refine lv_iconst (v := 0) hx hb dX8_creak_120 (by decide) ?_
            refine lv_ior hx hb dX8_creak_121 ?_
            refine lv_istore (lv' := [(4, .int (x4_50 ||| 0)), (7, .int 0), (0, .ref (ad 0)), (1, .int (nI v1.toNatClampNeg)), (2, .int v2), (3, .int ((m_felt (va_up (va_up (va_up RA 36 r_22.1) 37 r_22.2.1) 39 r_22.2.2.1) (va_up RS 38 r_22.2.2.2) v1.toNatClampNeg 0 0) + (RS 17))), (5, .int x5_50), (6, .int (nI i_50))]) hx hb dX8_creak_122 hl (by decide) rfl (fun ls hl => ?_)
            refine lv_iload hx hb dX8_creak_124 (lv_at hl 6 rfl) ?_
            refine lv_iload hx hb dX8_creak_126 (lv_at hl 1 rfl) ?_
            refine lv_if_eq (tgt := 145) hx hb dX8_creak_128 (by decide) (fun _ => ?_) (fun c_29 => absurd (by decide) c_29)
            refine lv_iconst (v := 0) hx hb dX8_creak_145 (by decide) ?_
            refine lv_iadd hx hb dX8_creak_146 ?_
            refine lv_istore (lv' := [(5, .int (x5_50 + 0)), (4, .int (x4_50 ||| 0)), (7, .int 0), (0, .ref (ad 0)), (1, .int (nI v1.toNatClampNeg)), (2, .int v2), (3, .int ((m_felt (va_up (va_up (va_up RA 36 r_22.1) 37 r_22.2.1) 39 r_22.2.2.1) (va_up RS 38 r_22.2.2.2) v1.toNatClampNeg 0 0) + (RS 17))), (6, .int (nI i_50))]) hx hb dX8_creak_147 hl (by decide) rfl (fun ls hl => ?_)
            refine lv_iinc (v := (nI (i_50 + 1))) (lv' := [(6, .int (nI (i_50 + 1))), (5, .int (x5_50 + 0)), (4, .int (x4_50 ||| 0)), (7, .int 0), (0, .ref (ad 0)), (1, .int (nI v1.toNatClampNeg)), (2, .int v2), (3, .int ((m_felt (va_up (va_up (va_up RA 36 r_22.1) 37 r_22.2.1) 39 r_22.2.2.1) (va_up RS 38 r_22.2.2.2) v1.toNatClampNeg 0 0) + (RS 17)))]) hx hb dX8_creak_149 hl (k := 7) rfl (nI_add _ _) (by decide) rfl (fun ls hl => ?_)
            refine lv_goto (tgt := 50) hx hb dX8_creak_152 (by decide) ?_
            have hL_50 : (m_creak_L50 RA v1.toNatClampNeg v2 ((m_felt (va_up (va_up (va_up RA 36 r_22.1) 37 r_22.2.1) 39 r_22.2.2.1) (va_up RS 38 r_22.2.2.2) v1.toNatClampNeg 0 0) + (RS 17)) (n_50 + 1) i_50 x4_50 x5_50) = (m_creak_L50 RA v1.toNatClampNeg v2 ((m_felt (va_up (va_up (va_up RA 36 r_22.1) 37 r_22.2.1) 39 r_22.2.2.1) (va_up RS 38 r_22.2.2.2) v1.toNatClampNeg 0 0) + (RS 17)) n_50 (i_50 + 1) (x4_50 ||| 0) (x5_50 + 0)) := by subst hr_22; rw [m_creak_L50.eq_2, if_pos c_27]
            try rw [hL_50] at hk_50
            exact ih_50 (i_50 + 1) (x4_50 ||| 0) (x5_50 + 0) (by omega) _ (lv_sub hl [4, 5, 6, 7, 2, 1, 0] rfl)  hk_50
          · refine lv_aload_n hx hb dX8_creak_75 rfl (lv_at hl 0 rfl) ?_
            refine m_get (v := .ref (ad 8)) hx hb hts hown hK hP 10 (by decide) rfl kX8_31 rfl dX8_creak_76 ?_
            refine lv_iconst (v := 4) hx hb dX8_creak_79 (by decide) ?_
            refine lv_iload_n hx hb dX8_creak_80 rfl (lv_at hl 1 rfl) ?_
            refine kn_imul hx hb 4 v1.toNatClampNeg rfl rfl dX8_creak_81 ?_
            refine lv_iload hx hb dX8_creak_82 (lv_at hl 6 rfl) ?_
            refine kn_iadd hx hb (4 * v1.toNatClampNeg) i_50 rfl rfl dX8_creak_84 ?_
            refine kn_iald (f := (RA 10)) (v := (RA 10 ((4 * v1.toNatClampNeg) + i_50))) hx hb hK hP 8 rfl ((4 * v1.toNatClampNeg) + i_50) rfl (by omega) (by omega) rfl dX8_creak_85 ?_
            refine lv_iload_n hx hb dX8_creak_86 rfl (lv_at hl 3 rfl) ?_
            refine lv_icmp_ge (tgt := 94) hx hb dX8_creak_87 (by decide) (fun c_30 => ?_) (fun c_30 => ?_)
            · refine lv_iconst (v := 0) hx hb dX8_creak_94 (by decide) ?_
              refine lv_iload_n hx hb dX8_creak_95 rfl (lv_at hl 2 rfl) ?_
              refine lv_icmp_ne (tgt := 103) hx hb dX8_creak_96 (by decide) (fun c_31 => ?_) (fun c_31 => ?_)
              · refine lv_iconst (v := 0) hx hb dX8_creak_103 (by decide) ?_
                refine lv_istore (lv' := [(7, .int 0), (0, .ref (ad 0)), (1, .int (nI v1.toNatClampNeg)), (2, .int v2), (3, .int ((m_felt (va_up (va_up (va_up RA 36 r_22.1) 37 r_22.2.1) 39 r_22.2.2.1) (va_up RS 38 r_22.2.2.2) v1.toNatClampNeg 0 0) + (RS 17))), (4, .int x4_50), (5, .int x5_50), (6, .int (nI i_50))]) hx hb dX8_creak_104 hl (by decide) rfl (fun ls hl => ?_)
                refine lv_iload hx hb dX8_creak_106 (lv_at hl 5 rfl) ?_
                refine lv_iload hx hb dX8_creak_108 (lv_at hl 0 rfl) ?_
                refine lv_if_eq (tgt := 120) hx hb dX8_creak_110 (by decide) (fun _ => ?_) (fun c_32 => absurd (by decide) c_32)
                refine lv_iconst (v := 0) hx hb dX8_creak_120 (by decide) ?_
                refine lv_ior hx hb dX8_creak_121 ?_
                refine lv_istore (lv' := [(4, .int (x4_50 ||| 0)), (7, .int 0), (0, .ref (ad 0)), (1, .int (nI v1.toNatClampNeg)), (2, .int v2), (3, .int ((m_felt (va_up (va_up (va_up RA 36 r_22.1) 37 r_22.2.1) 39 r_22.2.2.1) (va_up RS 38 r_22.2.2.2) v1.toNatClampNeg 0 0) + (RS 17))), (5, .int x5_50), (6, .int (nI i_50))]) hx hb dX8_creak_122 hl (by decide) rfl (fun ls hl => ?_)
                refine lv_iload hx hb dX8_creak_124 (lv_at hl 6 rfl) ?_
                refine lv_iload hx hb dX8_creak_126 (lv_at hl 1 rfl) ?_
                refine lv_if_eq (tgt := 145) hx hb dX8_creak_128 (by decide) (fun _ => ?_) (fun c_33 => absurd (by decide) c_33)
                refine lv_iconst (v := 0) hx hb dX8_creak_145 (by decide) ?_
                refine lv_iadd hx hb dX8_creak_146 ?_
                refine lv_istore (lv' := [(5, .int (x5_50 + 0)), (4, .int (x4_50 ||| 0)), (7, .int 0), (0, .ref (ad 0)), (1, .int (nI v1.toNatClampNeg)), (2, .int v2), (3, .int ((m_felt (va_up (va_up (va_up RA 36 r_22.1) 37 r_22.2.1) 39 r_22.2.2.1) (va_up RS 38 r_22.2.2.2) v1.toNatClampNeg 0 0) + (RS 17))), (6, .int (nI i_50))]) hx hb dX8_creak_147 hl (by decide) rfl (fun ls hl => ?_)
                refine lv_iinc (v := (nI (i_50 + 1))) (lv' := [(6, .int (nI (i_50 + 1))), (5, .int (x5_50 + 0)), (4, .int (x4_50 ||| 0)), (7, .int 0), (0, .ref (ad 0)), (1, .int (nI v1.toNatClampNeg)), (2, .int v2), (3, .int ((m_felt (va_up (va_up (va_up RA 36 r_22.1) 37 r_22.2.1) 39 r_22.2.2.1) (va_up RS 38 r_22.2.2.2) v1.toNatClampNeg 0 0) + (RS 17)))]) hx hb dX8_creak_149 hl (k := 7) rfl (nI_add _ _) (by decide) rfl (fun ls hl => ?_)
                refine lv_goto (tgt := 50) hx hb dX8_creak_152 (by decide) ?_
                have hL_50 : (m_creak_L50 RA v1.toNatClampNeg v2 ((m_felt (va_up (va_up (va_up RA 36 r_22.1) 37 r_22.2.1) 39 r_22.2.2.1) (va_up RS 38 r_22.2.2.2) v1.toNatClampNeg 0 0) + (RS 17)) (n_50 + 1) i_50 x4_50 x5_50) = (m_creak_L50 RA v1.toNatClampNeg v2 ((m_felt (va_up (va_up (va_up RA 36 r_22.1) 37 r_22.2.1) 39 r_22.2.2.1) (va_up RS 38 r_22.2.2.2) v1.toNatClampNeg 0 0) + (RS 17)) n_50 (i_50 + 1) (x4_50 ||| 0) (x5_50 + 0)) := by subst hr_22; rw [m_creak_L50.eq_2, if_neg c_27, if_pos c_30, if_neg c_31]
                try rw [hL_50] at hk_50
                exact ih_50 (i_50 + 1) (x4_50 ||| 0) (x5_50 + 0) (by omega) _ (lv_sub hl [4, 5, 6, 7, 2, 1, 0] rfl)  hk_50
              · refine lv_iconst (v := 1) hx hb dX8_creak_99 (by decide) ?_
                refine lv_goto (tgt := 104) hx hb dX8_creak_100 (by decide) ?_
                refine lv_istore (lv' := [(7, .int 1), (0, .ref (ad 0)), (1, .int (nI v1.toNatClampNeg)), (2, .int v2), (3, .int ((m_felt (va_up (va_up (va_up RA 36 r_22.1) 37 r_22.2.1) 39 r_22.2.2.1) (va_up RS 38 r_22.2.2.2) v1.toNatClampNeg 0 0) + (RS 17))), (4, .int x4_50), (5, .int x5_50), (6, .int (nI i_50))]) hx hb dX8_creak_104 hl (by decide) rfl (fun ls hl => ?_)
                refine lv_iload hx hb dX8_creak_106 (lv_at hl 5 rfl) ?_
                refine lv_iload hx hb dX8_creak_108 (lv_at hl 0 rfl) ?_
                refine lv_if_eq (tgt := 120) hx hb dX8_creak_110 (by decide) (fun c_34 => absurd c_34 (by decide)) (fun _ => ?_)
                refine lv_iconst (v := 1) hx hb dX8_creak_113 (by decide) ?_
                refine lv_iload hx hb dX8_creak_114 (lv_at hl 7 rfl) ?_
                refine lv_ishl hx hb dX8_creak_116 ?_
                refine lv_goto (tgt := 121) hx hb dX8_creak_117 (by decide) ?_
                refine lv_ior hx hb dX8_creak_121 ?_
                refine lv_istore (lv' := [(4, .int (x4_50 ||| (1 <<< ((nI i_50) &&& 31)))), (7, .int 1), (0, .ref (ad 0)), (1, .int (nI v1.toNatClampNeg)), (2, .int v2), (3, .int ((m_felt (va_up (va_up (va_up RA 36 r_22.1) 37 r_22.2.1) 39 r_22.2.2.1) (va_up RS 38 r_22.2.2.2) v1.toNatClampNeg 0 0) + (RS 17))), (5, .int x5_50), (6, .int (nI i_50))]) hx hb dX8_creak_122 hl (by decide) rfl (fun ls hl => ?_)
                refine lv_iload hx hb dX8_creak_124 (lv_at hl 6 rfl) ?_
                refine lv_iload hx hb dX8_creak_126 (lv_at hl 1 rfl) ?_
                refine lv_if_eq (tgt := 145) hx hb dX8_creak_128 (by decide) (fun c_35 => absurd c_35 (by decide)) (fun _ => ?_)
                refine lv_aload_n hx hb dX8_creak_131 rfl (lv_at hl 2 rfl) ?_
                refine m_get (v := .ref (ad 9)) hx hb hts hown hK hP 11 (by decide) rfl kX8_34 rfl dX8_creak_132 ?_
                refine lv_iconst (v := 4) hx hb dX8_creak_135 (by decide) ?_
                refine lv_iload_n hx hb dX8_creak_136 rfl (lv_at hl 3 rfl) ?_
                refine kn_imul hx hb 4 v1.toNatClampNeg rfl rfl dX8_creak_137 ?_
                refine lv_iload hx hb dX8_creak_138 (lv_at hl 7 rfl) ?_
                refine kn_iadd hx hb (4 * v1.toNatClampNeg) i_50 rfl rfl dX8_creak_140 ?_
                refine kn_iald (f := (RA 11)) (v := (RA 11 ((4 * v1.toNatClampNeg) + i_50))) hx hb hK hP 9 rfl ((4 * v1.toNatClampNeg) + i_50) rfl (by omega) (by omega) rfl dX8_creak_141 ?_
                refine lv_goto (tgt := 146) hx hb dX8_creak_142 (by decide) ?_
                refine lv_iadd hx hb dX8_creak_146 ?_
                refine lv_istore (lv' := [(5, .int (x5_50 + (RA 11 ((4 * v1.toNatClampNeg) + i_50)))), (4, .int (x4_50 ||| (1 <<< ((nI i_50) &&& 31)))), (7, .int 1), (0, .ref (ad 0)), (1, .int (nI v1.toNatClampNeg)), (2, .int v2), (3, .int ((m_felt (va_up (va_up (va_up RA 36 r_22.1) 37 r_22.2.1) 39 r_22.2.2.1) (va_up RS 38 r_22.2.2.2) v1.toNatClampNeg 0 0) + (RS 17))), (6, .int (nI i_50))]) hx hb dX8_creak_147 hl (by decide) rfl (fun ls hl => ?_)
                refine lv_iinc (v := (nI (i_50 + 1))) (lv' := [(6, .int (nI (i_50 + 1))), (5, .int (x5_50 + (RA 11 ((4 * v1.toNatClampNeg) + i_50)))), (4, .int (x4_50 ||| (1 <<< ((nI i_50) &&& 31)))), (7, .int 1), (0, .ref (ad 0)), (1, .int (nI v1.toNatClampNeg)), (2, .int v2), (3, .int ((m_felt (va_up (va_up (va_up RA 36 r_22.1) 37 r_22.2.1) 39 r_22.2.2.1) (va_up RS 38 r_22.2.2.2) v1.toNatClampNeg 0 0) + (RS 17)))]) hx hb dX8_creak_149 hl (k := 7) rfl (nI_add _ _) (by decide) rfl (fun ls hl => ?_)
                refine lv_goto (tgt := 50) hx hb dX8_creak_152 (by decide) ?_
                have hL_50 : (m_creak_L50 RA v1.toNatClampNeg v2 ((m_felt (va_up (va_up (va_up RA 36 r_22.1) 37 r_22.2.1) 39 r_22.2.2.1) (va_up RS 38 r_22.2.2.2) v1.toNatClampNeg 0 0) + (RS 17)) (n_50 + 1) i_50 x4_50 x5_50) = (m_creak_L50 RA v1.toNatClampNeg v2 ((m_felt (va_up (va_up (va_up RA 36 r_22.1) 37 r_22.2.1) 39 r_22.2.2.1) (va_up RS 38 r_22.2.2.2) v1.toNatClampNeg 0 0) + (RS 17)) n_50 (i_50 + 1) (x4_50 ||| (1 <<< ((nI i_50) &&& 31))) (x5_50 + (RA 11 ((4 * v1.toNatClampNeg) + i_50)))) := by subst hr_22; rw [m_creak_L50.eq_2, if_neg c_27, if_pos c_30, if_pos c_31]
                try rw [hL_50] at hk_50
                exact ih_50 (i_50 + 1) (x4_50 ||| (1 <<< ((nI i_50) &&& 31))) (x5_50 + (RA 11 ((4 * v1.toNatClampNeg) + i_50))) (by omega) _ (lv_sub hl [4, 5, 6, 7, 2, 1, 0] rfl)  hk_50
            · refine lv_iconst (v := 1) hx hb dX8_creak_90 (by decide) ?_
              refine lv_goto (tgt := 95) hx hb dX8_creak_91 (by decide) ?_
              refine lv_iload_n hx hb dX8_creak_95 rfl (lv_at hl 2 rfl) ?_
              refine lv_icmp_ne (tgt := 103) hx hb dX8_creak_96 (by decide) (fun c_36 => ?_) (fun c_36 => ?_)
              · refine lv_iconst (v := 0) hx hb dX8_creak_103 (by decide) ?_
                refine lv_istore (lv' := [(7, .int 0), (0, .ref (ad 0)), (1, .int (nI v1.toNatClampNeg)), (2, .int v2), (3, .int ((m_felt (va_up (va_up (va_up RA 36 r_22.1) 37 r_22.2.1) 39 r_22.2.2.1) (va_up RS 38 r_22.2.2.2) v1.toNatClampNeg 0 0) + (RS 17))), (4, .int x4_50), (5, .int x5_50), (6, .int (nI i_50))]) hx hb dX8_creak_104 hl (by decide) rfl (fun ls hl => ?_)
                refine lv_iload hx hb dX8_creak_106 (lv_at hl 5 rfl) ?_
                refine lv_iload hx hb dX8_creak_108 (lv_at hl 0 rfl) ?_
                refine lv_if_eq (tgt := 120) hx hb dX8_creak_110 (by decide) (fun _ => ?_) (fun c_37 => absurd (by decide) c_37)
                refine lv_iconst (v := 0) hx hb dX8_creak_120 (by decide) ?_
                refine lv_ior hx hb dX8_creak_121 ?_
                refine lv_istore (lv' := [(4, .int (x4_50 ||| 0)), (7, .int 0), (0, .ref (ad 0)), (1, .int (nI v1.toNatClampNeg)), (2, .int v2), (3, .int ((m_felt (va_up (va_up (va_up RA 36 r_22.1) 37 r_22.2.1) 39 r_22.2.2.1) (va_up RS 38 r_22.2.2.2) v1.toNatClampNeg 0 0) + (RS 17))), (5, .int x5_50), (6, .int (nI i_50))]) hx hb dX8_creak_122 hl (by decide) rfl (fun ls hl => ?_)
                refine lv_iload hx hb dX8_creak_124 (lv_at hl 6 rfl) ?_
                refine lv_iload hx hb dX8_creak_126 (lv_at hl 1 rfl) ?_
                refine lv_if_eq (tgt := 145) hx hb dX8_creak_128 (by decide) (fun _ => ?_) (fun c_38 => absurd (by decide) c_38)
                refine lv_iconst (v := 0) hx hb dX8_creak_145 (by decide) ?_
                refine lv_iadd hx hb dX8_creak_146 ?_
                refine lv_istore (lv' := [(5, .int (x5_50 + 0)), (4, .int (x4_50 ||| 0)), (7, .int 0), (0, .ref (ad 0)), (1, .int (nI v1.toNatClampNeg)), (2, .int v2), (3, .int ((m_felt (va_up (va_up (va_up RA 36 r_22.1) 37 r_22.2.1) 39 r_22.2.2.1) (va_up RS 38 r_22.2.2.2) v1.toNatClampNeg 0 0) + (RS 17))), (6, .int (nI i_50))]) hx hb dX8_creak_147 hl (by decide) rfl (fun ls hl => ?_)
                refine lv_iinc (v := (nI (i_50 + 1))) (lv' := [(6, .int (nI (i_50 + 1))), (5, .int (x5_50 + 0)), (4, .int (x4_50 ||| 0)), (7, .int 0), (0, .ref (ad 0)), (1, .int (nI v1.toNatClampNeg)), (2, .int v2), (3, .int ((m_felt (va_up (va_up (va_up RA 36 r_22.1) 37 r_22.2.1) 39 r_22.2.2.1) (va_up RS 38 r_22.2.2.2) v1.toNatClampNeg 0 0) + (RS 17)))]) hx hb dX8_creak_149 hl (k := 7) rfl (nI_add _ _) (by decide) rfl (fun ls hl => ?_)
                refine lv_goto (tgt := 50) hx hb dX8_creak_152 (by decide) ?_
                have hL_50 : (m_creak_L50 RA v1.toNatClampNeg v2 ((m_felt (va_up (va_up (va_up RA 36 r_22.1) 37 r_22.2.1) 39 r_22.2.2.1) (va_up RS 38 r_22.2.2.2) v1.toNatClampNeg 0 0) + (RS 17)) (n_50 + 1) i_50 x4_50 x5_50) = (m_creak_L50 RA v1.toNatClampNeg v2 ((m_felt (va_up (va_up (va_up RA 36 r_22.1) 37 r_22.2.1) 39 r_22.2.2.1) (va_up RS 38 r_22.2.2.2) v1.toNatClampNeg 0 0) + (RS 17)) n_50 (i_50 + 1) (x4_50 ||| 0) (x5_50 + 0)) := by subst hr_22; rw [m_creak_L50.eq_2, if_neg c_27, if_neg c_30, if_neg c_36]
                try rw [hL_50] at hk_50
                exact ih_50 (i_50 + 1) (x4_50 ||| 0) (x5_50 + 0) (by omega) _ (lv_sub hl [4, 5, 6, 7, 2, 1, 0] rfl)  hk_50
              · refine lv_iconst (v := 1) hx hb dX8_creak_99 (by decide) ?_
                refine lv_goto (tgt := 104) hx hb dX8_creak_100 (by decide) ?_
                refine lv_istore (lv' := [(7, .int 1), (0, .ref (ad 0)), (1, .int (nI v1.toNatClampNeg)), (2, .int v2), (3, .int ((m_felt (va_up (va_up (va_up RA 36 r_22.1) 37 r_22.2.1) 39 r_22.2.2.1) (va_up RS 38 r_22.2.2.2) v1.toNatClampNeg 0 0) + (RS 17))), (4, .int x4_50), (5, .int x5_50), (6, .int (nI i_50))]) hx hb dX8_creak_104 hl (by decide) rfl (fun ls hl => ?_)
                refine lv_iload hx hb dX8_creak_106 (lv_at hl 5 rfl) ?_
                refine lv_iload hx hb dX8_creak_108 (lv_at hl 0 rfl) ?_
                refine lv_if_eq (tgt := 120) hx hb dX8_creak_110 (by decide) (fun c_39 => absurd c_39 (by decide)) (fun _ => ?_)
                refine lv_iconst (v := 1) hx hb dX8_creak_113 (by decide) ?_
                refine lv_iload hx hb dX8_creak_114 (lv_at hl 7 rfl) ?_
                refine lv_ishl hx hb dX8_creak_116 ?_
                refine lv_goto (tgt := 121) hx hb dX8_creak_117 (by decide) ?_
                refine lv_ior hx hb dX8_creak_121 ?_
                refine lv_istore (lv' := [(4, .int (x4_50 ||| (1 <<< ((nI i_50) &&& 31)))), (7, .int 1), (0, .ref (ad 0)), (1, .int (nI v1.toNatClampNeg)), (2, .int v2), (3, .int ((m_felt (va_up (va_up (va_up RA 36 r_22.1) 37 r_22.2.1) 39 r_22.2.2.1) (va_up RS 38 r_22.2.2.2) v1.toNatClampNeg 0 0) + (RS 17))), (5, .int x5_50), (6, .int (nI i_50))]) hx hb dX8_creak_122 hl (by decide) rfl (fun ls hl => ?_)
                refine lv_iload hx hb dX8_creak_124 (lv_at hl 6 rfl) ?_
                refine lv_iload hx hb dX8_creak_126 (lv_at hl 1 rfl) ?_
                refine lv_if_eq (tgt := 145) hx hb dX8_creak_128 (by decide) (fun c_40 => absurd c_40 (by decide)) (fun _ => ?_)
                refine lv_aload_n hx hb dX8_creak_131 rfl (lv_at hl 2 rfl) ?_
                refine m_get (v := .ref (ad 9)) hx hb hts hown hK hP 11 (by decide) rfl kX8_34 rfl dX8_creak_132 ?_
                refine lv_iconst (v := 4) hx hb dX8_creak_135 (by decide) ?_
                refine lv_iload_n hx hb dX8_creak_136 rfl (lv_at hl 3 rfl) ?_
                refine kn_imul hx hb 4 v1.toNatClampNeg rfl rfl dX8_creak_137 ?_
                refine lv_iload hx hb dX8_creak_138 (lv_at hl 7 rfl) ?_
                refine kn_iadd hx hb (4 * v1.toNatClampNeg) i_50 rfl rfl dX8_creak_140 ?_
                refine kn_iald (f := (RA 11)) (v := (RA 11 ((4 * v1.toNatClampNeg) + i_50))) hx hb hK hP 9 rfl ((4 * v1.toNatClampNeg) + i_50) rfl (by omega) (by omega) rfl dX8_creak_141 ?_
                refine lv_goto (tgt := 146) hx hb dX8_creak_142 (by decide) ?_
                refine lv_iadd hx hb dX8_creak_146 ?_
                refine lv_istore (lv' := [(5, .int (x5_50 + (RA 11 ((4 * v1.toNatClampNeg) + i_50)))), (4, .int (x4_50 ||| (1 <<< ((nI i_50) &&& 31)))), (7, .int 1), (0, .ref (ad 0)), (1, .int (nI v1.toNatClampNeg)), (2, .int v2), (3, .int ((m_felt (va_up (va_up (va_up RA 36 r_22.1) 37 r_22.2.1) 39 r_22.2.2.1) (va_up RS 38 r_22.2.2.2) v1.toNatClampNeg 0 0) + (RS 17))), (6, .int (nI i_50))]) hx hb dX8_creak_147 hl (by decide) rfl (fun ls hl => ?_)
                refine lv_iinc (v := (nI (i_50 + 1))) (lv' := [(6, .int (nI (i_50 + 1))), (5, .int (x5_50 + (RA 11 ((4 * v1.toNatClampNeg) + i_50)))), (4, .int (x4_50 ||| (1 <<< ((nI i_50) &&& 31)))), (7, .int 1), (0, .ref (ad 0)), (1, .int (nI v1.toNatClampNeg)), (2, .int v2), (3, .int ((m_felt (va_up (va_up (va_up RA 36 r_22.1) 37 r_22.2.1) 39 r_22.2.2.1) (va_up RS 38 r_22.2.2.2) v1.toNatClampNeg 0 0) + (RS 17)))]) hx hb dX8_creak_149 hl (k := 7) rfl (nI_add _ _) (by decide) rfl (fun ls hl => ?_)
                refine lv_goto (tgt := 50) hx hb dX8_creak_152 (by decide) ?_
                have hL_50 : (m_creak_L50 RA v1.toNatClampNeg v2 ((m_felt (va_up (va_up (va_up RA 36 r_22.1) 37 r_22.2.1) 39 r_22.2.2.1) (va_up RS 38 r_22.2.2.2) v1.toNatClampNeg 0 0) + (RS 17)) (n_50 + 1) i_50 x4_50 x5_50) = (m_creak_L50 RA v1.toNatClampNeg v2 ((m_felt (va_up (va_up (va_up RA 36 r_22.1) 37 r_22.2.1) 39 r_22.2.2.1) (va_up RS 38 r_22.2.2.2) v1.toNatClampNeg 0 0) + (RS 17)) n_50 (i_50 + 1) (x4_50 ||| (1 <<< ((nI i_50) &&& 31))) (x5_50 + (RA 11 ((4 * v1.toNatClampNeg) + i_50)))) := by subst hr_22; rw [m_creak_L50.eq_2, if_neg c_27, if_neg c_30, if_pos c_36]
                try rw [hL_50] at hk_50
                exact ih_50 (i_50 + 1) (x4_50 ||| (1 <<< ((nI i_50) &&& 31))) (x5_50 + (RA 11 ((4 * v1.toNatClampNeg) + i_50))) (by omega) _ (lv_sub hl [4, 5, 6, 7, 2, 1, 0] rfl)  hk_50
      exact loop_50 ((RA 12 v1.toNatClampNeg).toNatClampNeg) 0 0 0 (by omega) _ (lv_sub hl [4, 5, 6, 3, 2, 1, 0] rfl)  (fun ls hl  => rest_50 (m_creak_L50 RA v1.toNatClampNeg v2 ((m_felt (va_up (va_up (va_up RA 36 r_22.1) 37 r_22.2.1) 39 r_22.2.2.1) (va_up RS 38 r_22.2.2.2) v1.toNatClampNeg 0 0) + (RS 17)) ((RA 12 v1.toNatClampNeg).toNatClampNeg) 0 0 0).1 (m_creak_L50 RA v1.toNatClampNeg v2 ((m_felt (va_up (va_up (va_up RA 36 r_22.1) 37 r_22.2.1) 39 r_22.2.2.1) (va_up RS 38 r_22.2.2.2) v1.toNatClampNeg 0 0) + (RS 17)) ((RA 12 v1.toNatClampNeg).toNatClampNeg) 0 0 0).2 _ hl  (by subst hr_22; rw [m_creak, if_neg c_20, if_neg c_21]))
    · refine lv_bipush (v := (-2)) hx hb dX8_creak_21 (by decide) ?_
      have hE : (m_creak RA RS RN v1 v2) = ((-2), (RA 22), (RA 36), (RA 37), (RA 39), (RS 30), (RS 38)) := by rw [m_creak, if_neg c_20, if_pos c_21]
      exact W.iret (v := (-2)) hx hb hr (fun t ht hW => ⟨by rw [hE], by rw [hE]; exact kB.of (ws := RWs cI ad (va_up (va_up (va_up (va_up RA 22 (RA 22)) 36 (RA 36)) 37 (RA 37)) 39 (RA 39)) (va_up (va_up RS 30 (RS 30)) 38 (RS 38)) RN RL) (RWs_conv rfl rfl rfl rfl rfl rfl rfl rfl rfl rfl rfl rfl rfl rfl rfl rfl rfl rfl rfl rfl rfl rfl rfl rfl rfl rfl rfl rfl rfl rfl rfl rfl rfl rfl rfl rfl rfl rfl rfl rfl rfl hP) hK hN ht hW, hS.F ht⟩) hS.2.2 dX8_creak_23 hlocks
  · refine lv_iconst (v := (-1)) hx hb dX8_creak_8 (by decide) ?_
    have hE : (m_creak RA RS RN v1 v2) = ((-1), (RA 22), (RA 36), (RA 37), (RA 39), (RS 30), (RS 38)) := by rw [m_creak, if_pos c_20]
    exact W.iret (v := (-1)) hx hb hr (fun t ht hW => ⟨by rw [hE], by rw [hE]; exact kB.of (ws := RWs cI ad (va_up (va_up (va_up (va_up RA 22 (RA 22)) 36 (RA 36)) 37 (RA 37)) 39 (RA 39)) (va_up (va_up RS 30 (RS 30)) 38 (RS 38)) RN RL) (RWs_conv rfl rfl rfl rfl rfl rfl rfl rfl rfl rfl rfl rfl rfl rfl rfl rfl rfl rfl rfl rfl rfl rfl rfl rfl rfl rfl rfl rfl rfl rfl rfl rfl rfl rfl rfl rfl rfl rfl rfl rfl rfl hP) hK hN ht hW, hS.F ht⟩) hS.2.2 dX8_creak_9 hlocks

end REF
