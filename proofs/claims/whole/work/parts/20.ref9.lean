section REF
variable {l : Launch} {dC : Nat → ClassId} {dI : Nat → Nat → Nat} {cI : ClassId} {ad : Nat → Nat} {RA : Nat → Nat → Int32} {RS : Nat → Int32} {RN : Nat → Nat} {RL : Int64}
-- X8_write
def m_write_k34 (a0 : Nat → Int32) (n1 : Nat) : Int32 × (Nat → Int32) × Nat := ((nI n1), a0, n1)
def m_write_L34 (v2 : Int64) : Nat → Nat → Int32 → (Nat → Int32) → Nat → Int32 × (Nat → Int32) × Nat
  | 0, i, v4, a0, n1 => (v4, a0, n1)
  | n + 1, i, v4, a0, n1 => m_write_L34 v2 n (i + 1) (v4 + (-1)) (upd a0 n1 (((v2 >>> ((8 * v4).toInt64 &&& 63)) &&& 255).toInt32)) (n1 + 1)
def m_write (RA : Nat → Nat → Int32) (RN : Nat → Nat) (v1 : Int32) (v2 : Int64) : Int32 × (Nat → Int32) × Nat := if (m_in v1.toInt64 1 8) = 0 then ((-1), (RA 0), (RN 1)) else (if (nI ((RN 1) + v1.toNatClampNeg)) ≤ 500 then m_write_k34 (m_write_L34 v2 v1.toNatClampNeg 0 ((nI v1.toNatClampNeg) - 1) (RA 0) (RN 1)).2.1 (m_write_L34 v2 v1.toNatClampNeg 0 ((nI v1.toNatClampNeg) - 1) (RA 0) (RN 1)).2.2 else ((-3), (RA 0), (RN 1)))
set_option maxHeartbeats 4000000 in
set_option maxRecDepth 100000 in
theorem c_m_write (hI : kInj ad 24) (v1 : Int32) (v2 : Int64) (hM : mI RA RS RN) : Met l yX8_write (.code yX8_write cX8_write 5 (some .int) :: kT) ({ frames := 1, cells := 0, slots := 0, locals := 25 } : Room) (va_Pc [.ref (ad 0), .int v1, .long v2] (kB (dC, dI) [(cI, .int)] (RWs cI ad RA RS RN RL))) (kQ (some (.int ((m_write RA RN v1 v2).1))) (kB (dC, dI) [(cI, .int)] (RWs cI ad (va_up RA 0 ((m_write RA RN v1 v2).2.1)) RS (va_up RN 1 ((m_write RA RN v1 v2).2.2)) RL)) (kAA ad 24)) 0 0 (kAA ad 24) := by
  refine kMet (by decide) (fun p e s m args below meth c ls hx hb hr hml hts hown hlocks hname hargs hB hl => ?_) (Nat.le_of_ble_eq_true rfl)
  obtain ⟨hP, hK, hN⟩ := hB
  have hl : lv_has ls 5 [(0, .ref (ad 0)), (1, .int v1), (2, .long v2)] := hl
  have hS : va_S (kAA ad 24) s.heap s.heap [] := va_S.rf
  have hlen := mI_len hM
  refine lv_iload_n hx hb dX8_write_0 rfl (lv_at hl 1 rfl) ?_
  refine lv_i2l (v := v1.toInt64) hx hb dX8_write_1 rfl ?_
  refine lv_lconst (v := 1) hx hb dX8_write_2 (by decide) ?_
  refine lv_ldc2 (v := 8) hx hb hown (hts _ kX8_97) dX8_write_3 ?_
  refine k_rS (v := .int (m_in v1.toInt64 1 8)) (As := [.long v1.toInt64, .long 1, .long 8]) (rest := []) hx hb hml hown hts hl.1 (B := fun _ => True) (fun _ _ _ _ q => q) (fun _ _ _ => trivial) (c_m_in v1.toInt64 1 8) eX8_99 rfl rfl (Nat.le_of_ble_eq_true rfl) ⟨Nat.le_of_ble_eq_true rfl, Nat.le_of_ble_eq_true rfl⟩ ⟨rfl, rfl⟩ ⟨Nat.le_of_ble_eq_true rfl, Nat.le_of_ble_eq_true rfl⟩ dX8_write_6 ?_
  refine lv_if_ne (tgt := 14) hx hb dX8_write_9 (by decide) (fun c_4 => ?_) (fun c_4 => ?_)
  · have hq1 := m_in_t c_4
    have hnat1 : v1 = (nI v1.toNatClampNeg) := kNat (Int.le_trans (by decide) hq1.1)
    have hl : lv_has ls 5 [(0, .ref (ad 0)), (1, .int (nI v1.toNatClampNeg)), (2, .long v2)] := by rw [← hnat1]; exact hl
    have hq1a : 1 ≤ v1.toNatClampNeg := kNat_ge hq1.1
    have hq1b : v1.toNatClampNeg ≤ 8 := kNat_le hq1.2
    refine lv_aload_n hx hb dX8_write_14 rfl (lv_at hl 0 rfl) ?_
    refine m_get (v := .int (nI (RN 1))) hx hb hts hown hK hP 1 (by decide) rfl kX8_103 rfl dX8_write_15 ?_
    refine lv_iload_n hx hb dX8_write_18 rfl (lv_at hl 1 rfl) ?_
    refine kn_iadd hx hb (RN 1) v1.toNatClampNeg rfl rfl dX8_write_19 ?_
    refine lv_sipush (v := 500) hx hb dX8_write_20 (by decide) ?_
    refine lv_icmp_le (tgt := 29) hx hb dX8_write_23 (by decide) (fun c_5 => ?_) (fun c_5 => ?_)
    · have hfit := knI_le (a := RN 1 + v1.toNatClampNeg) (b := 500) (by assumption) (by omega) (by omega)
      refine lv_iload_n hx hb dX8_write_29 rfl (lv_at hl 1 rfl) ?_
      refine lv_iconst (v := 1) hx hb dX8_write_30 (by decide) ?_
      refine lv_isub hx hb dX8_write_31 ?_
      refine lv_istore (lv' := [(4, .int ((nI v1.toNatClampNeg) - 1)), (0, .ref (ad 0)), (1, .int (nI v1.toNatClampNeg)), (2, .long v2)]) hx hb dX8_write_32 hl (by decide) rfl (fun ls hl => ?_)
      have rest_34 : ∀ (x4_34 : Int32) (a0_34 : Nat → Int32) (n1_34 : Nat), ∀ (H : Heap) (locs : List Loc) (ls : Array Slot), va_P (dC, dI) vwCl (RWs cI ad (va_up RA 0 a0_34) RS (va_up RN 1 n1_34) RL) H → va_S (kAA ad 24) s.heap H locs → lv_has ls 5 [(0, .ref (ad 0))] → (m_write RA RN v1 v2) = m_write_k34 a0_34 n1_34 → W p l e ({ frames := 1, cells := 0, slots := 0, locals := 25 } : Room) s m args below meth c H locs 0 0 (MQ below (kQ (some (.int ((m_write RA RN v1 v2).1))) (kB (dC, dI) [(cI, .int)] (RWs cI ad (va_up RA 0 ((m_write RA RN v1 v2).2.1)) RS (va_up RN 1 ((m_write RA RN v1 v2).2.2)) RL)) (kAA ad 24)) args s 0 0 (kAA ad 24)) (F0 m 76 ls []) := by
        intro x4_34 a0_34 n1_34 H locs ls hP hS hl  hF_34
        refine lv_aload_n hx hb dX8_write_76 rfl (lv_at hl 0 rfl) ?_
        refine m_get (v := .int (nI n1_34)) hx hb hts hown hK hP 1 (by decide) rfl kX8_103 rfl dX8_write_77 ?_
        have hE : (m_write RA RN v1 v2) = ((nI n1_34), a0_34, n1_34) := hF_34.trans (by rw [m_write_k34])
        exact W.iret (v := (nI n1_34)) hx hb hr (fun t ht hW => ⟨by rw [hE], by rw [hE]; exact kB.of (ws := RWs cI ad (va_up RA 0 a0_34) RS (va_up RN 1 n1_34) RL) hP hK hN ht hW, hS.F ht⟩) hS.2.2 dX8_write_80 hlocks
      have loop_34 : ∀ (n_34 i_34 : Nat) (x4_34 : Int32) (a0_34 : Nat → Int32) (n1_34 : Nat), i_34 + n_34 = v1.toNatClampNeg → ∀ (H : Heap) (locs : List Loc) (ls : Array Slot), va_P (dC, dI) vwCl (RWs cI ad (va_up RA 0 a0_34) RS (va_up RN 1 n1_34) RL) H → va_S (kAA ad 24) s.heap H locs → lv_has ls 5 [(0, .ref (ad 0)), (2, .long v2), (4, .int x4_34)] → (x4_34 = nI n_34 - 1) → (n1_34 + n_34 ≤ 500) → (∀ (H : Heap) (locs : List Loc) (ls : Array Slot), va_P (dC, dI) vwCl (RWs cI ad (va_up RA 0 ((m_write_L34 v2 n_34 i_34 x4_34 a0_34 n1_34).2.1)) RS (va_up RN 1 ((m_write_L34 v2 n_34 i_34 x4_34 a0_34 n1_34).2.2)) RL) H → va_S (kAA ad 24) s.heap H locs → lv_has ls 5 [(0, .ref (ad 0))] → W p l e ({ frames := 1, cells := 0, slots := 0, locals := 25 } : Room) s m args below meth c H locs 0 0 (MQ below (kQ (some (.int ((m_write RA RN v1 v2).1))) (kB (dC, dI) [(cI, .int)] (RWs cI ad (va_up RA 0 ((m_write RA RN v1 v2).2.1)) RS (va_up RN 1 ((m_write RA RN v1 v2).2.2)) RL)) (kAA ad 24)) args s 0 0 (kAA ad 24)) (F0 m 76 ls [])) → W p l e ({ frames := 1, cells := 0, slots := 0, locals := 25 } : Room) s m args below meth c H locs 0 0 (MQ below (kQ (some (.int ((m_write RA RN v1 v2).1))) (kB (dC, dI) [(cI, .int)] (RWs cI ad (va_up RA 0 ((m_write RA RN v1 v2).2.1)) RS (va_up RN 1 ((m_write RA RN v1 v2).2.2)) RL)) (kAA ad 24)) args s 0 0 (kAA ad 24)) (F0 m 34 ls []) := by
        intro n_34
        induction n_34 with
        | zero =>
          intro i_34 x4_34 a0_34 n1_34 hin_34 H locs ls hP hS hl hinv_34a hinv_34b hk_34
          refine lv_iload hx hb dX8_write_34 (lv_at hl 2 rfl) ?_
          refine lv_if_lt (tgt := 76) hx hb dX8_write_36 (by decide) (fun _ => ?_) (fun c_6 => absurd (by rw [hinv_34a]; decide) c_6)
          have hL_34 : (m_write_L34 v2 0 i_34 x4_34 a0_34 n1_34) = (x4_34, a0_34, n1_34) := by rw [m_write_L34.eq_1]
          try rw [hL_34] at hk_34
          exact hk_34 _ _ _ hP hS (lv_sub hl [0] rfl) 
        | succ n_34 ih_34 =>
          intro i_34 x4_34 a0_34 n1_34 hin_34 H locs ls hP hS hl hinv_34a hinv_34b hk_34
          refine lv_iload hx hb dX8_write_34 (lv_at hl 2 rfl) ?_
          refine lv_if_lt (tgt := 76) hx hb dX8_write_36 (by decide) (fun c_7 => absurd c_7 (by rw [hinv_34a, nI_pred]; exact nI_pos (by omega))) (fun _ => ?_)
          refine lv_aload_n hx hb dX8_write_39 rfl (lv_at hl 0 rfl) ?_
          refine m_get (v := .ref (ad 1)) hx hb hts hown hK hP 0 (by decide) rfl kX8_7 rfl dX8_write_40 ?_
          refine lv_aload_n hx hb dX8_write_43 rfl (lv_at hl 0 rfl) ?_
          refine m_get (v := .int (nI n1_34)) hx hb hts hown hK hP 1 (by decide) rfl kX8_103 rfl dX8_write_44 ?_
          refine lv_lload_n hx hb dX8_write_47 rfl (lv_at hl 1 rfl) ?_
          refine lv_bipush (v := 8) hx hb dX8_write_48 (by decide) ?_
          refine lv_iload hx hb dX8_write_50 (lv_at hl 2 rfl) ?_
          refine lv_imul hx hb dX8_write_52 ?_
          refine lv_lshr (v := (v2 >>> ((8 * x4_34).toInt64 &&& 63))) hx hb dX8_write_53 rfl ?_
          refine lv_ldc2 (v := 255) hx hb hown (hts _ kX8_106) dX8_write_54 ?_
          refine lv_land hx hb dX8_write_57 ?_
          refine lv_l2i (v := (((v2 >>> ((8 * x4_34).toInt64 &&& 63)) &&& 255).toInt32)) hx hb dX8_write_58 rfl ?_
          refine kn_iast (f := a0_34) (ws' := RWs cI ad (va_up RA 0 (upd a0_34 n1_34 (((v2 >>> ((8 * x4_34).toInt64 &&& 63)) &&& 255).toInt32))) RS (va_up RN 1 n1_34) RL) hx hb hK hP (RWsD hI) hS 1 rfl n1_34 rfl (by omega) (by omega) rfl dX8_write_59 (fun H locs hP hS => ?_)
          refine lv_aload_n hx hb dX8_write_60 rfl (lv_at hl 0 rfl) ?_
          refine lv_dup hx hb dX8_write_61 rfl ?_
          refine m_get (v := .int (nI n1_34)) hx hb hts hown hK hP 1 (by decide) rfl kX8_103 rfl dX8_write_62 ?_
          refine lv_iconst (v := 1) hx hb dX8_write_65 (by decide) ?_
          refine kn_iadd hx hb n1_34 1 rfl rfl dX8_write_66 ?_
          refine m_put (RS' := RS) (RN' := (va_up RN 1 (n1_34 + 1))) (RL' := RL) (ty := .int) hx hb hts hown hI hK hP hS 1 (by decide) rfl kX8_103 rfl (by decide +kernel) rfl rfl rfl dX8_write_67 (fun H locs hP hS => ?_)
          refine lv_iinc (v := (x4_34 + (-1))) (lv' := [(4, .int (x4_34 + (-1))), (0, .ref (ad 0)), (2, .long v2)]) hx hb dX8_write_70 hl (k := 2) rfl rfl (by decide) rfl (fun ls hl => ?_)
          refine lv_goto (tgt := 34) hx hb dX8_write_73 (by decide) ?_
          have hL_34 : (m_write_L34 v2 (n_34 + 1) i_34 x4_34 a0_34 n1_34) = (m_write_L34 v2 n_34 (i_34 + 1) (x4_34 + (-1)) (upd a0_34 n1_34 (((v2 >>> ((8 * x4_34).toInt64 &&& 63)) &&& 255).toInt32)) (n1_34 + 1)) := by rw [m_write_L34.eq_2]
          try rw [hL_34] at hk_34
          exact ih_34 (i_34 + 1) (x4_34 + (-1)) (upd a0_34 n1_34 (((v2 >>> ((8 * x4_34).toInt64 &&& 63)) &&& 255).toInt32)) (n1_34 + 1) (by omega) _ _ _ hP hS (lv_sub hl [1, 2, 0] rfl) (by rw [hinv_34a, nI_pred]; exact kadd_m1 _) (by omega) hk_34
      have hP : va_P (dC, dI) vwCl (RWs cI ad (va_up RA 0 (RA 0)) RS (va_up RN 1 (RN 1)) RL) s.heap := (RWs_conv rfl rfl rfl rfl rfl rfl rfl rfl rfl rfl rfl rfl rfl rfl rfl rfl rfl rfl rfl rfl rfl rfl rfl rfl rfl rfl rfl rfl rfl rfl rfl rfl rfl rfl rfl rfl rfl rfl rfl rfl rfl hP)
      exact loop_34 v1.toNatClampNeg 0 ((nI v1.toNatClampNeg) - 1) (RA 0) (RN 1) (by omega) _ _ _ hP hS (lv_sub hl [1, 3, 0] rfl) (rfl) (by omega) (fun H locs ls hP hS hl  => rest_34 (m_write_L34 v2 v1.toNatClampNeg 0 ((nI v1.toNatClampNeg) - 1) (RA 0) (RN 1)).1 (m_write_L34 v2 v1.toNatClampNeg 0 ((nI v1.toNatClampNeg) - 1) (RA 0) (RN 1)).2.1 (m_write_L34 v2 v1.toNatClampNeg 0 ((nI v1.toNatClampNeg) - 1) (RA 0) (RN 1)).2.2 _ _ _ hP hS hl  (by rw [m_write, if_neg c_4, if_pos c_5]))
    · refine lv_bipush (v := (-3)) hx hb dX8_write_26 (by decide) ?_
      have hE : (m_write RA RN v1 v2) = ((-3), (RA 0), (RN 1)) := by rw [m_write, if_neg c_4, if_neg c_5]
      exact W.iret (v := (-3)) hx hb hr (fun t ht hW => ⟨by rw [hE], by rw [hE]; exact kB.of (ws := RWs cI ad (va_up RA 0 (RA 0)) RS (va_up RN 1 (RN 1)) RL) (RWs_conv rfl rfl rfl rfl rfl rfl rfl rfl rfl rfl rfl rfl rfl rfl rfl rfl rfl rfl rfl rfl rfl rfl rfl rfl rfl rfl rfl rfl rfl rfl rfl rfl rfl rfl rfl rfl rfl rfl rfl rfl rfl hP) hK hN ht hW, hS.F ht⟩) hS.2.2 dX8_write_28 hlocks
  · refine lv_iconst (v := (-1)) hx hb dX8_write_12 (by decide) ?_
    have hE : (m_write RA RN v1 v2) = ((-1), (RA 0), (RN 1)) := by rw [m_write, if_pos c_4]
    exact W.iret (v := (-1)) hx hb hr (fun t ht hW => ⟨by rw [hE], by rw [hE]; exact kB.of (ws := RWs cI ad (va_up RA 0 (RA 0)) RS (va_up RN 1 (RN 1)) RL) (RWs_conv rfl rfl rfl rfl rfl rfl rfl rfl rfl rfl rfl rfl rfl rfl rfl rfl rfl rfl rfl rfl rfl rfl rfl rfl rfl rfl rfl rfl rfl rfl rfl rfl rfl rfl rfl rfl rfl rfl rfl rfl rfl hP) hK hN ht hW, hS.F ht⟩) hS.2.2 dX8_write_13 hlocks
-- X8_draw
def m_draw (v0 : Int32) (v1 : Int32) (v2 : Int32) : Int32 := ((((((((7919 * v0.toInt64) + (6151 * v1.toInt64)) + (3571 * v2.toInt64)) + 1) * ((((7919 * v0.toInt64) + (6151 * v1.toInt64)) + (3571 * v2.toInt64)) + 1)) - (((((7919 * v0.toInt64) + (6151 * v1.toInt64)) + (3571 * v2.toInt64)) + 1) * ((((7919 * v0.toInt64) + (6151 * v1.toInt64)) + (3571 * v2.toInt64)) + 1)) / 65521 * 65521) - ((((((7919 * v0.toInt64) + (6151 * v1.toInt64)) + (3571 * v2.toInt64)) + 1) * ((((7919 * v0.toInt64) + (6151 * v1.toInt64)) + (3571 * v2.toInt64)) + 1)) - (((((7919 * v0.toInt64) + (6151 * v1.toInt64)) + (3571 * v2.toInt64)) + 1) * ((((7919 * v0.toInt64) + (6151 * v1.toInt64)) + (3571 * v2.toInt64)) + 1)) / 65521 * 65521) / 10000 * 10000).toInt32)
set_option maxHeartbeats 4000000 in
set_option maxRecDepth 100000 in
theorem c_m_draw (v0 : Int32) (v1 : Int32) (v2 : Int32) : Met l yX8_draw (.code yX8_draw cX8_draw 5 (some .int) :: kT) ({ frames := 0, cells := 0, slots := 0, locals := 0 } : Room) (va_Pc [.int v0, .int v1, .int v2] (fun _ => True)) (kR (some (.int (m_draw v0 v1 v2)))) 0 0 (fun _ => False) := by
  refine kMet (by decide) (fun p e s m args below meth c ls hx hb hr hml hts hown hlocks hname hargs hB hl => ?_) (Nat.le_of_ble_eq_true rfl)
  have hl : lv_has ls 5 [(0, .int v0), (1, .int v1), (2, .int v2)] := hl
  refine lv_ldc2 (v := 7919) hx hb hown (hts _ kX8_304) dX8_draw_0 ?_
  refine lv_iload_n hx hb dX8_draw_3 rfl (lv_at hl 0 rfl) ?_
  refine lv_i2l (v := v0.toInt64) hx hb dX8_draw_4 rfl ?_
  refine lv_lmul hx hb dX8_draw_5 ?_
  refine lv_ldc2 (v := 6151) hx hb hown (hts _ kX8_306) dX8_draw_6 ?_
  refine lv_iload_n hx hb dX8_draw_9 rfl (lv_at hl 1 rfl) ?_
  refine lv_i2l (v := v1.toInt64) hx hb dX8_draw_10 rfl ?_
  refine lv_lmul hx hb dX8_draw_11 ?_
  refine lv_ladd hx hb dX8_draw_12 ?_
  refine lv_ldc2 (v := 3571) hx hb hown (hts _ kX8_308) dX8_draw_13 ?_
  refine lv_iload_n hx hb dX8_draw_16 rfl (lv_at hl 2 rfl) ?_
  refine lv_i2l (v := v2.toInt64) hx hb dX8_draw_17 rfl ?_
  refine lv_lmul hx hb dX8_draw_18 ?_
  refine lv_ladd hx hb dX8_draw_19 ?_
  refine lv_lconst (v := 1) hx hb dX8_draw_20 (by decide) ?_
  refine lv_ladd hx hb dX8_draw_21 ?_
  refine lv_lstore_n (lv' := [(3, .long ((((7919 * v0.toInt64) + (6151 * v1.toInt64)) + (3571 * v2.toInt64)) + 1)), (0, .int v0), (1, .int v1), (2, .int v2)]) hx hb dX8_draw_22 rfl hl (by decide) rfl (fun ls hl => ?_)
  refine lv_lload_n hx hb dX8_draw_23 rfl (lv_at hl 0 rfl) ?_
  refine lv_lload_n hx hb dX8_draw_24 rfl (lv_at hl 0 rfl) ?_
  refine lv_lmul hx hb dX8_draw_25 ?_
  refine lv_ldc2 (v := 65521) hx hb hown (hts _ kX8_310) dX8_draw_26 ?_
  refine lv_lrem hx hb dX8_draw_29 (by decide) ?_
  refine lv_ldc2 (v := 10000) hx hb hown (hts _ kX8_312) dX8_draw_30 ?_
  refine lv_lrem hx hb dX8_draw_33 (by decide) ?_
  refine lv_l2i (v := ((((((((7919 * v0.toInt64) + (6151 * v1.toInt64)) + (3571 * v2.toInt64)) + 1) * ((((7919 * v0.toInt64) + (6151 * v1.toInt64)) + (3571 * v2.toInt64)) + 1)) - (((((7919 * v0.toInt64) + (6151 * v1.toInt64)) + (3571 * v2.toInt64)) + 1) * ((((7919 * v0.toInt64) + (6151 * v1.toInt64)) + (3571 * v2.toInt64)) + 1)) / 65521 * 65521) - ((((((7919 * v0.toInt64) + (6151 * v1.toInt64)) + (3571 * v2.toInt64)) + 1) * ((((7919 * v0.toInt64) + (6151 * v1.toInt64)) + (3571 * v2.toInt64)) + 1)) - (((((7919 * v0.toInt64) + (6151 * v1.toInt64)) + (3571 * v2.toInt64)) + 1) * ((((7919 * v0.toInt64) + (6151 * v1.toInt64)) + (3571 * v2.toInt64)) + 1)) / 65521 * 65521) / 10000 * 10000).toInt32)) hx hb dX8_draw_34 rfl ?_
  have hE : (m_draw v0 v1 v2) = ((((((((7919 * v0.toInt64) + (6151 * v1.toInt64)) + (3571 * v2.toInt64)) + 1) * ((((7919 * v0.toInt64) + (6151 * v1.toInt64)) + (3571 * v2.toInt64)) + 1)) - (((((7919 * v0.toInt64) + (6151 * v1.toInt64)) + (3571 * v2.toInt64)) + 1) * ((((7919 * v0.toInt64) + (6151 * v1.toInt64)) + (3571 * v2.toInt64)) + 1)) / 65521 * 65521) - ((((((7919 * v0.toInt64) + (6151 * v1.toInt64)) + (3571 * v2.toInt64)) + 1) * ((((7919 * v0.toInt64) + (6151 * v1.toInt64)) + (3571 * v2.toInt64)) + 1)) - (((((7919 * v0.toInt64) + (6151 * v1.toInt64)) + (3571 * v2.toInt64)) + 1) * ((((7919 * v0.toInt64) + (6151 * v1.toInt64)) + (3571 * v2.toInt64)) + 1)) / 65521 * 65521) / 10000 * 10000).toInt32) := by rw [m_draw]
  exact W.iret (v := ((((((((7919 * v0.toInt64) + (6151 * v1.toInt64)) + (3571 * v2.toInt64)) + 1) * ((((7919 * v0.toInt64) + (6151 * v1.toInt64)) + (3571 * v2.toInt64)) + 1)) - (((((7919 * v0.toInt64) + (6151 * v1.toInt64)) + (3571 * v2.toInt64)) + 1) * ((((7919 * v0.toInt64) + (6151 * v1.toInt64)) + (3571 * v2.toInt64)) + 1)) / 65521 * 65521) - ((((((7919 * v0.toInt64) + (6151 * v1.toInt64)) + (3571 * v2.toInt64)) + 1) * ((((7919 * v0.toInt64) + (6151 * v1.toInt64)) + (3571 * v2.toInt64)) + 1)) - (((((7919 * v0.toInt64) + (6151 * v1.toInt64)) + (3571 * v2.toInt64)) + 1) * ((((7919 * v0.toInt64) + (6151 * v1.toInt64)) + (3571 * v2.toInt64)) + 1)) / 65521 * 65521) / 10000 * 10000).toInt32)) hx hb hr (fun t ht hW => ⟨by rw [hE], ht⟩) (fun _ h => absurd h List.not_mem_nil) dX8_draw_35 hlocks
-- X8_divisor
def m_divisor_k6 (v4 : Int64) : Int64 := v4
def m_divisor_L6  : Nat → Nat → Int64 → Int64 → Int64 × Int64
  | 0, i, v4, v6 => (v4, v6)
  | n + 1, i, v4, v6 => if (lg_cmp v6 0) = 0 then (v4, v6) else m_divisor_L6 n (i + 1) v6 (v4 - v4 / v6 * v6)
def m_divisor (v0 : Int64) (v2 : Int64) : Int64 := m_divisor_k6 (m_divisor_L6 v2.toInt.toNat 0 v0 v2).1
set_option maxHeartbeats 4000000 in
set_option maxRecDepth 100000 in
theorem c_m_divisor (v0 : Int64) (v2 : Int64) (h0 : 0 ≤ v0.toInt) (h2 : 0 ≤ v2.toInt) : Met l yX8_divisor (.code yX8_divisor cX8_divisor 10 (some .long) :: kT) ({ frames := 0, cells := 0, slots := 0, locals := 0 } : Room) (va_Pc [.long v0, .long v2] (fun _ => True)) (kR (some (.long (m_divisor v0 v2)))) 0 0 (fun _ => False) := by
  refine kMet (by decide) (fun p e s m args below meth c ls hx hb hr hml hts hown hlocks hname hargs hB hl => ?_) (Nat.le_of_ble_eq_true rfl)
  have hl : lv_has ls 10 [(0, .long v0), (2, .long v2)] := hl
  refine lv_lload_n hx hb dX8_divisor_0 rfl (lv_at hl 0 rfl) ?_
  refine lv_lstore (lv' := [(4, .long v0), (0, .long v0), (2, .long v2)]) hx hb dX8_divisor_1 hl (by decide) rfl (fun ls hl => ?_)
  refine lv_lload_n hx hb dX8_divisor_3 rfl (lv_at hl 2 rfl) ?_
  refine lv_lstore (lv' := [(6, .long v2), (4, .long v0), (0, .long v0), (2, .long v2)]) hx hb dX8_divisor_4 hl (by decide) rfl (fun ls hl => ?_)
  have rest_6 : ∀ (x4_6 : Int64) (x6_6 : Int64), ∀ (ls : Array Slot), lv_has ls 10 [(4, .long x4_6)] → (m_divisor v0 v2) = m_divisor_k6 x4_6 → W p l e ({ frames := 0, cells := 0, slots := 0, locals := 0 } : Room) s m args below meth c s.heap [] 0 0 (MQ below (kR (some (.long (m_divisor v0 v2)))) args s 0 0 (fun _ => False)) (F0 m 31 ls []) := by
    intro x4_6 x6_6 ls hl  hF_6
    refine lv_lload hx hb dX8_divisor_31 (lv_at hl 0 rfl) ?_
    have hE : (m_divisor v0 v2) = x4_6 := hF_6.trans (by rw [m_divisor_k6])
    exact W.lret (v := x4_6) hx hb hr (fun t ht hW => ⟨by rw [hE], ht⟩) (fun _ h => absurd h List.not_mem_nil) dX8_divisor_33 hlocks
  have loop_6 : ∀ (n_6 i_6 : Nat) (x4_6 : Int64) (x6_6 : Int64), i_6 + n_6 = v2.toInt.toNat → ∀ (ls : Array Slot), lv_has ls 10 [(4, .long x4_6), (6, .long x6_6)] → (0 ≤ (x4_6).toInt) → (0 ≤ (x6_6).toInt) → ((x6_6).toInt ≤ ((n_6 : Nat) : Int)) → (∀ (ls : Array Slot), lv_has ls 10 [(4, .long ((m_divisor_L6 n_6 i_6 x4_6 x6_6).1))] → W p l e ({ frames := 0, cells := 0, slots := 0, locals := 0 } : Room) s m args below meth c s.heap [] 0 0 (MQ below (kR (some (.long (m_divisor v0 v2)))) args s 0 0 (fun _ => False)) (F0 m 31 ls [])) → W p l e ({ frames := 0, cells := 0, slots := 0, locals := 0 } : Room) s m args below meth c s.heap [] 0 0 (MQ below (kR (some (.long (m_divisor v0 v2)))) args s 0 0 (fun _ => False)) (F0 m 6 ls []) := by
    intro n_6
    induction n_6 with
    | zero =>
      intro i_6 x4_6 x6_6 hin_6 ls hl hinv_6a hinv_6b hinv_6c hk_6
      refine lv_lload hx hb dX8_divisor_6 (lv_at hl 1 rfl) ?_
      refine lv_lconst (v := 0) hx hb dX8_divisor_8 (by decide) ?_
      refine W.lcmp hx hb dX8_divisor_9 ?_
      refine lv_if_eq (tgt := 31) hx hb dX8_divisor_10 (by decide) (fun _ => ?_) (fun c_2 => absurd (kcmp0 hinv_6b (by omega)) c_2)
      have hL_6 : (m_divisor_L6 0 i_6 x4_6 x6_6) = (x4_6, x6_6) := by rw [m_divisor_L6.eq_1]
      try rw [hL_6] at hk_6
      exact hk_6 _ (lv_sub hl [0] rfl) 
    | succ n_6 ih_6 =>
      intro i_6 x4_6 x6_6 hin_6 ls hl hinv_6a hinv_6b hinv_6c hk_6
      refine lv_lload hx hb dX8_divisor_6 (lv_at hl 1 rfl) ?_
      refine lv_lconst (v := 0) hx hb dX8_divisor_8 (by decide) ?_
      refine W.lcmp hx hb dX8_divisor_9 ?_
      refine lv_if_eq (tgt := 31) hx hb dX8_divisor_10 (by decide) (fun c_3 => ?_) (fun c_3 => ?_)
      · have hL_6 : (m_divisor_L6 (n_6 + 1) i_6 x4_6 x6_6) = (x4_6, x6_6) := by rw [m_divisor_L6.eq_2, if_pos c_3]
        try rw [hL_6] at hk_6
        exact hk_6 _ (lv_sub hl [0] rfl) 
      · refine lv_lload hx hb dX8_divisor_13 (lv_at hl 0 rfl) ?_
        refine lv_lload hx hb dX8_divisor_15 (lv_at hl 1 rfl) ?_
        refine lv_lrem hx hb dX8_divisor_17 (kcmp_ne (by assumption)) ?_
        refine lv_lstore (lv' := [(8, .long (x4_6 - x4_6 / x6_6 * x6_6)), (4, .long x4_6), (6, .long x6_6)]) hx hb dX8_divisor_18 hl (by decide) rfl (fun ls hl => ?_)
        refine lv_lload hx hb dX8_divisor_20 (lv_at hl 2 rfl) ?_
        refine lv_lstore (lv' := [(4, .long x6_6), (8, .long (x4_6 - x4_6 / x6_6 * x6_6)), (6, .long x6_6)]) hx hb dX8_divisor_22 hl (by decide) rfl (fun ls hl => ?_)
        refine lv_lload hx hb dX8_divisor_24 (lv_at hl 1 rfl) ?_
        refine lv_lstore (lv' := [(6, .long (x4_6 - x4_6 / x6_6 * x6_6)), (4, .long x6_6), (8, .long (x4_6 - x4_6 / x6_6 * x6_6))]) hx hb dX8_divisor_26 hl (by decide) rfl (fun ls hl => ?_)
        refine lv_goto (tgt := 6) hx hb dX8_divisor_28 (by decide) ?_
        have hL_6 : (m_divisor_L6 (n_6 + 1) i_6 x4_6 x6_6) = (m_divisor_L6 n_6 (i_6 + 1) x6_6 (x4_6 - x4_6 / x6_6 * x6_6)) := by rw [m_divisor_L6.eq_2, if_neg c_3]
        try rw [hL_6] at hk_6
        exact ih_6 (i_6 + 1) x6_6 (x4_6 - x4_6 / x6_6 * x6_6) (by omega) _ (lv_sub hl [1, 0] rfl) (hinv_6b) (by rw [kl_mod hinv_6a (kpos hinv_6b (by assumption))]; exact Int.emod_nonneg _ (by have := kpos hinv_6b (by assumption); omega)) (by rw [kl_mod hinv_6a (kpos hinv_6b (by assumption))]; have := Int.emod_lt_of_pos x4_6.toInt (kpos hinv_6b (by assumption)); omega) hk_6
  exact loop_6 v2.toInt.toNat 0 v0 v2 (by omega) _ (lv_sub hl [1, 0] rfl) (h0) (h2) (by omega) (fun ls hl  => rest_6 (m_divisor_L6 v2.toInt.toNat 0 v0 v2).1 (m_divisor_L6 v2.toInt.toNat 0 v0 v2).2 _ hl  (by rw [m_divisor]))

end REF
