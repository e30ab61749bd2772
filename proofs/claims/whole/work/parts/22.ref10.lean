section REF
variable {l : Launch} {dC : Nat → ClassId} {dI : Nat → Nat → Nat} {cI : ClassId} {ad : Nat → Nat} {RA : Nat → Nat → Int32} {RS : Nat → Int32} {RN : Nat → Nat} {RL : Int64}
-- X8_reads
def m_reads_k7 (RA : Nat → Nat → Int32) (RN : Nat → Nat) (n35 : Nat) (v1 : Nat) (v2 : Nat) (v3 : Int32) : Int32 × (Nat → Int32) × Nat := if (nI n35) ≤ (nI v2) then (0, (upd (RA 2) (((7 * (RN 3)) + 1) + v1) v3), n35) else (1, (upd (RA 2) (((7 * (RN 3)) + 1) + v1) v3), n35)
def m_reads_L7 (RA : Nat → Nat → Int32) (RN : Nat → Nat) : Nat → Nat → Int32 → Nat → Int32 × Nat
  | 0, i, v3, n35 => (v3, n35)
  | n + 1, i, v3, n35 => if (nI (RN 1)) ≤ (nI n35) then (v3, n35) else (if (RA 0 n35) < 48 then (v3, n35) else (if 57 < (RA 0 n35) then (v3, n35) else m_reads_L7 RA RN n (i + 1) (((10 * v3) + (RA 0 n35)) - 48) (n35 + 1)))
def m_reads (RA : Nat → Nat → Int32) (RN : Nat → Nat) (v1 : Nat) : Int32 × (Nat → Int32) × Nat := m_reads_k7 RA RN (m_reads_L7 RA RN 3 0 0 (RN 35)).2 v1 (RN 35) (m_reads_L7 RA RN 3 0 0 (RN 35)).1
set_option maxHeartbeats 4000000 in
set_option maxRecDepth 100000 in
theorem c_m_reads (hI : kInj ad 24) (v1 : Nat) (hM : mI RA RS RN) (hat : RN 35 ≤ RN 1) (him : RN 3 ≤ 170) (hi6 : v1 < 6) : Met l yX8_reads (.code yX8_reads cX8_reads 4 (some .boolean) :: kT) ({ frames := 0, cells := 0, slots := 0, locals := 0 } : Room) (va_Pc [.ref (ad 0), .int (nI v1)] (kB (dC, dI) [(cI, .int)] (RWs cI ad RA RS RN RL))) (kQ (some (.int ((m_reads RA RN v1).1))) (kB (dC, dI) [(cI, .int)] (RWs cI ad (va_up RA 2 ((m_reads RA RN v1).2.1)) RS (va_up RN 35 ((m_reads RA RN v1).2.2)) RL)) (kAA ad 24)) 0 0 (kAA ad 24) := by
  refine kMet (by decide) (fun p e s m args below meth c ls hx hb hr hml hts hown hlocks hname hargs hB hl => ?_) (Nat.le_of_ble_eq_true rfl)
  obtain ⟨hP, hK, hN⟩ := hB
  have hl : lv_has ls 4 [(0, .ref (ad 0)), (1, .int (nI v1))] := hl
  have hS : va_S (kAA ad 24) s.heap s.heap [] := va_S.rf
  have hlen := mI_len hM
  refine lv_aload_n hx hb dX8_reads_0 rfl (lv_at hl 0 rfl) ?_
  refine m_get (v := .int (nI (RN 35))) hx hb hts hown hK hP 35 (by decide) rfl kX8_108 rfl dX8_reads_1 ?_
  refine lv_istore_n (lv' := [(2, .int (nI (RN 35))), (0, .ref (ad 0)), (1, .int (nI v1))]) hx hb dX8_reads_4 rfl hl (by decide) rfl (fun ls hl => ?_)
  refine lv_iconst (v := 0) hx hb dX8_reads_5 (by decide) ?_
  refine lv_istore_n (lv' := [(3, .int 0), (2, .int (nI (RN 35))), (0, .ref (ad 0)), (1, .int (nI v1))]) hx hb dX8_reads_6 rfl hl (by decide) rfl (fun ls hl => ?_)
  have rest_7 : ∀ (x3_7 : Int32) (n35_7 : Nat), ∀ (H : Heap) (locs : List Loc) (ls : Array Slot), va_P (dC, dI) vwCl (RWs cI ad RA RS (va_up RN 35 n35_7) RL) H → va_S (kAA ad 24) s.heap H locs → lv_has ls 4 [(0, .ref (ad 0)), (1, .int (nI v1)), (2, .int (nI (RN 35))), (3, .int x3_7)] → (m_reads RA RN v1) = m_reads_k7 RA RN n35_7 v1 (RN 35) x3_7 → W p l e ({ frames := 0, cells := 0, slots := 0, locals := 0 } : Room) s m args below meth c H locs 0 0 (MQ below (kQ (some (.int ((m_reads RA RN v1).1))) (kB (dC, dI) [(cI, .int)] (RWs cI ad (va_up RA 2 ((m_reads RA RN v1).2.1)) RS (va_up RN 35 ((m_reads RA RN v1).2.2)) RL)) (kAA ad 24)) args s 0 0 (kAA ad 24)) (F0 m 87 ls []) := by
    intro x3_7 n35_7 H locs ls hP hS hl  hF_7
    refine lv_aload_n hx hb dX8_reads_87 rfl (lv_at hl 0 rfl) ?_
    refine m_get (v := .ref (ad 2)) hx hb hts hown hK hP 2 (by decide) rfl kX8_13 rfl dX8_reads_88 ?_
    refine lv_bipush (v := 7) hx hb dX8_reads_91 (by decide) ?_
    refine lv_aload_n hx hb dX8_reads_93 rfl (lv_at hl 0 rfl) ?_
    refine m_get (v := .int (nI (RN 3))) hx hb hts hown hK hP 3 (by decide) rfl kX8_111 rfl dX8_reads_94 ?_
    refine kn_imul hx hb 7 (RN 3) rfl rfl dX8_reads_97 ?_
    refine lv_iconst (v := 1) hx hb dX8_reads_98 (by decide) ?_
    refine kn_iadd hx hb (7 * (RN 3)) 1 rfl rfl dX8_reads_99 ?_
    refine lv_iload_n hx hb dX8_reads_100 rfl (lv_at hl 1 rfl) ?_
    refine kn_iadd hx hb ((7 * (RN 3)) + 1) v1 rfl rfl dX8_reads_101 ?_
    refine lv_iload_n hx hb dX8_reads_102 rfl (lv_at hl 3 rfl) ?_
    refine kn_iast (f := (RA 2)) (ws' := RWs cI ad (va_up RA 2 (upd (RA 2) (((7 * (RN 3)) + 1) + v1) x3_7)) RS (va_up RN 35 n35_7) RL) hx hb hK hP (RWsD hI) hS 2 rfl (((7 * (RN 3)) + 1) + v1) rfl (by omega) (by omega) rfl dX8_reads_103 (fun H locs hP hS => ?_)
    refine lv_aload_n hx hb dX8_reads_104 rfl (lv_at hl 0 rfl) ?_
    refine m_get (v := .int (nI n35_7)) hx hb hts hown hK hP 35 (by decide) rfl kX8_108 rfl dX8_reads_105 ?_
    refine lv_iload_n hx hb dX8_reads_108 rfl (lv_at hl 2 rfl) ?_
    refine lv_icmp_le (tgt := 116) hx hb dX8_reads_109 (by decide) (fun c_6 => ?_) (fun c_6 => ?_)
    · refine lv_iconst (v := 0) hx hb dX8_reads_116 (by decide) ?_
      have hE : (m_reads RA RN v1) = (0, (upd (RA 2) (((7 * (RN 3)) + 1) + v1) x3_7), n35_7) := hF_7.trans (by rw [m_reads_k7, if_pos c_6])
      exact W.zret (v := 0) hx hb hr rfl (fun t ht hW => ⟨by rw [hE], by rw [hE]; exact kB.of (ws := RWs cI ad (va_up RA 2 (upd (RA 2) (((7 * (RN 3)) + 1) + v1) x3_7)) RS (va_up RN 35 n35_7) RL) hP hK hN ht hW, hS.F ht⟩) hS.2.2 dX8_reads_117 hlocks
    · refine lv_iconst (v := 1) hx hb dX8_reads_112 (by decide) ?_
      refine lv_goto (tgt := 117) hx hb dX8_reads_113 (by decide) ?_
      have hE : (m_reads RA RN v1) = (1, (upd (RA 2) (((7 * (RN 3)) + 1) + v1) x3_7), n35_7) := hF_7.trans (by rw [m_reads_k7, if_neg c_6])
      exact W.zret (v := 1) hx hb hr rfl (fun t ht hW => ⟨by rw [hE], by rw [hE]; exact kB.of (ws := RWs cI ad (va_up RA 2 (upd (RA 2) (((7 * (RN 3)) + 1) + v1) x3_7)) RS (va_up RN 35 n35_7) RL) hP hK hN ht hW, hS.F ht⟩) hS.2.2 dX8_reads_117 hlocks
  have loop_7 : ∀ (n_7 i_7 : Nat) (x3_7 : Int32) (n35_7 : Nat), i_7 + n_7 = 3 → ∀ (H : Heap) (locs : List Loc) (ls : Array Slot), va_P (dC, dI) vwCl (RWs cI ad RA RS (va_up RN 35 n35_7) RL) H → va_S (kAA ad 24) s.heap H locs → lv_has ls 4 [(0, .ref (ad 0)), (1, .int (nI v1)), (2, .int (nI (RN 35))), (3, .int x3_7)] → (n35_7 + n_7 = RN 35 + 3) → (n35_7 ≤ RN 1) → (∀ (H : Heap) (locs : List Loc) (ls : Array Slot), va_P (dC, dI) vwCl (RWs cI ad RA RS (va_up RN 35 ((m_reads_L7 RA RN n_7 i_7 x3_7 n35_7).2)) RL) H → va_S (kAA ad 24) s.heap H locs → lv_has ls 4 [(0, .ref (ad 0)), (1, .int (nI v1)), (2, .int (nI (RN 35))), (3, .int ((m_reads_L7 RA RN n_7 i_7 x3_7 n35_7).1))] → W p l e ({ frames := 0, cells := 0, slots := 0, locals := 0 } : Room) s m args below meth c H locs 0 0 (MQ below (kQ (some (.int ((m_reads RA RN v1).1))) (kB (dC, dI) [(cI, .int)] (RWs cI ad (va_up RA 2 ((m_reads RA RN v1).2.1)) RS (va_up RN 35 ((m_reads RA RN v1).2.2)) RL)) (kAA ad 24)) args s 0 0 (kAA ad 24)) (F0 m 87 ls [])) → W p l e ({ frames := 0, cells := 0, slots := 0, locals := 0 } : Room) s m args below meth c H locs 0 0 (MQ below (kQ (some (.int ((m_reads RA RN v1).1))) (kB (dC, dI) [(cI, .int)] (RWs cI ad (va_up RA 2 ((m_reads RA RN v1).2.1)) RS (va_up RN 35 ((m_reads RA RN v1).2.2)) RL)) (kAA ad 24)) args s 0 0 (kAA ad 24)) (F0 m 7 ls []) := by
    intro n_7
    induction n_7 with
    | zero =>
      intro i_7 x3_7 n35_7 hin_7 H locs ls hP hS hl hinv_7a hinv_7b hk_7
      refine lv_aload_n hx hb dX8_reads_7 rfl (lv_at hl 0 rfl) ?_
      refine m_get (v := .int (nI n35_7)) hx hb hts hown hK hP 35 (by decide) rfl kX8_108 rfl dX8_reads_8 ?_
      refine lv_aload_n hx hb dX8_reads_11 rfl (lv_at hl 0 rfl) ?_
      refine m_get (v := .int (nI (RN 1))) hx hb hts hown hK hP 1 (by decide) rfl kX8_103 rfl dX8_reads_12 ?_
      refine lv_icmp_ge (tgt := 87) hx hb dX8_reads_15 (by decide) (fun c_7 => ?_) (fun c_7 => ?_)
      · have hL_7 : (m_reads_L7 RA RN 0 i_7 x3_7 n35_7) = (x3_7, n35_7) := by rw [m_reads_L7.eq_1]
        try rw [hL_7] at hk_7
        exact hk_7 _ _ _ hP hS (lv_sub hl [0, 1, 2, 3] rfl) 
      · refine lv_aload_n hx hb dX8_reads_18 rfl (lv_at hl 0 rfl) ?_
        refine m_get (v := .int (nI n35_7)) hx hb hts hown hK hP 35 (by decide) rfl kX8_108 rfl dX8_reads_19 ?_
        refine lv_iload_n hx hb dX8_reads_22 rfl (lv_at hl 2 rfl) ?_
        refine lv_iconst (v := 3) hx hb dX8_reads_23 (by decide) ?_
        refine kn_iadd hx hb (RN 35) 3 rfl rfl dX8_reads_24 ?_
        refine lv_icmp_ge (tgt := 87) hx hb dX8_reads_25 (by decide) (fun _ => ?_) (fun c_8 => absurd (nI_le (by omega) (by omega)) c_8)
        have hL_7 : (m_reads_L7 RA RN 0 i_7 x3_7 n35_7) = (x3_7, n35_7) := by rw [m_reads_L7.eq_1]
        try rw [hL_7] at hk_7
        exact hk_7 _ _ _ hP hS (lv_sub hl [0, 1, 2, 3] rfl) 
    | succ n_7 ih_7 =>
      intro i_7 x3_7 n35_7 hin_7 H locs ls hP hS hl hinv_7a hinv_7b hk_7
      refine lv_aload_n hx hb dX8_reads_7 rfl (lv_at hl 0 rfl) ?_
      refine m_get (v := .int (nI n35_7)) hx hb hts hown hK hP 35 (by decide) rfl kX8_108 rfl dX8_reads_8 ?_
      refine lv_aload_n hx hb dX8_reads_11 rfl (lv_at hl 0 rfl) ?_
      refine m_get (v := .int (nI (RN 1))) hx hb hts hown hK hP 1 (by decide) rfl kX8_103 rfl dX8_reads_12 ?_
      refine lv_icmp_ge (tgt := 87) hx hb dX8_reads_15 (by decide) (fun c_9 => ?_) (fun c_9 => ?_)
      · have hL_7 : (m_reads_L7 RA RN (n_7 + 1) i_7 x3_7 n35_7) = (x3_7, n35_7) := by rw [m_reads_L7.eq_2, if_pos c_9]
        try rw [hL_7] at hk_7
        exact hk_7 _ _ _ hP hS (lv_sub hl [0, 1, 2, 3] rfl) 
      · refine lv_aload_n hx hb dX8_reads_18 rfl (lv_at hl 0 rfl) ?_
        refine m_get (v := .int (nI n35_7)) hx hb hts hown hK hP 35 (by decide) rfl kX8_108 rfl dX8_reads_19 ?_
        refine lv_iload_n hx hb dX8_reads_22 rfl (lv_at hl 2 rfl) ?_
        refine lv_iconst (v := 3) hx hb dX8_reads_23 (by decide) ?_
        refine kn_iadd hx hb (RN 35) 3 rfl rfl dX8_reads_24 ?_
        refine lv_icmp_ge (tgt := 87) hx hb dX8_reads_25 (by decide) (fun c_10 => absurd c_10 (nI_ge (by omega) (by omega))) (fun _ => ?_)
        refine lv_aload_n hx hb dX8_reads_28 rfl (lv_at hl 0 rfl) ?_
        refine m_get (v := .ref (ad 1)) hx hb hts hown hK hP 0 (by decide) rfl kX8_7 rfl dX8_reads_29 ?_
        refine lv_aload_n hx hb dX8_reads_32 rfl (lv_at hl 0 rfl) ?_
        refine m_get (v := .int (nI n35_7)) hx hb hts hown hK hP 35 (by decide) rfl kX8_108 rfl dX8_reads_33 ?_
        refine kn_iald (f := (RA 0)) (v := (RA 0 n35_7)) hx hb hK hP 1 rfl n35_7 rfl (Nat.lt_of_lt_of_le (knI_nle (a := n35_7) (b := (RN 1)) (by assumption) (by omega) (by omega)) (by omega)) (by omega) rfl dX8_reads_36 ?_
        refine lv_bipush (v := 48) hx hb dX8_reads_37 (by decide) ?_
        refine lv_icmp_lt (tgt := 87) hx hb dX8_reads_39 (by decide) (fun c_11 => ?_) (fun c_11 => ?_)
        · have hL_7 : (m_reads_L7 RA RN (n_7 + 1) i_7 x3_7 n35_7) = (x3_7, n35_7) := by rw [m_reads_L7.eq_2, if_neg c_9, if_pos c_11]
          try rw [hL_7] at hk_7
          exact hk_7 _ _ _ hP hS (lv_sub hl [0, 1, 2, 3] rfl) 
        · refine lv_aload_n hx hb dX8_reads_42 rfl (lv_at hl 0 rfl) ?_
          refine m_get (v := .ref (ad 1)) hx hb hts hown hK hP 0 (by decide) rfl kX8_7 rfl dX8_reads_43 ?_
          refine lv_aload_n hx hb dX8_reads_46 rfl (lv_at hl 0 rfl) ?_
          refine m_get (v := .int (nI n35_7)) hx hb hts hown hK hP 35 (by decide) rfl kX8_108 rfl dX8_reads_47 ?_
          refine kn_iald (f := (RA 0)) (v := (RA 0 n35_7)) hx hb hK hP 1 rfl n35_7 rfl (Nat.lt_of_lt_of_le (knI_nle (a := n35_7) (b := (RN 1)) (by assumption) (by omega) (by omega)) (by omega)) (by omega) rfl dX8_reads_50 ?_
          refine lv_bipush (v := 57) hx hb dX8_reads_51 (by decide) ?_
          refine lv_icmp_gt (tgt := 87) hx hb dX8_reads_53 (by decide) (fun c_12 => ?_) (fun c_12 => ?_)
          · have hL_7 : (m_reads_L7 RA RN (n_7 + 1) i_7 x3_7 n35_7) = (x3_7, n35_7) := by rw [m_reads_L7.eq_2, if_neg c_9, if_neg c_11, if_pos c_12]
            try rw [hL_7] at hk_7
            exact hk_7 _ _ _ hP hS (lv_sub hl [0, 1, 2, 3] rfl) 
          · refine lv_bipush (v := 10) hx hb dX8_reads_56 (by decide) ?_
            refine lv_iload_n hx hb dX8_reads_58 rfl (lv_at hl 3 rfl) ?_
            refine lv_imul hx hb dX8_reads_59 ?_
            refine lv_aload_n hx hb dX8_reads_60 rfl (lv_at hl 0 rfl) ?_
            refine m_get (v := .ref (ad 1)) hx hb hts hown hK hP 0 (by decide) rfl kX8_7 rfl dX8_reads_61 ?_
            refine lv_aload_n hx hb dX8_reads_64 rfl (lv_at hl 0 rfl) ?_
            refine m_get (v := .int (nI n35_7)) hx hb hts hown hK hP 35 (by decide) rfl kX8_108 rfl dX8_reads_65 ?_
            refine kn_iald (f := (RA 0)) (v := (RA 0 n35_7)) hx hb hK hP 1 rfl n35_7 rfl (Nat.lt_of_lt_of_le (knI_nle (a := n35_7) (b := (RN 1)) (by assumption) (by omega) (by omega)) (by omega)) (by omega) rfl dX8_reads_68 ?_
            refine lv_iadd hx hb dX8_reads_69 ?_
            refine lv_bipush (v := 48) hx hb dX8_reads_70 (by decide) ?_
            refine lv_isub hx hb dX8_reads_72 ?_
            refine lv_istore_n (lv' := [(3, .int (((10 * x3_7) + (RA 0 n35_7)) - 48)), (0, .ref (ad 0)), (1, .int (nI v1)), (2, .int (nI (RN 35)))]) hx hb dX8_reads_73 rfl hl (by decide) rfl (fun ls hl => ?_)
            refine lv_aload_n hx hb dX8_reads_74 rfl (lv_at hl 1 rfl) ?_
            refine lv_dup hx hb dX8_reads_75 rfl ?_
            refine m_get (v := .int (nI n35_7)) hx hb hts hown hK hP 35 (by decide) rfl kX8_108 rfl dX8_reads_76 ?_
            refine lv_iconst (v := 1) hx hb dX8_reads_79 (by decide) ?_
            refine kn_iadd hx hb n35_7 1 rfl rfl dX8_reads_80 ?_
            refine m_put (RS' := RS) (RN' := (va_up RN 35 (n35_7 + 1))) (RL' := RL) (ty := .int) hx hb hts hown hI hK hP hS 35 (by decide) rfl kX8_108 rfl (by decide +kernel) rfl rfl rfl dX8_reads_81 (fun H locs hP hS => ?_)
            refine lv_goto (tgt := 7) hx hb dX8_reads_84 (by decide) ?_
            have hL_7 : (m_reads_L7 RA RN (n_7 + 1) i_7 x3_7 n35_7) = (m_reads_L7 RA RN n_7 (i_7 + 1) (((10 * x3_7) + (RA 0 n35_7)) - 48) (n35_7 + 1)) := by rw [m_reads_L7.eq_2, if_neg c_9, if_neg c_11, if_neg c_12]
            try rw [hL_7] at hk_7
            exact ih_7 (i_7 + 1) (((10 * x3_7) + (RA 0 n35_7)) - 48) (n35_7 + 1) (by omega) _ _ _ hP hS (lv_sub hl [1, 2, 3, 0] rfl) (by omega) (by have := knI_nle (a := n35_7) (b := RN 1) (by assumption) (by omega) (by omega); omega) hk_7
  have hP : va_P (dC, dI) vwCl (RWs cI ad RA RS (va_up RN 35 (RN 35)) RL) s.heap := (RWs_conv rfl rfl rfl rfl rfl rfl rfl rfl rfl rfl rfl rfl rfl rfl rfl rfl rfl rfl rfl rfl rfl rfl rfl rfl rfl rfl rfl rfl rfl rfl rfl rfl rfl rfl rfl rfl rfl rfl rfl rfl rfl hP)
  exact loop_7 3 0 0 (RN 35) (by omega) _ _ _ hP hS (lv_sub hl [2, 3, 1, 0] rfl) (by omega) (by omega) (fun H locs ls hP hS hl  => rest_7 (m_reads_L7 RA RN 3 0 0 (RN 35)).1 (m_reads_L7 RA RN 3 0 0 (RN 35)).2 _ _ _ hP hS hl  (by rw [m_reads]))
-- X8_isSign
def m_isSign (RA : Nat → Nat → Int32) (RN : Nat → Nat) (v1 : Int32) : Int32 × Nat := if (nI (RN 1)) ≤ (nI (RN 35)) then (0, (RN 35) + 0) else (if (RA 0 (RN 35)) = v1 then (1, (RN 35) + 1) else (0, (RN 35) + 0))
set_option maxHeartbeats 4000000 in
set_option maxRecDepth 100000 in
theorem c_m_isSign (hI : kInj ad 24) (v1 : Int32) (hM : mI RA RS RN) (hat : RN 35 ≤ RN 1) : Met l yX8_isSign (.code yX8_isSign cX8_isSign 3 (some .boolean) :: kT) ({ frames := 0, cells := 0, slots := 0, locals := 0 } : Room) (va_Pc [.ref (ad 0), .int v1] (kB (dC, dI) [(cI, .int)] (RWs cI ad RA RS RN RL))) (kQ (some (.int ((m_isSign RA RN v1).1))) (kB (dC, dI) [(cI, .int)] (RWs cI ad RA RS (va_up RN 35 ((m_isSign RA RN v1).2)) RL)) (kAA ad 24)) 0 0 (kAA ad 24) := by
  refine kMet (by decide) (fun p e s m args below meth c ls hx hb hr hml hts hown hlocks hname hargs hB hl => ?_) (Nat.le_of_ble_eq_true rfl)
  obtain ⟨hP, hK, hN⟩ := hB
  have hl : lv_has ls 3 [(0, .ref (ad 0)), (1, .int v1)] := hl
  have hS : va_S (kAA ad 24) s.heap s.heap [] := va_S.rf
  have hlen := mI_len hM
  refine lv_aload_n hx hb dX8_isSign_0 rfl (lv_at hl 0 rfl) ?_
  refine m_get (v := .int (nI (RN 35))) hx hb hts hown hK hP 35 (by decide) rfl kX8_108 rfl dX8_isSign_1 ?_
  refine lv_aload_n hx hb dX8_isSign_4 rfl (lv_at hl 0 rfl) ?_
  refine m_get (v := .int (nI (RN 1))) hx hb hts hown hK hP 1 (by decide) rfl kX8_103 rfl dX8_isSign_5 ?_
  refine lv_icmp_ge (tgt := 28) hx hb dX8_isSign_8 (by decide) (fun c_6 => ?_) (fun c_6 => ?_)
  · refine lv_iconst (v := 0) hx hb dX8_isSign_28 (by decide) ?_
    refine lv_istore_n (lv' := [(2, .int 0), (0, .ref (ad 0)), (1, .int v1)]) hx hb dX8_isSign_29 rfl hl (by decide) rfl (fun ls hl => ?_)
    refine lv_aload_n hx hb dX8_isSign_30 rfl (lv_at hl 1 rfl) ?_
    refine lv_dup hx hb dX8_isSign_31 rfl ?_
    refine m_get (v := .int (nI (RN 35))) hx hb hts hown hK hP 35 (by decide) rfl kX8_108 rfl dX8_isSign_32 ?_
    refine lv_iload_n hx hb dX8_isSign_35 rfl (lv_at hl 0 rfl) ?_
    refine lv_if_eq (tgt := 43) hx hb dX8_isSign_36 (by decide) (fun _ => ?_) (fun c_7 => absurd (by decide) c_7)
    refine lv_iconst (v := 0) hx hb dX8_isSign_43 (by decide) ?_
    refine kn_iadd hx hb (RN 35) 0 rfl rfl dX8_isSign_44 ?_
    refine m_put (RS' := RS) (RN' := (va_up RN 35 ((RN 35) + 0))) (RL' := RL) (ty := .int) hx hb hts hown hI hK hP hS 35 (by decide) rfl kX8_108 rfl (by decide +kernel) rfl rfl rfl dX8_isSign_45 (fun H locs hP hS => ?_)
    refine lv_iload_n hx hb dX8_isSign_48 rfl (lv_at hl 0 rfl) ?_
    have hE : (m_isSign RA RN v1) = (0, (RN 35) + 0) := by rw [m_isSign, if_pos c_6]
    exact W.zret (v := 0) hx hb hr rfl (fun t ht hW => ⟨by rw [hE], by rw [hE]; exact kB.of (ws := RWs cI ad RA RS (va_up RN 35 ((RN 35) + 0)) RL) hP hK hN ht hW, hS.F ht⟩) hS.2.2 dX8_isSign_49 hlocks
  · refine lv_aload_n hx hb dX8_isSign_11 rfl (lv_at hl 0 rfl) ?_
    refine m_get (v := .ref (ad 1)) hx hb hts hown hK hP 0 (by decide) rfl kX8_7 rfl dX8_isSign_12 ?_
    refine lv_aload_n hx hb dX8_isSign_15 rfl (lv_at hl 0 rfl) ?_
    refine m_get (v := .int (nI (RN 35))) hx hb hts hown hK hP 35 (by decide) rfl kX8_108 rfl dX8_isSign_16 ?_
    refine kn_iald (f := (RA 0)) (v := (RA 0 (RN 35))) hx hb hK hP 1 rfl (RN 35) rfl (Nat.lt_of_lt_of_le (knI_nle (a := (RN 35)) (b := (RN 1)) (by assumption) (by omega) (by omega)) (by omega)) (by omega) rfl dX8_isSign_19 ?_
    refine lv_iload_n hx hb dX8_isSign_20 rfl (lv_at hl 1 rfl) ?_
    refine lv_icmp_ne (tgt := 28) hx hb dX8_isSign_21 (by decide) (fun c_8 => ?_) (fun c_8 => ?_)
    · refine lv_iconst (v := 0) hx hb dX8_isSign_28 (by decide) ?_
      refine lv_istore_n (lv' := [(2, .int 0), (0, .ref (ad 0)), (1, .int v1)]) hx hb dX8_isSign_29 rfl hl (by decide) rfl (fun ls hl => ?_)
      refine lv_aload_n hx hb dX8_isSign_30 rfl (lv_at hl 1 rfl) ?_
      refine lv_dup hx hb dX8_isSign_31 rfl ?_
      refine m_get (v := .int (nI (RN 35))) hx hb hts hown hK hP 35 (by decide) rfl kX8_108 rfl dX8_isSign_32 ?_
      refine lv_iload_n hx hb dX8_isSign_35 rfl (lv_at hl 0 rfl) ?_
      refine lv_if_eq (tgt := 43) hx hb dX8_isSign_36 (by decide) (fun _ => ?_) (fun c_9 => absurd (by decide) c_9)
      refine lv_iconst (v := 0) hx hb dX8_isSign_43 (by decide) ?_
      refine kn_iadd hx hb (RN 35) 0 rfl rfl dX8_isSign_44 ?_
      refine m_put (RS' := RS) (RN' := (va_up RN 35 ((RN 35) + 0))) (RL' := RL) (ty := .int) hx hb hts hown hI hK hP hS 35 (by decide) rfl kX8_108 rfl (by decide +kernel) rfl rfl rfl dX8_isSign_45 (fun H locs hP hS => ?_)
      refine lv_iload_n hx hb dX8_isSign_48 rfl (lv_at hl 0 rfl) ?_
      have hE : (m_isSign RA RN v1) = (0, (RN 35) + 0) := by rw [m_isSign, if_neg c_6, if_neg c_8]
      exact W.zret (v := 0) hx hb hr rfl (fun t ht hW => ⟨by rw [hE], by rw [hE]; exact kB.of (ws := RWs cI ad RA RS (va_up RN 35 ((RN 35) + 0)) RL) hP hK hN ht hW, hS.F ht⟩) hS.2.2 dX8_isSign_49 hlocks
    · refine lv_iconst (v := 1) hx hb dX8_isSign_24 (by decide) ?_
      refine lv_goto (tgt := 29) hx hb dX8_isSign_25 (by decide) ?_
      refine lv_istore_n (lv' := [(2, .int 1), (0, .ref (ad 0)), (1, .int v1)]) hx hb dX8_isSign_29 rfl hl (by decide) rfl (fun ls hl => ?_)
      refine lv_aload_n hx hb dX8_isSign_30 rfl (lv_at hl 1 rfl) ?_
      refine lv_dup hx hb dX8_isSign_31 rfl ?_
      refine m_get (v := .int (nI (RN 35))) hx hb hts hown hK hP 35 (by decide) rfl kX8_108 rfl dX8_isSign_32 ?_
      refine lv_iload_n hx hb dX8_isSign_35 rfl (lv_at hl 0 rfl) ?_
      refine lv_if_eq (tgt := 43) hx hb dX8_isSign_36 (by decide) (fun c_10 => absurd c_10 (by decide)) (fun _ => ?_)
      refine lv_iconst (v := 1) hx hb dX8_isSign_39 (by decide) ?_
      refine lv_goto (tgt := 44) hx hb dX8_isSign_40 (by decide) ?_
      refine kn_iadd hx hb (RN 35) 1 rfl rfl dX8_isSign_44 ?_
      refine m_put (RS' := RS) (RN' := (va_up RN 35 ((RN 35) + 1))) (RL' := RL) (ty := .int) hx hb hts hown hI hK hP hS 35 (by decide) rfl kX8_108 rfl (by decide +kernel) rfl rfl rfl dX8_isSign_45 (fun H locs hP hS => ?_)
      refine lv_iload_n hx hb dX8_isSign_48 rfl (lv_at hl 0 rfl) ?_
      have hE : (m_isSign RA RN v1) = (1, (RN 35) + 1) := by rw [m_isSign, if_neg c_6, if_pos c_8]
      exact W.zret (v := 1) hx hb hr rfl (fun t ht hW => ⟨by rw [hE], by rw [hE]; exact kB.of (ws := RWs cI ad RA RS (va_up RN 35 ((RN 35) + 1)) RL) hP hK hN ht hW, hS.F ht⟩) hS.2.2 dX8_isSign_49 hlocks

end REF
