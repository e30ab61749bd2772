section REF
variable {l : Launch} {dC : Nat → ClassId} {dI : Nat → Nat → Nat} {cI : ClassId} {ad : Nat → Nat} {RA : Nat → Nat → Int32} {RS : Nat → Int32} {RN : Nat → Nat} {RL : Int64}
-- X8_fault
def m_fault_k10 (a2 : Nat → Int32) (n3 : Nat) (n35 : Nat) : Int32 × (Nat → Int32) × Nat × Nat := ((-4), a2, n3, n35)
def m_fault_L10 (RA : Nat → Nat → Int32) (RN : Nat → Nat) : Nat → Nat → (Nat → Int32) → Nat → Nat → Int32 × (Nat → Int32) × Nat × Nat
  | 0, i, a2, n3, n35 => (m_fault_k10 a2 n3 n35)
  | n + 1, i, a2, n3, n35 => if (nI (RN 1)) ≤ (nI n35) then (m_fault_k10 a2 n3 n35) else (if ((m_readsItem (va_up RA 2 a2) (va_up (va_up RN 3 n3) 35 n35)).1) = 0 then ((nI n35), (m_readsItem (va_up RA 2 a2) (va_up (va_up RN 3 n3) 35 n35)).2.1, n3, (m_readsItem (va_up RA 2 a2) (va_up (va_up RN 3 n3) 35 n35)).2.2) else (if (m_fits (va_up RA 2 ((m_readsItem (va_up RA 2 a2) (va_up (va_up RN 3 n3) 35 n35)).2.1)) (va_up (va_up RN 3 n3) 35 ((m_readsItem (va_up RA 2 a2) (va_up (va_up RN 3 n3) 35 n35)).2.2))) = 0 then ((nI n35), (m_readsItem (va_up RA 2 a2) (va_up (va_up RN 3 n3) 35 n35)).2.1, n3, (m_readsItem (va_up RA 2 a2) (va_up (va_up RN 3 n3) 35 n35)).2.2) else m_fault_L10 RA RN n (i + 1) ((m_readsItem (va_up RA 2 a2) (va_up (va_up RN 3 n3) 35 n35)).2.1) (n3 + 1) ((m_readsItem (va_up RA 2 a2) (va_up (va_up RN 3 n3) 35 n35)).2.2)))
def m_fault (RA : Nat → Nat → Int32) (RN : Nat → Nat) : Int32 × (Nat → Int32) × Nat × Nat := (m_fault_L10 RA RN (RN 1 + 1) 0 (RA 2) 0 0)
set_option maxHeartbeats 4000000 in
set_option maxRecDepth 100000 in
theorem c_m_fault (hI : kInj ad 24) (hM : mI RA RS RN) : Met l yX8_fault (.code yX8_fault cX8_fault 2 (some .int) :: kT) ({ frames := 2, cells := 0, slots := 0, locals := 49 } : Room) (va_Pc [.ref (ad 0)] (kB (dC, dI) [(cI, .int)] (RWs cI ad RA RS RN RL))) (kQ (some (.int ((m_fault RA RN).1))) (kB (dC, dI) [(cI, .int)] (RWs cI ad (va_up RA 2 ((m_fault RA RN).2.1)) RS (va_up (va_up RN 3 ((m_fault RA RN).2.2.1)) 35 ((m_fault RA RN).2.2.2)) RL)) (kAA ad 24)) 0 0 (kAA ad 24) := by
  refine kMet (by decide) (fun p e s m args below meth c ls hx hb hr hml hts hown hlocks hname hargs hB hl => ?_) (Nat.le_of_ble_eq_true rfl)
  obtain ⟨hP, hK, hN⟩ := hB
  have hl : lv_has ls 2 [(0, .ref (ad 0))] := hl
  have hS : va_S (kAA ad 24) s.heap s.heap [] := va_S.rf
  have hlen := mI_len hM
  refine lv_aload_n hx hb dX8_fault_0 rfl (lv_at hl 0 rfl) ?_
  refine lv_iconst (v := 0) hx hb dX8_fault_1 (by decide) ?_
  refine m_put (RS' := RS) (RN' := (va_up RN 35 0)) (RL' := RL) (ty := .int) hx hb hts hown hI hK hP hS 35 (by decide) rfl kX8_108 rfl (by decide +kernel) rfl rfl rfl dX8_fault_2 (fun H locs hP hS => ?_)
  refine lv_aload_n hx hb dX8_fault_5 rfl (lv_at hl 0 rfl) ?_
  refine lv_iconst (v := 0) hx hb dX8_fault_6 (by decide) ?_
  refine m_put (RS' := RS) (RN' := (va_up (va_up RN 3 0) 35 0)) (RL' := RL) (ty := .int) hx hb hts hown hI hK hP hS 3 (by decide) rfl kX8_111 rfl (by decide +kernel) rfl rfl rfl dX8_fault_7 (fun H locs hP hS => ?_)
  have rest_10 : ∀ (a2_10 : Nat → Int32) (n3_10 : Nat) (n35_10 : Nat), ∀ (H : Heap) (locs : List Loc) (ls : Array Slot), va_P (dC, dI) vwCl (RWs cI ad (va_up RA 2 a2_10) RS (va_up (va_up RN 3 n3_10) 35 n35_10) RL) H → va_S (kAA ad 24) s.heap H locs → lv_has ls 2 [] → (m_fault RA RN) = m_fault_k10 a2_10 n3_10 n35_10 → W p l e ({ frames := 2, cells := 0, slots := 0, locals := 49 } : Room) s m args below meth c H locs 0 0 (MQ below (kQ (some (.int ((m_fault RA RN).1))) (kB (dC, dI) [(cI, .int)] (RWs cI ad (va_up RA 2 ((m_fault RA RN).2.1)) RS (va_up (va_up RN 3 ((m_fault RA RN).2.2.1)) 35 ((m_fault RA RN).2.2.2)) RL)) (kAA ad 24)) args s 0 0 (kAA ad 24)) (F0 m 55 ls []) := by
    intro a2_10 n3_10 n35_10 H locs ls hP hS hl  hF_10
    refine lv_bipush (v := (-4)) hx hb dX8_fault_55 (by decide) ?_
    have hE : (m_fault RA RN) = ((-4), a2_10, n3_10, n35_10) := hF_10.trans (by rw [m_fault_k10])
    exact W.iret (v := (-4)) hx hb hr (fun t ht hW => ⟨by rw [hE], by rw [hE]; exact kB.of (ws := RWs cI ad (va_up RA 2 a2_10) RS (va_up (va_up RN 3 n3_10) 35 n35_10) RL) hP hK hN ht hW, hS.F ht⟩) hS.2.2 dX8_fault_57 hlocks
  have loop_10 : ∀ (n_10 i_10 : Nat) (a2_10 : Nat → Int32) (n3_10 : Nat) (n35_10 : Nat), i_10 + n_10 = RN 1 + 1 → ∀ (H : Heap) (locs : List Loc) (ls : Array Slot), va_P (dC, dI) vwCl (RWs cI ad (va_up RA 2 a2_10) RS (va_up (va_up RN 3 n3_10) 35 n35_10) RL) H → va_S (kAA ad 24) s.heap H locs → lv_has ls 2 [(0, .ref (ad 0))] → (RN 1 < n35_10 + n_10) → (n35_10 ≤ RN 1) → (3 * n3_10 ≤ n35_10) → (m_fault RA RN) = (m_fault_L10 RA RN n_10 i_10 a2_10 n3_10 n35_10) → W p l e ({ frames := 2, cells := 0, slots := 0, locals := 49 } : Room) s m args below meth c H locs 0 0 (MQ below (kQ (some (.int ((m_fault RA RN).1))) (kB (dC, dI) [(cI, .int)] (RWs cI ad (va_up RA 2 ((m_fault RA RN).2.1)) RS (va_up (va_up RN 3 ((m_fault RA RN).2.2.1)) 35 ((m_fault RA RN).2.2.2)) RL)) (kAA ad 24)) args s 0 0 (kAA ad 24)) (F0 m 10 ls []) := by
    intro n_10
    induction n_10 with
    | zero =>
      intro i_10 a2_10 n3_10 n35_10 hin_10 H locs ls hP hS hl hinv_10a hinv_10b hinv_10c hk_10
      refine lv_aload_n hx hb dX8_fault_10 rfl (lv_at hl 0 rfl) ?_
      refine m_get (v := .int (nI n35_10)) hx hb hts hown hK hP 35 (by decide) rfl kX8_108 rfl dX8_fault_11 ?_
      refine lv_aload_n hx hb dX8_fault_14 rfl (lv_at hl 0 rfl) ?_
      refine m_get (v := .int (nI (RN 1))) hx hb hts hown hK hP 1 (by decide) rfl kX8_103 rfl dX8_fault_15 ?_
      refine lv_icmp_ge (tgt := 55) hx hb dX8_fault_18 (by decide) (fun _ => ?_) (fun c_4 => absurd (nI_le (by omega) (by omega)) c_4)
      exact rest_10 _ _ _ _ _ _ hP hS (lv_sub hl [] rfl)  (hk_10.trans (by rw [m_fault_L10.eq_1]))
    | succ n_10 ih_10 =>
      intro i_10 a2_10 n3_10 n35_10 hin_10 H locs ls hP hS hl hinv_10a hinv_10b hinv_10c hk_10
      refine lv_aload_n hx hb dX8_fault_10 rfl (lv_at hl 0 rfl) ?_
      refine m_get (v := .int (nI n35_10)) hx hb hts hown hK hP 35 (by decide) rfl kX8_108 rfl dX8_fault_11 ?_
      refine lv_aload_n hx hb dX8_fault_14 rfl (lv_at hl 0 rfl) ?_
      refine m_get (v := .int (nI (RN 1))) hx hb hts hown hK hP 1 (by decide) rfl kX8_103 rfl dX8_fault_15 ?_
      refine lv_icmp_ge (tgt := 55) hx hb dX8_fault_18 (by decide) (fun c_5 => ?_) (fun c_5 => ?_)
      · exact rest_10 _ _ _ _ _ _ hP hS (lv_sub hl [] rfl)  (hk_10.trans (by rw [m_fault_L10.eq_2, if_pos c_5]))
      · have hat9 := knI_nle (a := n35_10) (b := RN 1) (by assumption) (by omega) (by omega)
        refine lv_aload_n hx hb dX8_fault_21 rfl (lv_at hl 0 rfl) ?_
        refine m_get (v := .int (nI n35_10)) hx hb hts hown hK hP 35 (by decide) rfl kX8_108 rfl dX8_fault_22 ?_
        refine lv_istore_n (lv' := [(1, .int (nI n35_10)), (0, .ref (ad 0))]) hx hb dX8_fault_25 rfl hl (by decide) rfl (fun ls hl => ?_)
        refine lv_aload_n hx hb dX8_fault_26 rfl (lv_at hl 1 rfl) ?_
        refine k_wV (r := (some (.int ((m_readsItem (va_up RA 2 a2_10) (va_up (va_up RN 3 n3_10) 35 n35_10)).1)))) (As := []) (rest := []) hx hb hml hown hts hl.1 hP hK hN hS (c_m_readsItem hI hM (show n35_10 < (RN 1) by omega) (show n3_10 ≤ 170 by omega)) eX8_135 (ci := 7) (q0 := 0) rfl rfl rfl rfl rfl (Nat.le_of_ble_eq_true rfl) ⟨Nat.le_of_ble_eq_true rfl, Nat.le_of_ble_eq_true rfl⟩ ⟨rfl, rfl⟩ ⟨Nat.le_of_ble_eq_true rfl, Nat.le_of_ble_eq_true rfl⟩ dX8_fault_27 (fun H locs hP hS => ?_)
        obtain ⟨r_6, hr_6⟩ : ∃ z, z = (m_readsItem (va_up RA 2 a2_10) (va_up (va_up RN 3 n3_10) 35 n35_10)) := ⟨_, rfl⟩
        rw [← hr_6] at hP
        rw [← hr_6]
        have hp6_0 : r_6.2.2 ≤ (RN 1) ∧ n35_10 + 1 ≤ r_6.2.2 := by rw [hr_6]; exact m_readsItem_at hlen (show n35_10 < (RN 1) by omega)
        have hq6_1 : ¬ r_6.1 = 0 → n35_10 + 3 ≤ r_6.2.2 := by rw [hr_6]; exact m_readsItem_3 hlen (show n35_10 < (RN 1) by omega)
        have hP : va_P (dC, dI) vwCl (RWs cI ad (va_up RA 2 r_6.2.1) RS (va_up (va_up RN 3 n3_10) 35 r_6.2.2) RL) H := (RWs_conv rfl rfl rfl rfl rfl rfl rfl rfl rfl rfl rfl rfl rfl rfl rfl rfl rfl rfl rfl rfl rfl rfl rfl rfl rfl rfl rfl rfl rfl rfl rfl rfl rfl rfl rfl rfl rfl rfl rfl rfl rfl hP)
        refine lv_if_eq (tgt := 40) hx hb dX8_fault_30 (by decide) (fun c_7 => ?_) (fun c_7 => ?_)
        · refine lv_iload_n hx hb dX8_fault_40 rfl (lv_at hl 0 rfl) ?_
          have hE : (m_fault RA RN) = ((nI n35_10), r_6.2.1, n3_10, r_6.2.2) := by subst hr_6; exact hk_10.trans (by rw [m_fault_L10.eq_2, if_neg c_5, if_pos c_7])
          exact W.iret (v := (nI n35_10)) hx hb hr (fun t ht hW => ⟨by rw [hE], by rw [hE]; exact kB.of (ws := RWs cI ad (va_up RA 2 r_6.2.1) RS (va_up (va_up RN 3 n3_10) 35 r_6.2.2) RL) hP hK hN ht hW, hS.F ht⟩) hS.2.2 dX8_fault_41 hlocks
        · refine lv_aload_n hx hb dX8_fault_33 rfl (lv_at hl 1 rfl) ?_
          refine k_rV (v := .int (m_fits (va_up RA 2 r_6.2.1) (va_up (va_up RN 3 n3_10) 35 r_6.2.2))) (As := []) (rest := []) hx hb hml hown hts hl.1 hP hK hN (c_m_fits hI (show n3_10 ≤ 170 by omega)) eX8_139 (ci := 7) (q0 := 0) rfl rfl rfl rfl rfl (Nat.le_of_ble_eq_true rfl) ⟨Nat.le_of_ble_eq_true rfl, Nat.le_of_ble_eq_true rfl⟩ ⟨rfl, rfl⟩ ⟨Nat.le_of_ble_eq_true rfl, Nat.le_of_ble_eq_true rfl⟩ dX8_fault_34 ?_
          refine lv_if_ne (tgt := 42) hx hb dX8_fault_37 (by decide) (fun c_8 => ?_) (fun c_8 => ?_)
          · refine lv_aload_n hx hb dX8_fault_42 rfl (lv_at hl 1 rfl) ?_
            refine lv_dup hx hb dX8_fault_43 rfl ?_
            refine m_get (v := .int (nI n3_10)) hx hb hts hown hK hP 3 (by decide) rfl kX8_111 rfl dX8_fault_44 ?_
            refine lv_iconst (v := 1) hx hb dX8_fault_47 (by decide) ?_
            refine kn_iadd hx hb n3_10 1 rfl rfl dX8_fault_48 ?_
            refine m_put (RS' := RS) (RN' := (va_up (va_up RN 3 (n3_10 + 1)) 35 r_6.2.2)) (RL' := RL) (ty := .int) hx hb hts hown hI hK hP hS 3 (by decide) rfl kX8_111 rfl (by decide +kernel) rfl rfl rfl dX8_fault_49 (fun H locs hP hS => ?_)
            refine lv_goto (tgt := 10) hx hb dX8_fault_52 (by decide) ?_
            exact ih_10 (i_10 + 1) r_6.2.1 (n3_10 + 1) r_6.2.2 (by omega) _ _ _ hP hS (lv_sub hl [1] rfl) (by omega) (by omega) (by have := hq6_1 (by assumption); omega) (by subst hr_6; exact hk_10.trans (by rw [m_fault_L10.eq_2, if_neg c_5, if_neg c_7, if_neg c_8]))
          · refine lv_iload_n hx hb dX8_fault_40 rfl (lv_at hl 0 rfl) ?_
            have hE : (m_fault RA RN) = ((nI n35_10), r_6.2.1, n3_10, r_6.2.2) := by subst hr_6; exact hk_10.trans (by rw [m_fault_L10.eq_2, if_neg c_5, if_neg c_7, if_pos c_8])
            exact W.iret (v := (nI n35_10)) hx hb hr (fun t ht hW => ⟨by rw [hE], by rw [hE]; exact kB.of (ws := RWs cI ad (va_up RA 2 r_6.2.1) RS (va_up (va_up RN 3 n3_10) 35 r_6.2.2) RL) hP hK hN ht hW, hS.F ht⟩) hS.2.2 dX8_fault_41 hlocks
  have hP : va_P (dC, dI) vwCl (RWs cI ad (va_up RA 2 (RA 2)) RS (va_up (va_up RN 3 0) 35 0) RL) H := (RWs_conv rfl rfl rfl rfl rfl rfl rfl rfl rfl rfl rfl rfl rfl rfl rfl rfl rfl rfl rfl rfl rfl rfl rfl rfl rfl rfl rfl rfl rfl rfl rfl rfl rfl rfl rfl rfl rfl rfl rfl rfl rfl hP)
  exact loop_10 (RN 1 + 1) 0 (RA 2) 0 0 (by omega) _ _ _ hP hS (lv_sub hl [0] rfl) (by omega) (by omega) (by omega) (by rw [m_fault])

end REF
