section CLS
variable {l : Launch} {dC : Nat → ClassId} {dI : Nat → Nat → Nat} {cI : ClassId} {ad : Nat → Nat} {ML : Nat → Nat → Int32} {MS : Nat → Int32} {PL : Nat → Nat → Nat → Int32} {PS : Nat → Nat → Int32} {VL : Nat → Nat → Nat → Int32} {VS : Nat → Nat → Int32} {LL : Int64} {vn wn pn : Nat} {vl wl pl : Nat → Nat → Int32} {vs wz ps : Nat → Int32}
-- X6_lossSoFar
def v_lossSoFar_k4 (v1 : Int64) : Int64 := v1
def v_lossSoFar_L4 (vl : Nat → Nat → Int32) (vs : Nat → Int32) (pl : Nat → Nat → Int32) (ps : Nat → Int32) : Nat → Nat → Int64 → Int64
  | 0, i, v1 => v1
  | n + 1, i, v1 => if (v_stands vs ps (nI i)) = 0 then v_lossSoFar_L4 vl vs pl ps n (i + 1) v1 else (if (v_chances vl pl (nI i)) ≤ 0 then v_lossSoFar_L4 vl vs pl ps n (i + 1) v1 else v_lossSoFar_L4 vl vs pl ps n (i + 1) (v1 + (((((p_worthWithLives pl ps (nI i)).toInt64) * 1000000) * ((v_chancesGone vl pl (nI i)).toInt64)) / ((v_chances vl pl (nI i)).toInt64))))
def v_lossSoFar (vl : Nat → Nat → Int32) (vs : Nat → Int32) (pl : Nat → Nat → Int32) (ps : Nat → Int32) : Int64 := v_lossSoFar_k4 (v_lossSoFar_L4 vl vs pl ps ((ps 0).toNatClampNeg) 0 0)
set_option maxHeartbeats 4000000 in
set_option maxRecDepth 100000 in
theorem c_v_lossSoFar (hI : kInj ad 183) (hv : vn < 9) (hvl : VL vn = vl) (hvs : VS vn = vs) (hpl : PL 0 = pl) (hps : PS 0 = ps)  : Met l yX6_lossSoFar (.code yX6_lossSoFar cX6_lossSoFar 5 (some .long) :: kT) ({ frames := 4, cells := 0, slots := 0, locals := 88 } : Room) (va_Pc [.ref (ad (66 + 13 * vn))] (kB (dC, dI) [(cI, .int)] (cws cI ad ML MS PL PS VL VS LL))) (kR (some (.long (v_lossSoFar vl vs pl ps)))) 0 0 (fun _ => False) := by
  refine kMet (by decide) (fun p e s m args below meth c ls hx hb hr hml hts hown hlocks hname hargs hB hl => ?_) (Nat.le_of_ble_eq_true rfl)
  obtain ⟨hP, hK, hN⟩ := hB
  have hl : lv_has ls 5 [(0, .ref (ad (66 + 13 * vn)))] := hl
  refine lv_lconst (v := 0) hx hb dX6_lossSoFar_0 (by decide) ?_
  refine lv_lstore_n (lv' := [(1, .long 0), (0, .ref (ad (66 + 13 * vn)))]) hx hb dX6_lossSoFar_1 rfl hl (by decide) rfl (fun ls hl => ?_)
  refine lv_iconst (v := 0) hx hb dX6_lossSoFar_2 (by decide) ?_
  refine lv_istore_n (lv' := [(3, .int 0), (1, .long 0), (0, .ref (ad (66 + 13 * vn)))]) hx hb dX6_lossSoFar_3 rfl hl (by decide) rfl (fun ls hl => ?_)
  have rest_4 : ∀ (x1_4 : Int64), ∀ (ls : Array Slot), lv_has ls 5 [(1, .long x1_4)] → (v_lossSoFar vl vs pl ps) = v_lossSoFar_k4 x1_4 → W p l e ({ frames := 4, cells := 0, slots := 0, locals := 88 } : Room) s m args below meth c s.heap [] 0 0 (MQ below (kR (some (.long (v_lossSoFar vl vs pl ps)))) args s 0 0 (fun _ => False)) (F0 m 68 ls []) := by
    intro x1_4 ls hl  hF_4
    refine lv_lload_n hx hb dX6_lossSoFar_68 rfl (lv_at hl 0 rfl) ?_
    have hE : (v_lossSoFar vl vs pl ps) = x1_4 := hF_4.trans (by rw [v_lossSoFar_k4])
    exact W.lret (v := x1_4) hx hb hr (fun t ht hW => ⟨by rw [hE], ht⟩) (fun _ h => absurd h List.not_mem_nil) dX6_lossSoFar_69 hlocks
  have hN_4 : ((ps 0).toNatClampNeg) < 2 ^ 31 := kcl_lt _
  have loop_4 : ∀ (n_4 i_4 : Nat) (x1_4 : Int64), i_4 + n_4 = (ps 0).toNatClampNeg → ∀ (ls : Array Slot), lv_has ls 5 [(0, .ref (ad (66 + 13 * vn))), (1, .long x1_4), (3, .int (nI i_4))] → (∀ (ls : Array Slot), lv_has ls 5 [(1, .long (v_lossSoFar_L4 vl vs pl ps n_4 i_4 x1_4))] → W p l e ({ frames := 4, cells := 0, slots := 0, locals := 88 } : Room) s m args below meth c s.heap [] 0 0 (MQ below (kR (some (.long (v_lossSoFar vl vs pl ps)))) args s 0 0 (fun _ => False)) (F0 m 68 ls [])) → W p l e ({ frames := 4, cells := 0, slots := 0, locals := 88 } : Room) s m args below meth c s.heap [] 0 0 (MQ below (kR (some (.long (v_lossSoFar vl vs pl ps)))) args s 0 0 (fun _ => False)) (F0 m 4 ls []) := by
    intro n_4
    induction n_4 with
    | zero =>
      intro i_4 x1_4 hin_4 ls hl  hk_4
      refine lv_iload_n hx hb dX6_lossSoFar_4 rfl (lv_at hl 2 rfl) ?_
      refine lv_aload_n hx hb dX6_lossSoFar_5 rfl (lv_at hl 0 rfl) ?_
      refine k_get (q0 := 66 + 13 * vn) (ci := 5) (v := .ref (ad 16)) hx hb hts inT_X6 hown hK hP (xV (v := vn) hv hvs) rfl 0 (by decide) rfl kX6_51 rfl dX6_lossSoFar_6 ?_
      refine k_getN (q0 := 16 + 25 * 0) (ci := 0) (v := .int (ps 0)) hx hb hts hN inT_X0 hown hK hP (xP (p := 0) (by decide) hps) rfl 0 (by decide) rfl kX6_69 rfl dX6_lossSoFar_9 ?_
      refine lv_icmp_ge (tgt := 68) hx hb dX6_lossSoFar_12 (by decide) (fun _ => ?_) (fun c_4 => absurd (kct_ge (N := (ps 0).toNatClampNeg) rfl (by omega) (by omega)) c_4)
      have hL_4 : (v_lossSoFar_L4 vl vs pl ps 0 i_4 x1_4) = x1_4 := by rw [v_lossSoFar_L4.eq_1]
      try rw [hL_4] at hk_4
      exact hk_4 _ (lv_sub hl [1] rfl) 
    | succ n_4 ih_4 =>
      intro i_4 x1_4 hin_4 ls hl  hk_4
      refine lv_iload_n hx hb dX6_lossSoFar_4 rfl (lv_at hl 2 rfl) ?_
      refine lv_aload_n hx hb dX6_lossSoFar_5 rfl (lv_at hl 0 rfl) ?_
      refine k_get (q0 := 66 + 13 * vn) (ci := 5) (v := .ref (ad 16)) hx hb hts inT_X6 hown hK hP (xV (v := vn) hv hvs) rfl 0 (by decide) rfl kX6_51 rfl dX6_lossSoFar_6 ?_
      refine k_getN (q0 := 16 + 25 * 0) (ci := 0) (v := .int (ps 0)) hx hb hts hN inT_X0 hown hK hP (xP (p := 0) (by decide) hps) rfl 0 (by decide) rfl kX6_69 rfl dX6_lossSoFar_9 ?_
      refine lv_icmp_ge (tgt := 68) hx hb dX6_lossSoFar_12 (by decide) (fun c_5 => absurd c_5 (kct_lt (N := (ps 0).toNatClampNeg) rfl (by omega))) (fun _ => ?_)
      refine lv_aload_n hx hb dX6_lossSoFar_15 rfl (lv_at hl 0 rfl) ?_
      refine lv_iload_n hx hb dX6_lossSoFar_16 rfl (lv_at hl 2 rfl) ?_
      refine k_rV (v := .int (v_chances vl pl (nI i_4))) (As := [.int (nI i_4)]) (rest := []) hx hb hml hown hts hl.1 hP hK hN (c_v_chances hI hv hvl hvs hpl hps (nI i_4)) eX6_191 (ci := 5) (q0 := 66 + 13 * vn) rfl rfl (xV (v := vn) hv hvs) rfl rfl (Nat.le_of_ble_eq_true rfl) ⟨Nat.le_of_ble_eq_true rfl, Nat.le_of_ble_eq_true rfl⟩ ⟨rfl, rfl⟩ ⟨Nat.le_of_ble_eq_true rfl, Nat.le_of_ble_eq_true rfl⟩ dX6_lossSoFar_17 ?_
      refine lv_istore (lv' := [(4, .int (v_chances vl pl (nI i_4))), (0, .ref (ad (66 + 13 * vn))), (1, .long x1_4), (3, .int (nI i_4))]) hx hb dX6_lossSoFar_20 hl (by decide) rfl (fun ls hl => ?_)
      refine lv_aload_n hx hb dX6_lossSoFar_22 rfl (lv_at hl 1 rfl) ?_
      refine lv_iload_n hx hb dX6_lossSoFar_23 rfl (lv_at hl 3 rfl) ?_
      refine k_rV (v := .int (v_stands vs ps (nI i_4))) (As := [.int (nI i_4)]) (rest := []) hx hb hml hown hts hl.1 hP hK hN (c_v_stands hI hv hvl hvs hpl hps (nI i_4)) eX6_163 (ci := 5) (q0 := 66 + 13 * vn) rfl rfl (xV (v := vn) hv hvs) rfl rfl (Nat.le_of_ble_eq_true rfl) ⟨Nat.le_of_ble_eq_true rfl, Nat.le_of_ble_eq_true rfl⟩ ⟨rfl, rfl⟩ ⟨Nat.le_of_ble_eq_true rfl, Nat.le_of_ble_eq_true rfl⟩ dX6_lossSoFar_24 ?_
      refine lv_if_eq (tgt := 62) hx hb dX6_lossSoFar_27 (by decide) (fun c_6 => ?_) (fun c_6 => ?_)
      · refine lv_iinc (v := (nI (i_4 + 1))) (lv' := [(3, .int (nI (i_4 + 1))), (4, .int (v_chances vl pl (nI i_4))), (0, .ref (ad (66 + 13 * vn))), (1, .long x1_4)]) hx hb dX6_lossSoFar_62 hl (k := 3) rfl (nI_add _ _) (by decide) rfl (fun ls hl => ?_)
        refine lv_goto (tgt := 4) hx hb dX6_lossSoFar_65 (by decide) ?_
        have hL_4 : (v_lossSoFar_L4 vl vs pl ps (n_4 + 1) i_4 x1_4) = (v_lossSoFar_L4 vl vs pl ps n_4 (i_4 + 1) x1_4) := by rw [v_lossSoFar_L4.eq_2, if_pos c_6]
        try rw [hL_4] at hk_4
        exact ih_4 (i_4 + 1) x1_4 (by omega) _ (lv_sub hl [2, 3, 0] rfl)  hk_4
      · refine lv_iload hx hb dX6_lossSoFar_30 (lv_at hl 0 rfl) ?_
        refine lv_if_le (tgt := 62) hx hb dX6_lossSoFar_32 (by decide) (fun c_7 => ?_) (fun c_7 => ?_)
        · refine lv_iinc (v := (nI (i_4 + 1))) (lv' := [(3, .int (nI (i_4 + 1))), (4, .int (v_chances vl pl (nI i_4))), (0, .ref (ad (66 + 13 * vn))), (1, .long x1_4)]) hx hb dX6_lossSoFar_62 hl (k := 3) rfl (nI_add _ _) (by decide) rfl (fun ls hl => ?_)
          refine lv_goto (tgt := 4) hx hb dX6_lossSoFar_65 (by decide) ?_
          have hL_4 : (v_lossSoFar_L4 vl vs pl ps (n_4 + 1) i_4 x1_4) = (v_lossSoFar_L4 vl vs pl ps n_4 (i_4 + 1) x1_4) := by rw [v_lossSoFar_L4.eq_2, if_neg c_6, if_pos c_7]
          try rw [hL_4] at hk_4
          exact ih_4 (i_4 + 1) x1_4 (by omega) _ (lv_sub hl [2, 3, 0] rfl)  hk_4
        · refine lv_lload_n hx hb dX6_lossSoFar_35 rfl (lv_at hl 2 rfl) ?_
          refine lv_aload_n hx hb dX6_lossSoFar_36 rfl (lv_at hl 1 rfl) ?_
          refine k_get (q0 := 66 + 13 * vn) (ci := 5) (v := .ref (ad 16)) hx hb hts inT_X6 hown hK hP (xV (v := vn) hv hvs) rfl 0 (by decide) rfl kX6_51 rfl dX6_lossSoFar_37 ?_
          refine lv_iload_n hx hb dX6_lossSoFar_40 rfl (lv_at hl 3 rfl) ?_
          refine k_rV (v := .int (p_worthWithLives pl ps (nI i_4))) (As := [.int (nI i_4)]) (rest := [.long x1_4]) hx hb hml hown hts hl.1 hP hK hN (c_p_worthWithLives (pn := 0) (VL := VL) (VS := VS) (PL := PL) (PS := PS) (pl := pl) (ps := ps) hI (by decide) hpl hps (nI i_4)) eX6_194 (ci := 0) (q0 := 16 + 25 * 0) rfl rfl (xP (p := 0) (by decide) hps) rfl rfl (Nat.le_of_ble_eq_true rfl) ⟨Nat.le_of_ble_eq_true rfl, Nat.le_of_ble_eq_true rfl⟩ ⟨rfl, rfl⟩ ⟨Nat.le_of_ble_eq_true rfl, Nat.le_of_ble_eq_true rfl⟩ dX6_lossSoFar_41 ?_
          refine lv_i2l (v := ((p_worthWithLives pl ps (nI i_4)).toInt64)) hx hb dX6_lossSoFar_44 rfl ?_
          refine lv_ldc2 (v := 1000000) hx hb hown (hts _ kX6_197) dX6_lossSoFar_45 ?_
          refine lv_lmul hx hb dX6_lossSoFar_48 ?_
          refine lv_aload_n hx hb dX6_lossSoFar_49 rfl (lv_at hl 1 rfl) ?_
          refine lv_iload_n hx hb dX6_lossSoFar_50 rfl (lv_at hl 3 rfl) ?_
          refine k_rV (v := .int (v_chancesGone vl pl (nI i_4))) (As := [.int (nI i_4)]) (rest := [.long (((p_worthWithLives pl ps (nI i_4)).toInt64) * 1000000), .long x1_4]) hx hb hml hown hts hl.1 hP hK hN (c_v_chancesGone hI hv hvl hvs hpl hps (nI i_4)) eX6_199 (ci := 5) (q0 := 66 + 13 * vn) rfl rfl (xV (v := vn) hv hvs) rfl rfl (Nat.le_of_ble_eq_true rfl) ⟨Nat.le_of_ble_eq_true rfl, Nat.le_of_ble_eq_true rfl⟩ ⟨rfl, rfl⟩ ⟨Nat.le_of_ble_eq_true rfl, Nat.le_of_ble_eq_true rfl⟩ dX6_lossSoFar_51 ?_
          refine lv_i2l (v := ((v_chancesGone vl pl (nI i_4)).toInt64)) hx hb dX6_lossSoFar_54 rfl ?_
          refine lv_lmul hx hb dX6_lossSoFar_55 ?_
          refine lv_iload hx hb dX6_lossSoFar_56 (lv_at hl 0 rfl) ?_
          refine lv_i2l (v := ((v_chances vl pl (nI i_4)).toInt64)) hx hb dX6_lossSoFar_58 rfl ?_
          refine lv_ldiv hx hb dX6_lossSoFar_59 (kl_nz (by assumption)) ?_
          refine lv_ladd hx hb dX6_lossSoFar_60 ?_
          refine lv_lstore_n (lv' := [(1, .long (x1_4 + (((((p_worthWithLives pl ps (nI i_4)).toInt64) * 1000000) * ((v_chancesGone vl pl (nI i_4)).toInt64)) / ((v_chances vl pl (nI i_4)).toInt64)))), (4, .int (v_chances vl pl (nI i_4))), (0, .ref (ad (66 + 13 * vn))), (3, .int (nI i_4))]) hx hb dX6_lossSoFar_61 rfl hl (by decide) rfl (fun ls hl => ?_)
          refine lv_iinc (v := (nI (i_4 + 1))) (lv' := [(3, .int (nI (i_4 + 1))), (1, .long (x1_4 + (((((p_worthWithLives pl ps (nI i_4)).toInt64) * 1000000) * ((v_chancesGone vl pl (nI i_4)).toInt64)) / ((v_chances vl pl (nI i_4)).toInt64)))), (4, .int (v_chances vl pl (nI i_4))), (0, .ref (ad (66 + 13 * vn)))]) hx hb dX6_lossSoFar_62 hl (k := 3) rfl (nI_add _ _) (by decide) rfl (fun ls hl => ?_)
          refine lv_goto (tgt := 4) hx hb dX6_lossSoFar_65 (by decide) ?_
          have hL_4 : (v_lossSoFar_L4 vl vs pl ps (n_4 + 1) i_4 x1_4) = (v_lossSoFar_L4 vl vs pl ps n_4 (i_4 + 1) (x1_4 + (((((p_worthWithLives pl ps (nI i_4)).toInt64) * 1000000) * ((v_chancesGone vl pl (nI i_4)).toInt64)) / ((v_chances vl pl (nI i_4)).toInt64)))) := by rw [v_lossSoFar_L4.eq_2, if_neg c_6, if_neg c_7]
          try rw [hL_4] at hk_4
          exact ih_4 (i_4 + 1) (x1_4 + (((((p_worthWithLives pl ps (nI i_4)).toInt64) * 1000000) * ((v_chancesGone vl pl (nI i_4)).toInt64)) / ((v_chances vl pl (nI i_4)).toInt64))) (by omega) _ (lv_sub hl [3, 1, 0] rfl)  hk_4
  exact loop_4 ((ps 0).toNatClampNeg) 0 0 (by omega) _ (lv_sub hl [2, 1, 0] rfl)  (fun ls hl  => rest_4 (v_lossSoFar_L4 vl vs pl ps ((ps 0).toNatClampNeg) 0 0) _ hl  (by rw [v_lossSoFar]))
-- X6_drop
def v_drop (vl : Nat → Nat → Int32) (vs : Nat → Int32) (v1 : Int32) : (Nat → Int32) × Int32 := ((rs 16 (rs 16 (vl 1) (2 * v1) 0) ((2 * v1) + 1) 0), ((vs 8) &&& ((1 <<< (v1 &&& 31)) ^^^ (-1))))
set_option maxHeartbeats 4000000 in
set_option maxRecDepth 100000 in
theorem c_v_drop (hI : kInj ad 183) (hv : vn < 9) (hvl : VL vn = vl) (hvs : VS vn = vs) (hpl : PL 0 = pl) (hps : PS 0 = ps) (v1 : Int32) : Met l yX6_drop (.code yX6_drop cX6_drop 2 none :: kT) ({ frames := 1, cells := 0, slots := 0, locals := 22 } : Room) (va_Pc [.ref (ad (66 + 13 * vn)), .int v1] (kB (dC, dI) [(cI, .int)] (cws cI ad ML MS PL PS VL VS LL))) (kQ none (kB (dC, dI) [(cI, .int)] (cws cI ad ML MS PL PS (va_up VL vn (va_up vl 1 ((v_drop vl vs v1).1))) (va_up VS vn (va_up vs 8 ((v_drop vl vs v1).2))) LL)) (kAA ad 183)) 0 0 (kAA ad 183) := by
  refine kMet (by decide) (fun p e s m args below meth c ls hx hb hr hml hts hown hlocks hname hargs hB hl => ?_) (Nat.le_of_ble_eq_true rfl)
  obtain ⟨hP, hK, hN⟩ := hB
  have hl : lv_has ls 2 [(0, .ref (ad (66 + 13 * vn))), (1, .int v1)] := hl
  have hS : va_S (kAA ad 183) s.heap s.heap [] := va_S.rf
  refine lv_aload_n hx hb dX6_drop_0 rfl (lv_at hl 0 rfl) ?_
  refine lv_dup hx hb dX6_drop_1 rfl ?_
  refine k_get (q0 := 66 + 13 * vn) (ci := 5) (v := .int (vs 8)) hx hb hts inT_X6 hown hK hP (xV (v := vn) hv hvs) rfl 8 (by decide) rfl kX6_35 rfl dX6_drop_2 ?_
  refine lv_iconst (v := 1) hx hb dX6_drop_5 (by decide) ?_
  refine lv_iload_n hx hb dX6_drop_6 rfl (lv_at hl 1 rfl) ?_
  refine lv_ishl hx hb dX6_drop_7 ?_
  refine lv_iconst (v := (-1)) hx hb dX6_drop_8 (by decide) ?_
  refine lv_ixor hx hb dX6_drop_9 ?_
  refine lv_iand hx hb dX6_drop_10 ?_
  refine k_put (q0 := 66 + 13 * vn) (ci := 5) (ty := .int) (ws' := cws cI ad ML MS PL PS VL (va_up VS vn (va_up vs 8 ((vs 8) &&& ((1 <<< (v1 &&& 31)) ^^^ (-1))))) LL) hx hb hts inT_X6 tyX6 tyX6_ok nmX6 hown hK hP (cwsD hI) hS (xV (v := vn) hv hvs) rfl 8 (by decide) rfl kX6_35 rfl (by decide +kernel) rfl rfl (Nat.le_of_ble_eq_true rfl) (yVs2 hv (by decide) rfl rfl) dX6_drop_11 (fun H locs hP hS => ?_)
  refine lv_aload_n hx hb dX6_drop_14 rfl (lv_at hl 0 rfl) ?_
  refine k_get (q0 := 66 + 13 * vn) (ci := 5) (v := .ref (ad (66 + 13 * vn + 1))) hx hb hts inT_X6 hown hK hP (xV (v := vn) hv va_sf) rfl 1 (by decide) rfl kX6_14 rfl dX6_drop_15 ?_
  refine lv_iconst (v := 2) hx hb dX6_drop_18 (by decide) ?_
  refine lv_iload_n hx hb dX6_drop_19 rfl (lv_at hl 1 rfl) ?_
  refine lv_imul hx hb dX6_drop_20 ?_
  refine lv_iconst (v := 0) hx hb dX6_drop_21 (by decide) ?_
  refine k_wV (ws' := cws cI ad ML MS PL PS (va_up VL vn (va_up vl 1 (rs 16 (vl 1) (2 * v1) 0))) (va_up VS vn (va_up vs 8 ((vs 8) &&& ((1 <<< (v1 &&& 31)) ^^^ (-1))))) LL) (r := none) (As := [.int (2 * v1), .int 0]) (rest := []) hx hb hml hown hts hl.1 hP hK hN hS (c_rs (f := (vl 1)) (n := 16) (wVo (v := vn) hv 1 (by decide) (by decide)) (xVa (v := vn) hv hvl 1 (by decide) (by decide) rfl rfl) (by decide) (cwsD hI) (2 * v1) 0 (yVl2 (v := vn) hv 1 (by decide) (by decide) (k := 1) rfl hvl rfl rfl rfl)) eX6_79 (ci := 2) (q0 := 66 + 13 * vn + 1) rfl rfl (wVo (v := vn) hv 1 (by decide) (by decide)) rfl rfl (Nat.le_of_ble_eq_true rfl) ⟨Nat.le_of_ble_eq_true rfl, Nat.le_of_ble_eq_true rfl⟩ ⟨rfl, rfl⟩ ⟨Nat.le_of_ble_eq_true rfl, Nat.le_of_ble_eq_true rfl⟩ dX6_drop_22 (fun H locs hP hS => ?_)
  refine lv_aload_n hx hb dX6_drop_25 rfl (lv_at hl 0 rfl) ?_
  refine k_get (q0 := 66 + 13 * vn) (ci := 5) (v := .ref (ad (66 + 13 * vn + 1))) hx hb hts inT_X6 hown hK hP (xV (v := vn) hv va_sf) rfl 1 (by decide) rfl kX6_14 rfl dX6_drop_26 ?_
  refine lv_iconst (v := 2) hx hb dX6_drop_29 (by decide) ?_
  refine lv_iload_n hx hb dX6_drop_30 rfl (lv_at hl 1 rfl) ?_
  refine lv_imul hx hb dX6_drop_31 ?_
  refine lv_iconst (v := 1) hx hb dX6_drop_32 (by decide) ?_
  refine lv_iadd hx hb dX6_drop_33 ?_
  refine lv_iconst (v := 0) hx hb dX6_drop_34 (by decide) ?_
  refine k_wV (ws' := cws cI ad ML MS PL PS (va_up VL vn (va_up vl 1 (rs 16 (rs 16 (vl 1) (2 * v1) 0) ((2 * v1) + 1) 0))) (va_up VS vn (va_up vs 8 ((vs 8) &&& ((1 <<< (v1 &&& 31)) ^^^ (-1))))) LL) (r := none) (As := [.int ((2 * v1) + 1), .int 0]) (rest := []) hx hb hml hown hts hl.1 hP hK hN hS (c_rs (f := (rs 16 (vl 1) (2 * v1) 0)) (n := 16) (wVo (v := vn) hv 1 (by decide) (by decide)) (xVa (v := vn) hv va_sf 1 (by decide) (by decide) rfl va_sf) (by decide) (cwsD hI) ((2 * v1) + 1) 0 (yVl2 (v := vn) hv 1 (by decide) (by decide) (k := 1) rfl va_sf rfl (va_uu _ _ _ _) (va_uu _ _ _ _))) eX6_79 (ci := 2) (q0 := 66 + 13 * vn + 1) rfl rfl (wVo (v := vn) hv 1 (by decide) (by decide)) rfl rfl (Nat.le_of_ble_eq_true rfl) ⟨Nat.le_of_ble_eq_true rfl, Nat.le_of_ble_eq_true rfl⟩ ⟨rfl, rfl⟩ ⟨Nat.le_of_ble_eq_true rfl, Nat.le_of_ble_eq_true rfl⟩ dX6_drop_35 (fun H locs hP hS => ?_)
  have hE : (v_drop vl vs v1) = ((rs 16 (rs 16 (vl 1) (2 * v1) 0) ((2 * v1) + 1) 0), ((vs 8) &&& ((1 <<< (v1 &&& 31)) ^^^ (-1)))) := by rw [v_drop]
  exact W.vret hx hb hr (fun t ht hW => ⟨rfl, by rw [hE]; exact kB.of (ws := cws cI ad ML MS PL PS (va_up VL vn (va_up vl 1 (rs 16 (rs 16 (vl 1) (2 * v1) 0) ((2 * v1) + 1) 0))) (va_up VS vn (va_up vs 8 ((vs 8) &&& ((1 <<< (v1 &&& 31)) ^^^ (-1))))) LL) hP hK hN ht hW, hS.F ht⟩) hS.2.2 dX6_drop_38 hlocks
-- X6_clearAt
def v_clearAt (vl : Nat → Nat → Int32) (vs : Nat → Int32) (pl : Nat → Nat → Int32) (ps : Nat → Int32) (v1 : Int32) : (Nat → Int32) := if 0 < (jmin (ps 15) (rg 16 (vl 1) v1)) then (if (v_stands vs ps (rg 8 (pl 5) (v1 / 2))) = 0 then (rs 16 (vl 1) v1 (rg 16 (vl 1) v1 + (-(jmin (ps 15) (rg 16 (vl 1) v1))))) else (rs 16 (rs 16 (vl 1) v1 (rg 16 (vl 1) v1 + (-(jmin (ps 15) (rg 16 (vl 1) v1))))) (2 * (rg 8 (pl 5) (v1 / 2))) (rg 16 (rs 16 (vl 1) v1 (rg 16 (vl 1) v1 + (-(jmin (ps 15) (rg 16 (vl 1) v1))))) (2 * (rg 8 (pl 5) (v1 / 2))) + (jmin (ps 15) (rg 16 (vl 1) v1))))) else (vl 1)
set_option maxHeartbeats 4000000 in
set_option maxRecDepth 100000 in
theorem c_v_clearAt (hI : kInj ad 183) (hv : vn < 9) (hvl : VL vn = vl) (hvs : VS vn = vs) (hpl : PL 0 = pl) (hps : PS 0 = ps) (v1 : Int32) : Met l yX6_clearAt (.code yX6_clearAt cX6_clearAt 4 none :: kT) ({ frames := 2, cells := 0, slots := 0, locals := 44 } : Room) (va_Pc [.ref (ad (66 + 13 * vn)), .int v1] (kB (dC, dI) [(cI, .int)] (cws cI ad ML MS PL PS VL VS LL))) (kQ none (kB (dC, dI) [(cI, .int)] (cws cI ad ML MS PL PS (va_up VL vn (va_up vl 1 (v_clearAt vl vs pl ps v1))) VS LL)) (kAA ad 183)) 0 0 (kAA ad 183) := by
  refine kMet (by decide) (fun p e s m args below meth c ls hx hb hr hml hts hown hlocks hname hargs hB hl => ?_) (Nat.le_of_ble_eq_true rfl)
  obtain ⟨hP, hK, hN⟩ := hB
  have hl : lv_has ls 4 [(0, .ref (ad (66 + 13 * vn))), (1, .int v1)] := hl
  have hS : va_S (kAA ad 183) s.heap s.heap [] := va_S.rf
  refine lv_aload_n hx hb dX6_clearAt_0 rfl (lv_at hl 0 rfl) ?_
  refine k_get (q0 := 66 + 13 * vn) (ci := 5) (v := .ref (ad 16)) hx hb hts inT_X6 hown hK hP (xV (v := vn) hv hvs) rfl 0 (by decide) rfl kX6_51 rfl dX6_clearAt_1 ?_
  refine k_getN (q0 := 16 + 25 * 0) (ci := 0) (v := .int (ps 15)) hx hb hts hN inT_X0 hown hK hP (xP (p := 0) (by decide) hps) rfl 15 (by decide) rfl kX6_151 rfl dX6_clearAt_4 ?_
  refine lv_aload_n hx hb dX6_clearAt_7 rfl (lv_at hl 0 rfl) ?_
  refine k_get (q0 := 66 + 13 * vn) (ci := 5) (v := .ref (ad (66 + 13 * vn + 1))) hx hb hts inT_X6 hown hK hP (xV (v := vn) hv hvs) rfl 1 (by decide) rfl kX6_14 rfl dX6_clearAt_8 ?_
  refine lv_iload_n hx hb dX6_clearAt_11 rfl (lv_at hl 1 rfl) ?_
  refine k_rV (v := .int (rg 16 (vl 1) v1)) (As := [.int v1]) (rest := [.int (ps 15)]) hx hb hml hown hts hl.1 hP hK hN (c_rg (f := (vl 1)) (n := 16) (wVo (v := vn) hv 1 (by decide) (by decide)) (xVa (v := vn) hv hvl 1 (by decide) (by decide) rfl rfl) (by decide) v1) eX6_90 (ci := 2) (q0 := 66 + 13 * vn + 1) rfl rfl (wVo (v := vn) hv 1 (by decide) (by decide)) rfl rfl (Nat.le_of_ble_eq_true rfl) ⟨Nat.le_of_ble_eq_true rfl, Nat.le_of_ble_eq_true rfl⟩ ⟨rfl, rfl⟩ ⟨Nat.le_of_ble_eq_true rfl, Nat.le_of_ble_eq_true rfl⟩ dX6_clearAt_12 ?_
  refine k_mmin (rest := []) hx hb hml hown hts hl.1 eX6_154 (Nat.le_of_ble_eq_true rfl) (Nat.le_of_ble_eq_true rfl) (Nat.le_of_ble_eq_true rfl) (Nat.le_of_ble_eq_true rfl) dX6_clearAt_15 ?_
  refine lv_istore_n (lv' := [(2, .int (jmin (ps 15) (rg 16 (vl 1) v1))), (0, .ref (ad (66 + 13 * vn))), (1, .int v1)]) hx hb dX6_clearAt_18 rfl hl (by decide) rfl (fun ls hl => ?_)
  refine lv_iload_n hx hb dX6_clearAt_19 rfl (lv_at hl 0 rfl) ?_
  refine lv_if_gt (tgt := 24) hx hb dX6_clearAt_20 (by decide) (fun c_3 => ?_) (fun c_3 => ?_)
  · refine lv_aload_n hx hb dX6_clearAt_24 rfl (lv_at hl 1 rfl) ?_
    refine k_get (q0 := 66 + 13 * vn) (ci := 5) (v := .ref (ad (66 + 13 * vn + 1))) hx hb hts inT_X6 hown hK hP (xV (v := vn) hv hvs) rfl 1 (by decide) rfl kX6_14 rfl dX6_clearAt_25 ?_
    refine lv_iload_n hx hb dX6_clearAt_28 rfl (lv_at hl 2 rfl) ?_
    refine lv_iload_n hx hb dX6_clearAt_29 rfl (lv_at hl 0 rfl) ?_
    refine lv_ineg hx hb dX6_clearAt_30 ?_
    refine k_wV (ws' := cws cI ad ML MS PL PS (va_up VL vn (va_up vl 1 (rs 16 (vl 1) v1 (rg 16 (vl 1) v1 + (-(jmin (ps 15) (rg 16 (vl 1) v1))))))) VS LL) (r := none) (As := [.int v1, .int (-(jmin (ps 15) (rg 16 (vl 1) v1)))]) (rest := []) hx hb hml hown hts hl.1 hP hK hN hS (c_ri (f := (vl 1)) (n := 16) (wVo (v := vn) hv 1 (by decide) (by decide)) (xVa (v := vn) hv hvl 1 (by decide) (by decide) rfl rfl) (by decide) (cwsD hI) v1 (-(jmin (ps 15) (rg 16 (vl 1) v1))) (yVl2 (v := vn) hv 1 (by decide) (by decide) (k := 1) rfl hvl rfl rfl rfl)) eX6_157 (ci := 2) (q0 := 66 + 13 * vn + 1) rfl rfl (wVo (v := vn) hv 1 (by decide) (by decide)) rfl rfl (Nat.le_of_ble_eq_true rfl) ⟨Nat.le_of_ble_eq_true rfl, Nat.le_of_ble_eq_true rfl⟩ ⟨rfl, rfl⟩ ⟨Nat.le_of_ble_eq_true rfl, Nat.le_of_ble_eq_true rfl⟩ dX6_clearAt_31 (fun H locs hP hS => ?_)
    refine lv_aload_n hx hb dX6_clearAt_34 rfl (lv_at hl 1 rfl) ?_
    refine k_get (q0 := 66 + 13 * vn) (ci := 5) (v := .ref (ad 16)) hx hb hts inT_X6 hown hK hP (xV (v := vn) hv hvs) rfl 0 (by decide) rfl kX6_51 rfl dX6_clearAt_35 ?_
    refine k_getN (q0 := 16 + 25 * 0) (ci := 0) (v := .ref (ad (16 + 25 * 0 + 9))) hx hb hts hN inT_X0 hown hK hP (xP (p := 0) (by decide) hps) rfl 5 (by decide) rfl kX6_160 rfl dX6_clearAt_38 ?_
    refine lv_iload_n hx hb dX6_clearAt_41 rfl (lv_at hl 2 rfl) ?_
    refine lv_iconst (v := 2) hx hb dX6_clearAt_42 (by decide) ?_
    refine lv_idiv hx hb dX6_clearAt_43 (by decide) ?_
    refine k_rV (v := .int (rg 8 (pl 5) (v1 / 2))) (As := [.int (v1 / 2)]) (rest := []) hx hb hml hown hts hl.1 hP hK hN (c_rg (f := (pl 5)) (n := 8) (wPo (p := 0) (by decide) 9 (by decide) (by decide)) (xPa (p := 0) (by decide) hpl 9 (by decide) (by decide) rfl rfl) (by decide) (v1 / 2)) eX6_90 (ci := 2) (q0 := 16 + 25 * 0 + 9) rfl rfl (wPo (p := 0) (by decide) 9 (by decide) (by decide)) rfl rfl (Nat.le_of_ble_eq_true rfl) ⟨Nat.le_of_ble_eq_true rfl, Nat.le_of_ble_eq_true rfl⟩ ⟨rfl, rfl⟩ ⟨Nat.le_of_ble_eq_true rfl, Nat.le_of_ble_eq_true rfl⟩ dX6_clearAt_44 ?_
    refine lv_istore_n (lv' := [(3, .int (rg 8 (pl 5) (v1 / 2))), (2, .int (jmin (ps 15) (rg 16 (vl 1) v1))), (0, .ref (ad (66 + 13 * vn))), (1, .int v1)]) hx hb dX6_clearAt_47 rfl hl (by decide) rfl (fun ls hl => ?_)
    refine lv_aload_n hx hb dX6_clearAt_48 rfl (lv_at hl 2 rfl) ?_
    refine lv_iload_n hx hb dX6_clearAt_49 rfl (lv_at hl 0 rfl) ?_
    refine k_rV (v := .int (v_stands vs ps (rg 8 (pl 5) (v1 / 2)))) (As := [.int (rg 8 (pl 5) (v1 / 2))]) (rest := []) hx hb hml hown hts hl.1 hP hK hN (c_v_stands (VL := (va_up VL vn (va_up vl 1 (rs 16 (vl 1) v1 (rg 16 (vl 1) v1 + (-(jmin (ps 15) (rg 16 (vl 1) v1)))))))) (vl := (va_up vl 1 (rs 16 (vl 1) v1 (rg 16 (vl 1) v1 + (-(jmin (ps 15) (rg 16 (vl 1) v1))))))) (vs := vs) hI hv va_sf hvs hpl hps (rg 8 (pl 5) (v1 / 2))) eX6_163 (ci := 5) (q0 := 66 + 13 * vn) rfl rfl (xV (v := vn) hv hvs) rfl rfl (Nat.le_of_ble_eq_true rfl) ⟨Nat.le_of_ble_eq_true rfl, Nat.le_of_ble_eq_true rfl⟩ ⟨rfl, rfl⟩ ⟨Nat.le_of_ble_eq_true rfl, Nat.le_of_ble_eq_true rfl⟩ dX6_clearAt_50 ?_
    refine lv_if_eq (tgt := 67) hx hb dX6_clearAt_53 (by decide) (fun c_4 => ?_) (fun c_4 => ?_)
    · have hE : (v_clearAt vl vs pl ps v1) = (rs 16 (vl 1) v1 (rg 16 (vl 1) v1 + (-(jmin (ps 15) (rg 16 (vl 1) v1))))) := by rw [v_clearAt, if_pos c_3, if_pos c_4]
      exact W.vret hx hb hr (fun t ht hW => ⟨rfl, by rw [hE]; exact kB.of (ws := cws cI ad ML MS PL PS (va_up VL vn (va_up vl 1 (rs 16 (vl 1) v1 (rg 16 (vl 1) v1 + (-(jmin (ps 15) (rg 16 (vl 1) v1))))))) VS LL) hP hK hN ht hW, hS.F ht⟩) hS.2.2 dX6_clearAt_67 hlocks
    · refine lv_aload_n hx hb dX6_clearAt_56 rfl (lv_at hl 2 rfl) ?_
      refine k_get (q0 := 66 + 13 * vn) (ci := 5) (v := .ref (ad (66 + 13 * vn + 1))) hx hb hts inT_X6 hown hK hP (xV (v := vn) hv hvs) rfl 1 (by decide) rfl kX6_14 rfl dX6_clearAt_57 ?_
      refine lv_iconst (v := 2) hx hb dX6_clearAt_60 (by decide) ?_
      refine lv_iload_n hx hb dX6_clearAt_61 rfl (lv_at hl 0 rfl) ?_
      refine lv_imul hx hb dX6_clearAt_62 ?_
      refine lv_iload_n hx hb dX6_clearAt_63 rfl (lv_at hl 1 rfl) ?_
      refine k_wV (ws' := cws cI ad ML MS PL PS (va_up VL vn (va_up vl 1 (rs 16 (rs 16 (vl 1) v1 (rg 16 (vl 1) v1 + (-(jmin (ps 15) (rg 16 (vl 1) v1))))) (2 * (rg 8 (pl 5) (v1 / 2))) (rg 16 (rs 16 (vl 1) v1 (rg 16 (vl 1) v1 + (-(jmin (ps 15) (rg 16 (vl 1) v1))))) (2 * (rg 8 (pl 5) (v1 / 2))) + (jmin (ps 15) (rg 16 (vl 1) v1)))))) VS LL) (r := none) (As := [.int (2 * (rg 8 (pl 5) (v1 / 2))), .int (jmin (ps 15) (rg 16 (vl 1) v1))]) (rest := []) hx hb hml hown hts hl.1 hP hK hN hS (c_ri (f := (rs 16 (vl 1) v1 (rg 16 (vl 1) v1 + (-(jmin (ps 15) (rg 16 (vl 1) v1)))))) (n := 16) (wVo (v := vn) hv 1 (by decide) (by decide)) (xVa (v := vn) hv va_sf 1 (by decide) (by decide) rfl va_sf) (by decide) (cwsD hI) (2 * (rg 8 (pl 5) (v1 / 2))) (jmin (ps 15) (rg 16 (vl 1) v1)) (yVl2 (v := vn) hv 1 (by decide) (by decide) (k := 1) rfl va_sf rfl (va_uu _ _ _ _) (va_uu _ _ _ _))) eX6_157 (ci := 2) (q0 := 66 + 13 * vn + 1) rfl rfl (wVo (v := vn) hv 1 (by decide) (by decide)) rfl rfl (Nat.le_of_ble_eq_true rfl) ⟨Nat.le_of_ble_eq_true rfl, Nat.le_of_ble_eq_true rfl⟩ ⟨rfl, rfl⟩ ⟨Nat.le_of_ble_eq_true rfl, Nat.le_of_ble_eq_true rfl⟩ dX6_clearAt_64 (fun H locs hP hS => ?_)
      have hE : (v_clearAt vl vs pl ps v1) = (rs 16 (rs 16 (vl 1) v1 (rg 16 (vl 1) v1 + (-(jmin (ps 15) (rg 16 (vl 1) v1))))) (2 * (rg 8 (pl 5) (v1 / 2))) (rg 16 (rs 16 (vl 1) v1 (rg 16 (vl 1) v1 + (-(jmin (ps 15) (rg 16 (vl 1) v1))))) (2 * (rg 8 (pl 5) (v1 / 2))) + (jmin (ps 15) (rg 16 (vl 1) v1)))) := by rw [v_clearAt, if_pos c_3, if_neg c_4]
      exact W.vret hx hb hr (fun t ht hW => ⟨rfl, by rw [hE]; exact kB.of (ws := cws cI ad ML MS PL PS (va_up VL vn (va_up vl 1 (rs 16 (rs 16 (vl 1) v1 (rg 16 (vl 1) v1 + (-(jmin (ps 15) (rg 16 (vl 1) v1))))) (2 * (rg 8 (pl 5) (v1 / 2))) (rg 16 (rs 16 (vl 1) v1 (rg 16 (vl 1) v1 + (-(jmin (ps 15) (rg 16 (vl 1) v1))))) (2 * (rg 8 (pl 5) (v1 / 2))) + (jmin (ps 15) (rg 16 (vl 1) v1)))))) VS LL) hP hK hN ht hW, hS.F ht⟩) hS.2.2 dX6_clearAt_67 hlocks
  · have hE : (v_clearAt vl vs pl ps v1) = (vl 1) := by rw [v_clearAt, if_neg c_3]
    exact W.vret hx hb hr (fun t ht hW => ⟨rfl, by rw [hE]; exact kB.of (ws := cws cI ad ML MS PL PS (va_up VL vn (va_up vl 1 (vl 1))) VS LL) (cws_cg rfl rfl rfl rfl (va_ad rfl (Eq.trans hvl (va_ad rfl rfl))) rfl hP) hK hN ht hW, hS.F ht⟩) hS.2.2 dX6_clearAt_23 hlocks
-- X6_letFall
def v_letFall_k2 (vl1 : Nat → Int32) : (Nat → Int32) := vl1
def v_letFall_L2 (vs : Nat → Int32) (pl : Nat → Nat → Int32) (ps : Nat → Int32) (v1 : Int32) : Nat → Nat → (Nat → Int32) → (Nat → Int32)
  | 0, i, vl1 => vl1
  | n + 1, i, vl1 => if (v_stands vs ps (nI (i / 2))) = 0 then v_letFall_L2 vs pl ps v1 n (i + 1) vl1 else v_letFall_L2 vs pl ps v1 n (i + 1) (rs 16 vl1 (nI i) (rg 16 vl1 (nI i) + ((rg 6 (pl 10) ((2 * v1) + (nI (i % 2)))) + (((rg 16 vl1 (nI i)) * (rg 3 (pl 11) v1)) / 10))))
def v_letFall (vl : Nat → Nat → Int32) (vs : Nat → Int32) (pl : Nat → Nat → Int32) (ps : Nat → Int32) (v1 : Int32) : (Nat → Int32) := v_letFall_k2 (v_letFall_L2 vs pl ps v1 ((2 * (ps 0)).toNatClampNeg) 0 (vl 1))
set_option maxHeartbeats 4000000 in
set_option maxRecDepth 100000 in
theorem c_v_letFall (hI : kInj ad 183) (hv : vn < 9) (hvl : VL vn = vl) (hvs : VS vn = vs) (hpl : PL 0 = pl) (hps : PS 0 = ps) (v1 : Int32) : Met l yX6_letFall (.code yX6_letFall cX6_letFall 4 none :: kT) ({ frames := 2, cells := 0, slots := 0, locals := 44 } : Room) (va_Pc [.ref (ad (66 + 13 * vn)), .int v1] (kB (dC, dI) [(cI, .int)] (cws cI ad ML MS PL PS VL VS LL))) (kQ none (kB (dC, dI) [(cI, .int)] (cws cI ad ML MS PL PS (va_up VL vn (va_up vl 1 (v_letFall vl vs pl ps v1))) VS LL)) (kAA ad 183)) 0 0 (kAA ad 183) := by
  refine kMet (by decide) (fun p e s m args below meth c ls hx hb hr hml hts hown hlocks hname hargs hB hl => ?_) (Nat.le_of_ble_eq_true rfl)
  obtain ⟨hP, hK, hN⟩ := hB
  have hl : lv_has ls 4 [(0, .ref (ad (66 + 13 * vn))), (1, .int v1)] := hl
  have hS : va_S (kAA ad 183) s.heap s.heap [] := va_S.rf
  refine lv_iconst (v := 0) hx hb dX6_letFall_0 (by decide) ?_
  refine lv_istore_n (lv' := [(2, .int 0), (0, .ref (ad (66 + 13 * vn))), (1, .int v1)]) hx hb dX6_letFall_1 rfl hl (by decide) rfl (fun ls hl => ?_)
  have rest_2 : ∀ (vl1_2 : Nat → Int32), ∀ (H : Heap) (locs : List Loc) (ls : Array Slot), va_P (dC, dI) vwCl (cws cI ad ML MS PL PS (va_up VL vn (va_up vl 1 vl1_2)) VS LL) H → va_S (kAA ad 183) s.heap H locs → lv_has ls 4 [] → (v_letFall vl vs pl ps v1) = v_letFall_k2 vl1_2 → W p l e ({ frames := 2, cells := 0, slots := 0, locals := 44 } : Room) s m args below meth c H locs 0 0 (MQ below (kQ none (kB (dC, dI) [(cI, .int)] (cws cI ad ML MS PL PS (va_up VL vn (va_up vl 1 (v_letFall vl vs pl ps v1))) VS LL)) (kAA ad 183)) args s 0 0 (kAA ad 183)) (F0 m 82 ls []) := by
    intro vl1_2 H locs ls hP hS hl  hF_2
    have hE : (v_letFall vl vs pl ps v1) = vl1_2 := hF_2.trans (by rw [v_letFall_k2])
    exact W.vret hx hb hr (fun t ht hW => ⟨rfl, by rw [hE]; exact kB.of (ws := cws cI ad ML MS PL PS (va_up VL vn (va_up vl 1 vl1_2)) VS LL) hP hK hN ht hW, hS.F ht⟩) hS.2.2 dX6_letFall_82 hlocks
  have hN_2 : ((2 * (ps 0)).toNatClampNeg) < 2 ^ 31 := kcl_lt _
  have loop_2 : ∀ (n_2 i_2 : Nat) (vl1_2 : Nat → Int32), i_2 + n_2 = (2 * (ps 0)).toNatClampNeg → ∀ (H : Heap) (locs : List Loc) (ls : Array Slot), va_P (dC, dI) vwCl (cws cI ad ML MS PL PS (va_up VL vn (va_up vl 1 vl1_2)) VS LL) H → va_S (kAA ad 183) s.heap H locs → lv_has ls 4 [(0, .ref (ad (66 + 13 * vn))), (1, .int v1), (2, .int (nI i_2))] → (∀ (H : Heap) (locs : List Loc) (ls : Array Slot), va_P (dC, dI) vwCl (cws cI ad ML MS PL PS (va_up VL vn (va_up vl 1 (v_letFall_L2 vs pl ps v1 n_2 i_2 vl1_2))) VS LL) H → va_S (kAA ad 183) s.heap H locs → lv_has ls 4 [] → W p l e ({ frames := 2, cells := 0, slots := 0, locals := 44 } : Room) s m args below meth c H locs 0 0 (MQ below (kQ none (kB (dC, dI) [(cI, .int)] (cws cI ad ML MS PL PS (va_up VL vn (va_up vl 1 (v_letFall vl vs pl ps v1))) VS LL)) (kAA ad 183)) args s 0 0 (kAA ad 183)) (F0 m 82 ls [])) → W p l e ({ frames := 2, cells := 0, slots := 0, locals := 44 } : Room) s m args below meth c H locs 0 0 (MQ below (kQ none (kB (dC, dI) [(cI, .int)] (cws cI ad ML MS PL PS (va_up VL vn (va_up vl 1 (v_letFall vl vs pl ps v1))) VS LL)) (kAA ad 183)) args s 0 0 (kAA ad 183)) (F0 m 2 ls []) := by
    intro n_2
    induction n_2 with
    | zero =>
      intro i_2 vl1_2 hin_2 H locs ls hP hS hl  hk_2
      refine lv_iload_n hx hb dX6_letFall_2 rfl (lv_at hl 2 rfl) ?_
      refine lv_iconst (v := 2) hx hb dX6_letFall_3 (by decide) ?_
      refine lv_aload_n hx hb dX6_letFall_4 rfl (lv_at hl 0 rfl) ?_
      refine k_get (q0 := 66 + 13 * vn) (ci := 5) (v := .ref (ad 16)) hx hb hts inT_X6 hown hK hP (xV (v := vn) hv hvs) rfl 0 (by decide) rfl kX6_51 rfl dX6_letFall_5 ?_
      refine k_getN (q0 := 16 + 25 * 0) (ci := 0) (v := .int (ps 0)) hx hb hts hN inT_X0 hown hK hP (xP (p := 0) (by decide) hps) rfl 0 (by decide) rfl kX6_69 rfl dX6_letFall_8 ?_
      refine lv_imul hx hb dX6_letFall_11 ?_
      refine lv_icmp_ge (tgt := 82) hx hb dX6_letFall_12 (by decide) (fun _ => ?_) (fun c_3 => absurd (kct_ge (N := (2 * (ps 0)).toNatClampNeg) rfl (by omega) (by omega)) c_3)
      have hL_2 : (v_letFall_L2 vs pl ps v1 0 i_2 vl1_2) = vl1_2 := by rw [v_letFall_L2.eq_1]
      try rw [hL_2] at hk_2
      exact hk_2 _ _ _ hP hS (lv_sub hl [] rfl) 
    | succ n_2 ih_2 =>
      intro i_2 vl1_2 hin_2 H locs ls hP hS hl  hk_2
      refine lv_iload_n hx hb dX6_letFall_2 rfl (lv_at hl 2 rfl) ?_
      refine lv_iconst (v := 2) hx hb dX6_letFall_3 (by decide) ?_
      refine lv_aload_n hx hb dX6_letFall_4 rfl (lv_at hl 0 rfl) ?_
      refine k_get (q0 := 66 + 13 * vn) (ci := 5) (v := .ref (ad 16)) hx hb hts inT_X6 hown hK hP (xV (v := vn) hv hvs) rfl 0 (by decide) rfl kX6_51 rfl dX6_letFall_5 ?_
      refine k_getN (q0 := 16 + 25 * 0) (ci := 0) (v := .int (ps 0)) hx hb hts hN inT_X0 hown hK hP (xP (p := 0) (by decide) hps) rfl 0 (by decide) rfl kX6_69 rfl dX6_letFall_8 ?_
      refine lv_imul hx hb dX6_letFall_11 ?_
      refine lv_icmp_ge (tgt := 82) hx hb dX6_letFall_12 (by decide) (fun c_4 => absurd c_4 (kct_lt (N := (2 * (ps 0)).toNatClampNeg) rfl (by omega))) (fun _ => ?_)
      refine lv_aload_n hx hb dX6_letFall_15 rfl (lv_at hl 0 rfl) ?_
      refine lv_iload_n hx hb dX6_letFall_16 rfl (lv_at hl 2 rfl) ?_
      refine lv_iconst (v := 2) hx hb dX6_letFall_17 (by decide) ?_
      refine lv_idiv hx hb dX6_letFall_18 (by decide) ?_
      refine kn_top (x' := (nI (i_2 / 2))) (pk_div (a := i_2) (d := 2) (by omega) (by omega) (by omega)) ?_
      refine k_rV (v := .int (v_stands vs ps (nI (i_2 / 2)))) (As := [.int (nI (i_2 / 2))]) (rest := []) hx hb hml hown hts hl.1 hP hK hN (c_v_stands (VL := (va_up VL vn (va_up vl 1 vl1_2))) (vl := (va_up vl 1 vl1_2)) (vs := vs) hI hv va_sf hvs hpl hps (nI (i_2 / 2))) eX6_163 (ci := 5) (q0 := 66 + 13 * vn) rfl rfl (xV (v := vn) hv hvs) rfl rfl (Nat.le_of_ble_eq_true rfl) ⟨Nat.le_of_ble_eq_true rfl, Nat.le_of_ble_eq_true rfl⟩ ⟨rfl, rfl⟩ ⟨Nat.le_of_ble_eq_true rfl, Nat.le_of_ble_eq_true rfl⟩ dX6_letFall_19 ?_
      refine lv_if_eq (tgt := 76) hx hb dX6_letFall_22 (by decide) (fun c_5 => ?_) (fun c_5 => ?_)
      · refine lv_iinc (v := (nI (i_2 + 1))) (lv' := [(2, .int (nI (i_2 + 1))), (0, .ref (ad (66 + 13 * vn))), (1, .int v1)]) hx hb dX6_letFall_76 hl (k := 2) rfl (nI_add _ _) (by decide) rfl (fun ls hl => ?_)
        refine lv_goto (tgt := 2) hx hb dX6_letFall_79 (by decide) ?_
        have hL_2 : (v_letFall_L2 vs pl ps v1 (n_2 + 1) i_2 vl1_2) = (v_letFall_L2 vs pl ps v1 n_2 (i_2 + 1) vl1_2) := by rw [v_letFall_L2.eq_2, if_pos c_5]
        try rw [hL_2] at hk_2
        exact ih_2 (i_2 + 1) vl1_2 (by omega) _ _ _ hP hS (lv_sub hl [1, 2, 0] rfl)  hk_2
      · refine lv_aload_n hx hb dX6_letFall_25 rfl (lv_at hl 0 rfl) ?_
        refine k_get (q0 := 66 + 13 * vn) (ci := 5) (v := .ref (ad (66 + 13 * vn + 1))) hx hb hts inT_X6 hown hK hP (xV (v := vn) hv hvs) rfl 1 (by decide) rfl kX6_14 rfl dX6_letFall_26 ?_
        refine lv_iload_n hx hb dX6_letFall_29 rfl (lv_at hl 2 rfl) ?_
        refine k_rV (v := .int (rg 16 vl1_2 (nI i_2))) (As := [.int (nI i_2)]) (rest := []) hx hb hml hown hts hl.1 hP hK hN (c_rg (f := vl1_2) (n := 16) (wVo (v := vn) hv 1 (by decide) (by decide)) (xVa (v := vn) hv va_sf 1 (by decide) (by decide) rfl va_sf) (by decide) (nI i_2)) eX6_90 (ci := 2) (q0 := 66 + 13 * vn + 1) rfl rfl (wVo (v := vn) hv 1 (by decide) (by decide)) rfl rfl (Nat.le_of_ble_eq_true rfl) ⟨Nat.le_of_ble_eq_true rfl, Nat.le_of_ble_eq_true rfl⟩ ⟨rfl, rfl⟩ ⟨Nat.le_of_ble_eq_true rfl, Nat.le_of_ble_eq_true rfl⟩ dX6_letFall_30 ?_
        refine lv_aload_n hx hb dX6_letFall_33 rfl (lv_at hl 0 rfl) ?_
        refine k_get (q0 := 66 + 13 * vn) (ci := 5) (v := .ref (ad 16)) hx hb hts inT_X6 hown hK hP (xV (v := vn) hv hvs) rfl 0 (by decide) rfl kX6_51 rfl dX6_letFall_34 ?_
        refine k_getN (q0 := 16 + 25 * 0) (ci := 0) (v := .ref (ad (16 + 25 * 0 + 21))) hx hb hts hN inT_X0 hown hK hP (xP (p := 0) (by decide) hps) rfl 11 (by decide) rfl kX6_167 rfl dX6_letFall_37 ?_
        refine lv_iload_n hx hb dX6_letFall_40 rfl (lv_at hl 1 rfl) ?_
        refine k_rV (v := .int (rg 3 (pl 11) v1)) (As := [.int v1]) (rest := [.int (rg 16 vl1_2 (nI i_2))]) hx hb hml hown hts hl.1 hP hK hN (c_rg (f := (pl 11)) (n := 3) (wPo (p := 0) (by decide) 21 (by decide) (by decide)) (xPa (p := 0) (by decide) hpl 21 (by decide) (by decide) rfl rfl) (by decide) v1) eX6_90 (ci := 2) (q0 := 16 + 25 * 0 + 21) rfl rfl (wPo (p := 0) (by decide) 21 (by decide) (by decide)) rfl rfl (Nat.le_of_ble_eq_true rfl) ⟨Nat.le_of_ble_eq_true rfl, Nat.le_of_ble_eq_true rfl⟩ ⟨rfl, rfl⟩ ⟨Nat.le_of_ble_eq_true rfl, Nat.le_of_ble_eq_true rfl⟩ dX6_letFall_41 ?_
        refine lv_imul hx hb dX6_letFall_44 ?_
        refine lv_bipush (v := 10) hx hb dX6_letFall_45 (by decide) ?_
        refine lv_idiv hx hb dX6_letFall_47 (by decide) ?_
        refine lv_istore_n (lv' := [(3, .int (((rg 16 vl1_2 (nI i_2)) * (rg 3 (pl 11) v1)) / 10)), (0, .ref (ad (66 + 13 * vn))), (1, .int v1), (2, .int (nI i_2))]) hx hb dX6_letFall_48 rfl hl (by decide) rfl (fun ls hl => ?_)
        refine lv_aload_n hx hb dX6_letFall_49 rfl (lv_at hl 1 rfl) ?_
        refine k_get (q0 := 66 + 13 * vn) (ci := 5) (v := .ref (ad (66 + 13 * vn + 1))) hx hb hts inT_X6 hown hK hP (xV (v := vn) hv hvs) rfl 1 (by decide) rfl kX6_14 rfl dX6_letFall_50 ?_
        refine lv_iload_n hx hb dX6_letFall_53 rfl (lv_at hl 3 rfl) ?_
        refine lv_aload_n hx hb dX6_letFall_54 rfl (lv_at hl 1 rfl) ?_
        refine k_get (q0 := 66 + 13 * vn) (ci := 5) (v := .ref (ad 16)) hx hb hts inT_X6 hown hK hP (xV (v := vn) hv hvs) rfl 0 (by decide) rfl kX6_51 rfl dX6_letFall_55 ?_
        refine k_getN (q0 := 16 + 25 * 0) (ci := 0) (v := .ref (ad (16 + 25 * 0 + 19))) hx hb hts hN inT_X0 hown hK hP (xP (p := 0) (by decide) hps) rfl 10 (by decide) rfl kX6_170 rfl dX6_letFall_58 ?_
        refine lv_iconst (v := 2) hx hb dX6_letFall_61 (by decide) ?_
        refine lv_iload_n hx hb dX6_letFall_62 rfl (lv_at hl 2 rfl) ?_
        refine lv_imul hx hb dX6_letFall_63 ?_
        refine lv_iload_n hx hb dX6_letFall_64 rfl (lv_at hl 3 rfl) ?_
        refine lv_iconst (v := 2) hx hb dX6_letFall_65 (by decide) ?_
        refine lv_irem hx hb dX6_letFall_66 (by decide) ?_
        refine kn_top (x' := (nI (i_2 % 2))) (pk_rem (a := i_2) (d := 2) (by omega) (by omega) (by omega)) ?_
        refine lv_iadd hx hb dX6_letFall_67 ?_
        refine k_rV (v := .int (rg 6 (pl 10) ((2 * v1) + (nI (i_2 % 2))))) (As := [.int ((2 * v1) + (nI (i_2 % 2)))]) (rest := [.int (nI i_2), .ref (ad (66 + 13 * vn + 1))]) hx hb hml hown hts hl.1 hP hK hN (c_rg (f := (pl 10)) (n := 6) (wPo (p := 0) (by decide) 19 (by decide) (by decide)) (xPa (p := 0) (by decide) hpl 19 (by decide) (by decide) rfl rfl) (by decide) ((2 * v1) + (nI (i_2 % 2)))) eX6_90 (ci := 2) (q0 := 16 + 25 * 0 + 19) rfl rfl (wPo (p := 0) (by decide) 19 (by decide) (by decide)) rfl rfl (Nat.le_of_ble_eq_true rfl) ⟨Nat.le_of_ble_eq_true rfl, Nat.le_of_ble_eq_true rfl⟩ ⟨rfl, rfl⟩ ⟨Nat.le_of_ble_eq_true rfl, Nat.le_of_ble_eq_true rfl⟩ dX6_letFall_68 ?_
        refine lv_iload_n hx hb dX6_letFall_71 rfl (lv_at hl 0 rfl) ?_
        refine lv_iadd hx hb dX6_letFall_72 ?_
        refine k_wV (ws' := cws cI ad ML MS PL PS (va_up VL vn (va_up vl 1 (rs 16 vl1_2 (nI i_2) (rg 16 vl1_2 (nI i_2) + ((rg 6 (pl 10) ((2 * v1) + (nI (i_2 % 2)))) + (((rg 16 vl1_2 (nI i_2)) * (rg 3 (pl 11) v1)) / 10)))))) VS LL) (r := none) (As := [.int (nI i_2), .int ((rg 6 (pl 10) ((2 * v1) + (nI (i_2 % 2)))) + (((rg 16 vl1_2 (nI i_2)) * (rg 3 (pl 11) v1)) / 10))]) (rest := []) hx hb hml hown hts hl.1 hP hK hN hS (c_ri (f := vl1_2) (n := 16) (wVo (v := vn) hv 1 (by decide) (by decide)) (xVa (v := vn) hv va_sf 1 (by decide) (by decide) rfl va_sf) (by decide) (cwsD hI) (nI i_2) ((rg 6 (pl 10) ((2 * v1) + (nI (i_2 % 2)))) + (((rg 16 vl1_2 (nI i_2)) * (rg 3 (pl 11) v1)) / 10)) (yVl2 (v := vn) hv 1 (by decide) (by decide) (k := 1) rfl va_sf rfl (va_uu _ _ _ _) (va_uu _ _ _ _))) eX6_157 (ci := 2) (q0 := 66 + 13 * vn + 1) rfl rfl (wVo (v := vn) hv 1 (by decide) (by decide)) rfl rfl (Nat.le_of_ble_eq_true rfl) ⟨Nat.le_of_ble_eq_true rfl, Nat.le_of_ble_eq_true rfl⟩ ⟨rfl, rfl⟩ ⟨Nat.le_of_ble_eq_true rfl, Nat.le_of_ble_eq_true rfl⟩ dX6_letFall_73 (fun H locs hP hS => ?_)
        refine lv_iinc (v := (nI (i_2 + 1))) (lv' := [(2, .int (nI (i_2 + 1))), (3, .int (((rg 16 vl1_2 (nI i_2)) * (rg 3 (pl 11) v1)) / 10)), (0, .ref (ad (66 + 13 * vn))), (1, .int v1)]) hx hb dX6_letFall_76 hl (k := 3) rfl (nI_add _ _) (by decide) rfl (fun ls hl => ?_)
        refine lv_goto (tgt := 2) hx hb dX6_letFall_79 (by decide) ?_
        have hL_2 : (v_letFall_L2 vs pl ps v1 (n_2 + 1) i_2 vl1_2) = (v_letFall_L2 vs pl ps v1 n_2 (i_2 + 1) (rs 16 vl1_2 (nI i_2) (rg 16 vl1_2 (nI i_2) + ((rg 6 (pl 10) ((2 * v1) + (nI (i_2 % 2)))) + (((rg 16 vl1_2 (nI i_2)) * (rg 3 (pl 11) v1)) / 10))))) := by rw [v_letFall_L2.eq_2, if_neg c_5]
        try rw [hL_2] at hk_2
        exact ih_2 (i_2 + 1) (rs 16 vl1_2 (nI i_2) (rg 16 vl1_2 (nI i_2) + ((rg 6 (pl 10) ((2 * v1) + (nI (i_2 % 2)))) + (((rg 16 vl1_2 (nI i_2)) * (rg 3 (pl 11) v1)) / 10)))) (by omega) _ _ _ hP hS (lv_sub hl [2, 3, 0] rfl)  hk_2
  have hP : va_P (dC, dI) vwCl (cws cI ad ML MS PL PS (va_up VL vn (va_up vl 1 (vl 1))) VS LL) s.heap := (cws_cg rfl rfl rfl rfl (va_ad rfl (Eq.trans hvl (va_ad rfl rfl))) rfl hP)
  exact loop_2 ((2 * (ps 0)).toNatClampNeg) 0 (vl 1) (by omega) _ _ _ hP hS (lv_sub hl [1, 2, 0] rfl)  (fun H locs ls hP hS hl  => rest_2 (v_letFall_L2 vs pl ps v1 ((2 * (ps 0)).toNatClampNeg) 0 (vl 1)) _ _ _ hP hS hl  (by rw [v_letFall]))
-- X6_slide
def v_slide_k2 (vl1 : Nat → Int32) : (Nat → Int32) := vl1
def v_slide_L2 (pl : Nat → Nat → Int32) : Nat → Nat → (Nat → Int32) → (Nat → Int32)
  | 0, i, vl1 => vl1
  | n + 1, i, vl1 => v_slide_L2 pl n (i + 1) (rs 16 vl1 (nI i) (jmin (rg 16 vl1 (nI i)) (rg 8 (pl 3) (nI (i / 2)))))
def v_slide (vl : Nat → Nat → Int32) (pl : Nat → Nat → Int32) (ps : Nat → Int32) : (Nat → Int32) := v_slide_k2 (v_slide_L2 pl ((2 * (ps 0)).toNatClampNeg) 0 (vl 1))
set_option maxHeartbeats 4000000 in
set_option maxRecDepth 100000 in
theorem c_v_slide (hI : kInj ad 183) (hv : vn < 9) (hvl : VL vn = vl) (hvs : VS vn = vs) (hpl : PL 0 = pl) (hps : PS 0 = ps)  : Met l yX6_slide (.code yX6_slide cX6_slide 2 none :: kT) ({ frames := 1, cells := 0, slots := 0, locals := 22 } : Room) (va_Pc [.ref (ad (66 + 13 * vn))] (kB (dC, dI) [(cI, .int)] (cws cI ad ML MS PL PS VL VS LL))) (kQ none (kB (dC, dI) [(cI, .int)] (cws cI ad ML MS PL PS (va_up VL vn (va_up vl 1 (v_slide vl pl ps))) VS LL)) (kAA ad 183)) 0 0 (kAA ad 183) := by
  refine kMet (by decide) (fun p e s m args below meth c ls hx hb hr hml hts hown hlocks hname hargs hB hl => ?_) (Nat.le_of_ble_eq_true rfl)
  obtain ⟨hP, hK, hN⟩ := hB
  have hl : lv_has ls 2 [(0, .ref (ad (66 + 13 * vn)))] := hl
  have hS : va_S (kAA ad 183) s.heap s.heap [] := va_S.rf
  refine lv_iconst (v := 0) hx hb dX6_slide_0 (by decide) ?_
  refine lv_istore_n (lv' := [(1, .int 0), (0, .ref (ad (66 + 13 * vn)))]) hx hb dX6_slide_1 rfl hl (by decide) rfl (fun ls hl => ?_)
  have rest_2 : ∀ (vl1_2 : Nat → Int32), ∀ (H : Heap) (locs : List Loc) (ls : Array Slot), va_P (dC, dI) vwCl (cws cI ad ML MS PL PS (va_up VL vn (va_up vl 1 vl1_2)) VS LL) H → va_S (kAA ad 183) s.heap H locs → lv_has ls 2 [] → (v_slide vl pl ps) = v_slide_k2 vl1_2 → W p l e ({ frames := 1, cells := 0, slots := 0, locals := 22 } : Room) s m args below meth c H locs 0 0 (MQ below (kQ none (kB (dC, dI) [(cI, .int)] (cws cI ad ML MS PL PS (va_up VL vn (va_up vl 1 (v_slide vl pl ps))) VS LL)) (kAA ad 183)) args s 0 0 (kAA ad 183)) (F0 m 53 ls []) := by
    intro vl1_2 H locs ls hP hS hl  hF_2
    have hE : (v_slide vl pl ps) = vl1_2 := hF_2.trans (by rw [v_slide_k2])
    exact W.vret hx hb hr (fun t ht hW => ⟨rfl, by rw [hE]; exact kB.of (ws := cws cI ad ML MS PL PS (va_up VL vn (va_up vl 1 vl1_2)) VS LL) hP hK hN ht hW, hS.F ht⟩) hS.2.2 dX6_slide_53 hlocks
  have hN_2 : ((2 * (ps 0)).toNatClampNeg) < 2 ^ 31 := kcl_lt _
  have loop_2 : ∀ (n_2 i_2 : Nat) (vl1_2 : Nat → Int32), i_2 + n_2 = (2 * (ps 0)).toNatClampNeg → ∀ (H : Heap) (locs : List Loc) (ls : Array Slot), va_P (dC, dI) vwCl (cws cI ad ML MS PL PS (va_up VL vn (va_up vl 1 vl1_2)) VS LL) H → va_S (kAA ad 183) s.heap H locs → lv_has ls 2 [(0, .ref (ad (66 + 13 * vn))), (1, .int (nI i_2))] → (∀ (H : Heap) (locs : List Loc) (ls : Array Slot), va_P (dC, dI) vwCl (cws cI ad ML MS PL PS (va_up VL vn (va_up vl 1 (v_slide_L2 pl n_2 i_2 vl1_2))) VS LL) H → va_S (kAA ad 183) s.heap H locs → lv_has ls 2 [] → W p l e ({ frames := 1, cells := 0, slots := 0, locals := 22 } : Room) s m args below meth c H locs 0 0 (MQ below (kQ none (kB (dC, dI) [(cI, .int)] (cws cI ad ML MS PL PS (va_up VL vn (va_up vl 1 (v_slide vl pl ps))) VS LL)) (kAA ad 183)) args s 0 0 (kAA ad 183)) (F0 m 53 ls [])) → W p l e ({ frames := 1, cells := 0, slots := 0, locals := 22 } : Room) s m args below meth c H locs 0 0 (MQ below (kQ none (kB (dC, dI) [(cI, .int)] (cws cI ad ML MS PL PS (va_up VL vn (va_up vl 1 (v_slide vl pl ps))) VS LL)) (kAA ad 183)) args s 0 0 (kAA ad 183)) (F0 m 2 ls []) := by
    intro n_2
    induction n_2 with
    | zero =>
      intro i_2 vl1_2 hin_2 H locs ls hP hS hl  hk_2
      refine lv_iload_n hx hb dX6_slide_2 rfl (lv_at hl 1 rfl) ?_
      refine lv_iconst (v := 2) hx hb dX6_slide_3 (by decide) ?_
      refine lv_aload_n hx hb dX6_slide_4 rfl (lv_at hl 0 rfl) ?_
      refine k_get (q0 := 66 + 13 * vn) (ci := 5) (v := .ref (ad 16)) hx hb hts inT_X6 hown hK hP (xV (v := vn) hv hvs) rfl 0 (by decide) rfl kX6_51 rfl dX6_slide_5 ?_
      refine k_getN (q0 := 16 + 25 * 0) (ci := 0) (v := .int (ps 0)) hx hb hts hN inT_X0 hown hK hP (xP (p := 0) (by decide) hps) rfl 0 (by decide) rfl kX6_69 rfl dX6_slide_8 ?_
      refine lv_imul hx hb dX6_slide_11 ?_
      refine lv_icmp_ge (tgt := 53) hx hb dX6_slide_12 (by decide) (fun _ => ?_) (fun c_2 => absurd (kct_ge (N := (2 * (ps 0)).toNatClampNeg) rfl (by omega) (by omega)) c_2)
      have hL_2 : (v_slide_L2 pl 0 i_2 vl1_2) = vl1_2 := by rw [v_slide_L2.eq_1]
      try rw [hL_2] at hk_2
      exact hk_2 _ _ _ hP hS (lv_sub hl [] rfl) 
    | succ n_2 ih_2 =>
      intro i_2 vl1_2 hin_2 H locs ls hP hS hl  hk_2
      refine lv_iload_n hx hb dX6_slide_2 rfl (lv_at hl 1 rfl) ?_
      refine lv_iconst (v := 2) hx hb dX6_slide_3 (by decide) ?_
      refine lv_aload_n hx hb dX6_slide_4 rfl (lv_at hl 0 rfl) ?_
      refine k_get (q0 := 66 + 13 * vn) (ci := 5) (v := .ref (ad 16)) hx hb hts inT_X6 hown hK hP (xV (v := vn) hv hvs) rfl 0 (by decide) rfl kX6_51 rfl dX6_slide_5 ?_
      refine k_getN (q0 := 16 + 25 * 0) (ci := 0) (v := .int (ps 0)) hx hb hts hN inT_X0 hown hK hP (xP (p := 0) (by decide) hps) rfl 0 (by decide) rfl kX6_69 rfl dX6_slide_8 ?_
      refine lv_imul hx hb dX6_slide_11 ?_
      refine lv_icmp_ge (tgt := 53) hx hb dX6_slide_12 (by decide) (fun c_3 => absurd c_3 (kct_lt (N := (2 * (ps 0)).toNatClampNeg) rfl (by omega))) (fun _ => ?_)
      refine lv_aload_n hx hb dX6_slide_15 rfl (lv_at hl 0 rfl) ?_
      refine k_get (q0 := 66 + 13 * vn) (ci := 5) (v := .ref (ad (66 + 13 * vn + 1))) hx hb hts inT_X6 hown hK hP (xV (v := vn) hv hvs) rfl 1 (by decide) rfl kX6_14 rfl dX6_slide_16 ?_
      refine lv_iload_n hx hb dX6_slide_19 rfl (lv_at hl 1 rfl) ?_
      refine lv_aload_n hx hb dX6_slide_20 rfl (lv_at hl 0 rfl) ?_
      refine k_get (q0 := 66 + 13 * vn) (ci := 5) (v := .ref (ad (66 + 13 * vn + 1))) hx hb hts inT_X6 hown hK hP (xV (v := vn) hv hvs) rfl 1 (by decide) rfl kX6_14 rfl dX6_slide_21 ?_
      refine lv_iload_n hx hb dX6_slide_24 rfl (lv_at hl 1 rfl) ?_
      refine k_rV (v := .int (rg 16 vl1_2 (nI i_2))) (As := [.int (nI i_2)]) (rest := [.int (nI i_2), .ref (ad (66 + 13 * vn + 1))]) hx hb hml hown hts hl.1 hP hK hN (c_rg (f := vl1_2) (n := 16) (wVo (v := vn) hv 1 (by decide) (by decide)) (xVa (v := vn) hv va_sf 1 (by decide) (by decide) rfl va_sf) (by decide) (nI i_2)) eX6_90 (ci := 2) (q0 := 66 + 13 * vn + 1) rfl rfl (wVo (v := vn) hv 1 (by decide) (by decide)) rfl rfl (Nat.le_of_ble_eq_true rfl) ⟨Nat.le_of_ble_eq_true rfl, Nat.le_of_ble_eq_true rfl⟩ ⟨rfl, rfl⟩ ⟨Nat.le_of_ble_eq_true rfl, Nat.le_of_ble_eq_true rfl⟩ dX6_slide_25 ?_
      refine lv_aload_n hx hb dX6_slide_28 rfl (lv_at hl 0 rfl) ?_
      refine k_get (q0 := 66 + 13 * vn) (ci := 5) (v := .ref (ad 16)) hx hb hts inT_X6 hown hK hP (xV (v := vn) hv hvs) rfl 0 (by decide) rfl kX6_51 rfl dX6_slide_29 ?_
      refine k_getN (q0 := 16 + 25 * 0) (ci := 0) (v := .ref (ad (16 + 25 * 0 + 5))) hx hb hts hN inT_X0 hown hK hP (xP (p := 0) (by decide) hps) rfl 3 (by decide) rfl kX6_173 rfl dX6_slide_32 ?_
      refine lv_iload_n hx hb dX6_slide_35 rfl (lv_at hl 1 rfl) ?_
      refine lv_iconst (v := 2) hx hb dX6_slide_36 (by decide) ?_
      refine lv_idiv hx hb dX6_slide_37 (by decide) ?_
      refine kn_top (x' := (nI (i_2 / 2))) (pk_div (a := i_2) (d := 2) (by omega) (by omega) (by omega)) ?_
      refine k_rV (v := .int (rg 8 (pl 3) (nI (i_2 / 2)))) (As := [.int (nI (i_2 / 2))]) (rest := [.int (rg 16 vl1_2 (nI i_2)), .int (nI i_2), .ref (ad (66 + 13 * vn + 1))]) hx hb hml hown hts hl.1 hP hK hN (c_rg (f := (pl 3)) (n := 8) (wPo (p := 0) (by decide) 5 (by decide) (by decide)) (xPa (p := 0) (by decide) hpl 5 (by decide) (by decide) rfl rfl) (by decide) (nI (i_2 / 2))) eX6_90 (ci := 2) (q0 := 16 + 25 * 0 + 5) rfl rfl (wPo (p := 0) (by decide) 5 (by decide) (by decide)) rfl rfl (Nat.le_of_ble_eq_true rfl) ⟨Nat.le_of_ble_eq_true rfl, Nat.le_of_ble_eq_true rfl⟩ ⟨rfl, rfl⟩ ⟨Nat.le_of_ble_eq_true rfl, Nat.le_of_ble_eq_true rfl⟩ dX6_slide_38 ?_
      refine k_mmin (rest := [.int (nI i_2), .ref (ad (66 + 13 * vn + 1))]) hx hb hml hown hts hl.1 eX6_154 (Nat.le_of_ble_eq_true rfl) (Nat.le_of_ble_eq_true rfl) (Nat.le_of_ble_eq_true rfl) (Nat.le_of_ble_eq_true rfl) dX6_slide_41 ?_
      refine k_wV (ws' := cws cI ad ML MS PL PS (va_up VL vn (va_up vl 1 (rs 16 vl1_2 (nI i_2) (jmin (rg 16 vl1_2 (nI i_2)) (rg 8 (pl 3) (nI (i_2 / 2))))))) VS LL) (r := none) (As := [.int (nI i_2), .int (jmin (rg 16 vl1_2 (nI i_2)) (rg 8 (pl 3) (nI (i_2 / 2))))]) (rest := []) hx hb hml hown hts hl.1 hP hK hN hS (c_rs (f := vl1_2) (n := 16) (wVo (v := vn) hv 1 (by decide) (by decide)) (xVa (v := vn) hv va_sf 1 (by decide) (by decide) rfl va_sf) (by decide) (cwsD hI) (nI i_2) (jmin (rg 16 vl1_2 (nI i_2)) (rg 8 (pl 3) (nI (i_2 / 2)))) (yVl2 (v := vn) hv 1 (by decide) (by decide) (k := 1) rfl va_sf rfl (va_uu _ _ _ _) (va_uu _ _ _ _))) eX6_79 (ci := 2) (q0 := 66 + 13 * vn + 1) rfl rfl (wVo (v := vn) hv 1 (by decide) (by decide)) rfl rfl (Nat.le_of_ble_eq_true rfl) ⟨Nat.le_of_ble_eq_true rfl, Nat.le_of_ble_eq_true rfl⟩ ⟨rfl, rfl⟩ ⟨Nat.le_of_ble_eq_true rfl, Nat.le_of_ble_eq_true rfl⟩ dX6_slide_44 (fun H locs hP hS => ?_)
      refine lv_iinc (v := (nI (i_2 + 1))) (lv' := [(1, .int (nI (i_2 + 1))), (0, .ref (ad (66 + 13 * vn)))]) hx hb dX6_slide_47 hl (k := 1) rfl (nI_add _ _) (by decide) rfl (fun ls hl => ?_)
      refine lv_goto (tgt := 2) hx hb dX6_slide_50 (by decide) ?_
      have hL_2 : (v_slide_L2 pl (n_2 + 1) i_2 vl1_2) = (v_slide_L2 pl n_2 (i_2 + 1) (rs 16 vl1_2 (nI i_2) (jmin (rg 16 vl1_2 (nI i_2)) (rg 8 (pl 3) (nI (i_2 / 2)))))) := by rw [v_slide_L2.eq_2]
      try rw [hL_2] at hk_2
      exact ih_2 (i_2 + 1) (rs 16 vl1_2 (nI i_2) (jmin (rg 16 vl1_2 (nI i_2)) (rg 8 (pl 3) (nI (i_2 / 2))))) (by omega) _ _ _ hP hS (lv_sub hl [1, 0] rfl)  hk_2
  have hP : va_P (dC, dI) vwCl (cws cI ad ML MS PL PS (va_up VL vn (va_up vl 1 (vl 1))) VS LL) s.heap := (cws_cg rfl rfl rfl rfl (va_ad rfl (Eq.trans hvl (va_ad rfl rfl))) rfl hP)
  exact loop_2 ((2 * (ps 0)).toNatClampNeg) 0 (vl 1) (by omega) _ _ _ hP hS (lv_sub hl [1, 0] rfl)  (fun H locs ls hP hS hl  => rest_2 (v_slide_L2 pl ((2 * (ps 0)).toNatClampNeg) 0 (vl 1)) _ _ _ hP hS hl  (by rw [v_slide]))
-- X6_bringPropsNearer
def v_bringPropsNearer_k2 (vl5 : Nat → Int32) : (Nat → Int32) := vl5
def v_bringPropsNearer_L2  : Nat → Nat → (Nat → Int32) → (Nat → Int32)
  | 0, i, vl5 => vl5
  | n + 1, i, vl5 => v_bringPropsNearer_L2 n (i + 1) (rs 24 vl5 (nI i) (jmax ((rg 24 vl5 (nI i)) - 1) 0))
def v_bringPropsNearer (vl : Nat → Nat → Int32) : (Nat → Int32) := v_bringPropsNearer_k2 (v_bringPropsNearer_L2 24 0 (vl 5))
set_option maxHeartbeats 4000000 in
set_option maxRecDepth 100000 in
theorem c_v_bringPropsNearer (hI : kInj ad 183) (hv : vn < 9) (hvl : VL vn = vl) (hvs : VS vn = vs) (hpl : PL 0 = pl) (hps : PS 0 = ps)  : Met l yX6_bringPropsNearer (.code yX6_bringPropsNearer cX6_bringPropsNearer 2 none :: kT) ({ frames := 1, cells := 0, slots := 0, locals := 22 } : Room) (va_Pc [.ref (ad (66 + 13 * vn))] (kB (dC, dI) [(cI, .int)] (cws cI ad ML MS PL PS VL VS LL))) (kQ none (kB (dC, dI) [(cI, .int)] (cws cI ad ML MS PL PS (va_up VL vn (va_up vl 5 (v_bringPropsNearer vl))) VS LL)) (kAA ad 183)) 0 0 (kAA ad 183) := by
  refine kMet (by decide) (fun p e s m args below meth c ls hx hb hr hml hts hown hlocks hname hargs hB hl => ?_) (Nat.le_of_ble_eq_true rfl)
  obtain ⟨hP, hK, hN⟩ := hB
  have hl : lv_has ls 2 [(0, .ref (ad (66 + 13 * vn)))] := hl
  have hS : va_S (kAA ad 183) s.heap s.heap [] := va_S.rf
  refine lv_iconst (v := 0) hx hb dX6_bringPropsNearer_0 (by decide) ?_
  refine lv_istore_n (lv' := [(1, .int 0), (0, .ref (ad (66 + 13 * vn)))]) hx hb dX6_bringPropsNearer_1 rfl hl (by decide) rfl (fun ls hl => ?_)
  have rest_2 : ∀ (vl5_2 : Nat → Int32), ∀ (H : Heap) (locs : List Loc) (ls : Array Slot), va_P (dC, dI) vwCl (cws cI ad ML MS PL PS (va_up VL vn (va_up vl 5 vl5_2)) VS LL) H → va_S (kAA ad 183) s.heap H locs → lv_has ls 2 [] → (v_bringPropsNearer vl) = v_bringPropsNearer_k2 vl5_2 → W p l e ({ frames := 1, cells := 0, slots := 0, locals := 22 } : Room) s m args below meth c H locs 0 0 (MQ below (kQ none (kB (dC, dI) [(cI, .int)] (cws cI ad ML MS PL PS (va_up VL vn (va_up vl 5 (v_bringPropsNearer vl))) VS LL)) (kAA ad 183)) args s 0 0 (kAA ad 183)) (F0 m 36 ls []) := by
    intro vl5_2 H locs ls hP hS hl  hF_2
    have hE : (v_bringPropsNearer vl) = vl5_2 := hF_2.trans (by rw [v_bringPropsNearer_k2])
    exact W.vret hx hb hr (fun t ht hW => ⟨rfl, by rw [hE]; exact kB.of (ws := cws cI ad ML MS PL PS (va_up VL vn (va_up vl 5 vl5_2)) VS LL) hP hK hN ht hW, hS.F ht⟩) hS.2.2 dX6_bringPropsNearer_36 hlocks
  have loop_2 : ∀ (n_2 i_2 : Nat) (vl5_2 : Nat → Int32), i_2 + n_2 = 24 → ∀ (H : Heap) (locs : List Loc) (ls : Array Slot), va_P (dC, dI) vwCl (cws cI ad ML MS PL PS (va_up VL vn (va_up vl 5 vl5_2)) VS LL) H → va_S (kAA ad 183) s.heap H locs → lv_has ls 2 [(0, .ref (ad (66 + 13 * vn))), (1, .int (nI i_2))] → (∀ (H : Heap) (locs : List Loc) (ls : Array Slot), va_P (dC, dI) vwCl (cws cI ad ML MS PL PS (va_up VL vn (va_up vl 5 (v_bringPropsNearer_L2 n_2 i_2 vl5_2))) VS LL) H → va_S (kAA ad 183) s.heap H locs → lv_has ls 2 [] → W p l e ({ frames := 1, cells := 0, slots := 0, locals := 22 } : Room) s m args below meth c H locs 0 0 (MQ below (kQ none (kB (dC, dI) [(cI, .int)] (cws cI ad ML MS PL PS (va_up VL vn (va_up vl 5 (v_bringPropsNearer vl))) VS LL)) (kAA ad 183)) args s 0 0 (kAA ad 183)) (F0 m 36 ls [])) → W p l e ({ frames := 1, cells := 0, slots := 0, locals := 22 } : Room) s m args below meth c H locs 0 0 (MQ below (kQ none (kB (dC, dI) [(cI, .int)] (cws cI ad ML MS PL PS (va_up VL vn (va_up vl 5 (v_bringPropsNearer vl))) VS LL)) (kAA ad 183)) args s 0 0 (kAA ad 183)) (F0 m 2 ls []) := by
    intro n_2
    induction n_2 with
    | zero =>
      intro i_2 vl5_2 hin_2 H locs ls hP hS hl  hk_2
      refine lv_iload_n hx hb dX6_bringPropsNearer_2 rfl (lv_at hl 1 rfl) ?_
      refine lv_bipush (v := 24) hx hb dX6_bringPropsNearer_3 (by decide) ?_
      refine lv_icmp_ge (tgt := 36) hx hb dX6_bringPropsNearer_5 (by decide) (fun _ => ?_) (fun c_2 => absurd (kct_ge (N := 24) rfl (by omega) (by omega)) c_2)
      have hL_2 : (v_bringPropsNearer_L2 0 i_2 vl5_2) = vl5_2 := by rw [v_bringPropsNearer_L2.eq_1]
      try rw [hL_2] at hk_2
      exact hk_2 _ _ _ hP hS (lv_sub hl [] rfl) 
    | succ n_2 ih_2 =>
      intro i_2 vl5_2 hin_2 H locs ls hP hS hl  hk_2
      refine lv_iload_n hx hb dX6_bringPropsNearer_2 rfl (lv_at hl 1 rfl) ?_
      refine lv_bipush (v := 24) hx hb dX6_bringPropsNearer_3 (by decide) ?_
      refine lv_icmp_ge (tgt := 36) hx hb dX6_bringPropsNearer_5 (by decide) (fun c_3 => absurd c_3 (kct_lt (N := 24) rfl (by omega))) (fun _ => ?_)
      refine lv_aload_n hx hb dX6_bringPropsNearer_8 rfl (lv_at hl 0 rfl) ?_
      refine k_get (q0 := 66 + 13 * vn) (ci := 5) (v := .ref (ad (66 + 13 * vn + 9))) hx hb hts inT_X6 hown hK hP (xV (v := vn) hv hvs) rfl 5 (by decide) rfl kX6_29 rfl dX6_bringPropsNearer_9 ?_
      refine lv_iload_n hx hb dX6_bringPropsNearer_12 rfl (lv_at hl 1 rfl) ?_
      refine lv_aload_n hx hb dX6_bringPropsNearer_13 rfl (lv_at hl 0 rfl) ?_
      refine k_get (q0 := 66 + 13 * vn) (ci := 5) (v := .ref (ad (66 + 13 * vn + 9))) hx hb hts inT_X6 hown hK hP (xV (v := vn) hv hvs) rfl 5 (by decide) rfl kX6_29 rfl dX6_bringPropsNearer_14 ?_
      refine lv_iload_n hx hb dX6_bringPropsNearer_17 rfl (lv_at hl 1 rfl) ?_
      refine k_rV (v := .int (rg 24 vl5_2 (nI i_2))) (As := [.int (nI i_2)]) (rest := [.int (nI i_2), .ref (ad (66 + 13 * vn + 9))]) hx hb hml hown hts hl.1 hP hK hN (c_rg (f := vl5_2) (n := 24) (wVo (v := vn) hv 9 (by decide) (by decide)) (xVa (v := vn) hv va_sf 9 (by decide) (by decide) rfl va_sf) (by decide) (nI i_2)) eX6_90 (ci := 2) (q0 := 66 + 13 * vn + 9) rfl rfl (wVo (v := vn) hv 9 (by decide) (by decide)) rfl rfl (Nat.le_of_ble_eq_true rfl) ⟨Nat.le_of_ble_eq_true rfl, Nat.le_of_ble_eq_true rfl⟩ ⟨rfl, rfl⟩ ⟨Nat.le_of_ble_eq_true rfl, Nat.le_of_ble_eq_true rfl⟩ dX6_bringPropsNearer_18 ?_
      refine lv_iconst (v := 1) hx hb dX6_bringPropsNearer_21 (by decide) ?_
      refine lv_isub hx hb dX6_bringPropsNearer_22 ?_
      refine lv_iconst (v := 0) hx hb dX6_bringPropsNearer_23 (by decide) ?_
      refine k_mmax (rest := [.int (nI i_2), .ref (ad (66 + 13 * vn + 9))]) hx hb hml hown hts hl.1 eX6_148 (Nat.le_of_ble_eq_true rfl) (Nat.le_of_ble_eq_true rfl) (Nat.le_of_ble_eq_true rfl) (Nat.le_of_ble_eq_true rfl) dX6_bringPropsNearer_24 ?_
      refine k_wV (ws' := cws cI ad ML MS PL PS (va_up VL vn (va_up vl 5 (rs 24 vl5_2 (nI i_2) (jmax ((rg 24 vl5_2 (nI i_2)) - 1) 0)))) VS LL) (r := none) (As := [.int (nI i_2), .int (jmax ((rg 24 vl5_2 (nI i_2)) - 1) 0)]) (rest := []) hx hb hml hown hts hl.1 hP hK hN hS (c_rs (f := vl5_2) (n := 24) (wVo (v := vn) hv 9 (by decide) (by decide)) (xVa (v := vn) hv va_sf 9 (by decide) (by decide) rfl va_sf) (by decide) (cwsD hI) (nI i_2) (jmax ((rg 24 vl5_2 (nI i_2)) - 1) 0) (yVl2 (v := vn) hv 9 (by decide) (by decide) (k := 5) rfl va_sf rfl (va_uu _ _ _ _) (va_uu _ _ _ _))) eX6_79 (ci := 2) (q0 := 66 + 13 * vn + 9) rfl rfl (wVo (v := vn) hv 9 (by decide) (by decide)) rfl rfl (Nat.le_of_ble_eq_true rfl) ⟨Nat.le_of_ble_eq_true rfl, Nat.le_of_ble_eq_true rfl⟩ ⟨rfl, rfl⟩ ⟨Nat.le_of_ble_eq_true rfl, Nat.le_of_ble_eq_true rfl⟩ dX6_bringPropsNearer_27 (fun H locs hP hS => ?_)
      refine lv_iinc (v := (nI (i_2 + 1))) (lv' := [(1, .int (nI (i_2 + 1))), (0, .ref (ad (66 + 13 * vn)))]) hx hb dX6_bringPropsNearer_30 hl (k := 1) rfl (nI_add _ _) (by decide) rfl (fun ls hl => ?_)
      refine lv_goto (tgt := 2) hx hb dX6_bringPropsNearer_33 (by decide) ?_
      have hL_2 : (v_bringPropsNearer_L2 (n_2 + 1) i_2 vl5_2) = (v_bringPropsNearer_L2 n_2 (i_2 + 1) (rs 24 vl5_2 (nI i_2) (jmax ((rg 24 vl5_2 (nI i_2)) - 1) 0))) := by rw [v_bringPropsNearer_L2.eq_2]
      try rw [hL_2] at hk_2
      exact ih_2 (i_2 + 1) (rs 24 vl5_2 (nI i_2) (jmax ((rg 24 vl5_2 (nI i_2)) - 1) 0)) (by omega) _ _ _ hP hS (lv_sub hl [1, 0] rfl)  hk_2
  have hP : va_P (dC, dI) vwCl (cws cI ad ML MS PL PS (va_up VL vn (va_up vl 5 (vl 5))) VS LL) s.heap := (cws_cg rfl rfl rfl rfl (va_ad rfl (Eq.trans hvl (va_ad rfl rfl))) rfl hP)
  exact loop_2 24 0 (vl 5) (by omega) _ _ _ hP hS (lv_sub hl [1, 0] rfl)  (fun H locs ls hP hS hl  => rest_2 (v_bringPropsNearer_L2 24 0 (vl 5)) _ _ _ hP hS hl  (by rw [v_bringPropsNearer]))
-- X6_addProp
def v_addProp (vl : Nat → Nat → Int32) (ps : Nat → Int32) (v1 : Int32) : (Nat → Int32) × (Nat → Int32) := if 3 ≤ (rg 8 (vl 4) v1) then ((vl 4), (vl 5)) else ((rs 8 (vl 4) v1 ((rg 8 (vl 4) v1) + 1)), (rs 24 (vl 5) ((v1 * 3) + (rg 8 (vl 4) v1)) (ps 18)))
set_option maxHeartbeats 4000000 in
set_option maxRecDepth 100000 in
theorem c_v_addProp (hI : kInj ad 183) (hv : vn < 9) (hvl : VL vn = vl) (hvs : VS vn = vs) (hpl : PL 0 = pl) (hps : PS 0 = ps) (v1 : Int32) : Met l yX6_addProp (.code yX6_addProp cX6_addProp 3 none :: kT) ({ frames := 1, cells := 0, slots := 0, locals := 22 } : Room) (va_Pc [.ref (ad (66 + 13 * vn)), .int v1] (kB (dC, dI) [(cI, .int)] (cws cI ad ML MS PL PS VL VS LL))) (kQ none (kB (dC, dI) [(cI, .int)] (cws cI ad ML MS PL PS (va_up VL vn (va_up (va_up vl 4 ((v_addProp vl ps v1).1)) 5 ((v_addProp vl ps v1).2))) VS LL)) (kAA ad 183)) 0 0 (kAA ad 183) := by
  refine kMet (by decide) (fun p e s m args below meth c ls hx hb hr hml hts hown hlocks hname hargs hB hl => ?_) (Nat.le_of_ble_eq_true rfl)
  obtain ⟨hP, hK, hN⟩ := hB
  have hl : lv_has ls 3 [(0, .ref (ad (66 + 13 * vn))), (1, .int v1)] := hl
  have hS : va_S (kAA ad 183) s.heap s.heap [] := va_S.rf
  refine lv_aload_n hx hb dX6_addProp_0 rfl (lv_at hl 0 rfl) ?_
  refine k_get (q0 := 66 + 13 * vn) (ci := 5) (v := .ref (ad (66 + 13 * vn + 7))) hx hb hts inT_X6 hown hK hP (xV (v := vn) hv hvs) rfl 4 (by decide) rfl kX6_26 rfl dX6_addProp_1 ?_
  refine lv_iload_n hx hb dX6_addProp_4 rfl (lv_at hl 1 rfl) ?_
  refine k_rV (v := .int (rg 8 (vl 4) v1)) (As := [.int v1]) (rest := []) hx hb hml hown hts hl.1 hP hK hN (c_rg (f := (vl 4)) (n := 8) (wVo (v := vn) hv 7 (by decide) (by decide)) (xVa (v := vn) hv hvl 7 (by decide) (by decide) rfl rfl) (by decide) v1) eX6_90 (ci := 2) (q0 := 66 + 13 * vn + 7) rfl rfl (wVo (v := vn) hv 7 (by decide) (by decide)) rfl rfl (Nat.le_of_ble_eq_true rfl) ⟨Nat.le_of_ble_eq_true rfl, Nat.le_of_ble_eq_true rfl⟩ ⟨rfl, rfl⟩ ⟨Nat.le_of_ble_eq_true rfl, Nat.le_of_ble_eq_true rfl⟩ dX6_addProp_5 ?_
  refine lv_istore_n (lv' := [(2, .int (rg 8 (vl 4) v1)), (0, .ref (ad (66 + 13 * vn))), (1, .int v1)]) hx hb dX6_addProp_8 rfl hl (by decide) rfl (fun ls hl => ?_)
  refine lv_iload_n hx hb dX6_addProp_9 rfl (lv_at hl 0 rfl) ?_
  refine lv_iconst (v := 3) hx hb dX6_addProp_10 (by decide) ?_
  refine lv_icmp_ge (tgt := 44) hx hb dX6_addProp_11 (by decide) (fun c_2 => ?_) (fun c_2 => ?_)
  · have hE : (v_addProp vl ps v1) = ((vl 4), (vl 5)) := by rw [v_addProp, if_pos c_2]
    exact W.vret hx hb hr (fun t ht hW => ⟨rfl, by rw [hE]; exact kB.of (ws := cws cI ad ML MS PL PS (va_up VL vn (va_up (va_up vl 4 (vl 4)) 5 (vl 5))) VS LL) (cws_cg rfl rfl rfl rfl (va_ad rfl (Eq.trans hvl (va_ad (va_ad rfl rfl) (va_ne1 (by decide) rfl)))) rfl hP) hK hN ht hW, hS.F ht⟩) hS.2.2 dX6_addProp_44 hlocks
  · refine lv_aload_n hx hb dX6_addProp_14 rfl (lv_at hl 1 rfl) ?_
    refine k_get (q0 := 66 + 13 * vn) (ci := 5) (v := .ref (ad (66 + 13 * vn + 9))) hx hb hts inT_X6 hown hK hP (xV (v := vn) hv hvs) rfl 5 (by decide) rfl kX6_29 rfl dX6_addProp_15 ?_
    refine lv_iload_n hx hb dX6_addProp_18 rfl (lv_at hl 2 rfl) ?_
    refine lv_iconst (v := 3) hx hb dX6_addProp_19 (by decide) ?_
    refine lv_imul hx hb dX6_addProp_20 ?_
    refine lv_iload_n hx hb dX6_addProp_21 rfl (lv_at hl 0 rfl) ?_
    refine lv_iadd hx hb dX6_addProp_22 ?_
    refine lv_aload_n hx hb dX6_addProp_23 rfl (lv_at hl 1 rfl) ?_
    refine k_get (q0 := 66 + 13 * vn) (ci := 5) (v := .ref (ad 16)) hx hb hts inT_X6 hown hK hP (xV (v := vn) hv hvs) rfl 0 (by decide) rfl kX6_51 rfl dX6_addProp_24 ?_
    refine k_getN (q0 := 16 + 25 * 0) (ci := 0) (v := .int (ps 18)) hx hb hts hN inT_X0 hown hK hP (xP (p := 0) (by decide) hps) rfl 18 (by decide) rfl kX6_176 rfl dX6_addProp_27 ?_
    refine k_wV (ws' := cws cI ad ML MS PL PS (va_up VL vn (va_up vl 5 (rs 24 (vl 5) ((v1 * 3) + (rg 8 (vl 4) v1)) (ps 18)))) VS LL) (r := none) (As := [.int ((v1 * 3) + (rg 8 (vl 4) v1)), .int (ps 18)]) (rest := []) hx hb hml hown hts hl.1 hP hK hN hS (c_rs (f := (vl 5)) (n := 24) (wVo (v := vn) hv 9 (by decide) (by decide)) (xVa (v := vn) hv hvl 9 (by decide) (by decide) rfl rfl) (by decide) (cwsD hI) ((v1 * 3) + (rg 8 (vl 4) v1)) (ps 18) (yVl2 (v := vn) hv 9 (by decide) (by decide) (k := 5) rfl hvl rfl rfl rfl)) eX6_79 (ci := 2) (q0 := 66 + 13 * vn + 9) rfl rfl (wVo (v := vn) hv 9 (by decide) (by decide)) rfl rfl (Nat.le_of_ble_eq_true rfl) ⟨Nat.le_of_ble_eq_true rfl, Nat.le_of_ble_eq_true rfl⟩ ⟨rfl, rfl⟩ ⟨Nat.le_of_ble_eq_true rfl, Nat.le_of_ble_eq_true rfl⟩ dX6_addProp_30 (fun H locs hP hS => ?_)
    refine lv_aload_n hx hb dX6_addProp_33 rfl (lv_at hl 1 rfl) ?_
    refine k_get (q0 := 66 + 13 * vn) (ci := 5) (v := .ref (ad (66 + 13 * vn + 7))) hx hb hts inT_X6 hown hK hP (xV (v := vn) hv hvs) rfl 4 (by decide) rfl kX6_26 rfl dX6_addProp_34 ?_
    refine lv_iload_n hx hb dX6_addProp_37 rfl (lv_at hl 2 rfl) ?_
    refine lv_iload_n hx hb dX6_addProp_38 rfl (lv_at hl 0 rfl) ?_
    refine lv_iconst (v := 1) hx hb dX6_addProp_39 (by decide) ?_
    refine lv_iadd hx hb dX6_addProp_40 ?_
    refine k_wV (ws' := cws cI ad ML MS PL PS (va_up VL vn (va_up (va_up vl 4 (rs 8 (vl 4) v1 ((rg 8 (vl 4) v1) + 1))) 5 (rs 24 (vl 5) ((v1 * 3) + (rg 8 (vl 4) v1)) (ps 18)))) VS LL) (r := none) (As := [.int v1, .int ((rg 8 (vl 4) v1) + 1)]) (rest := []) hx hb hml hown hts hl.1 hP hK hN hS (c_rs (f := (vl 4)) (n := 8) (wVo (v := vn) hv 7 (by decide) (by decide)) (xVa (v := vn) hv va_sf 7 (by decide) (by decide) rfl (va_ne1 (by decide) rfl)) (by decide) (cwsD hI) v1 ((rg 8 (vl 4) v1) + 1) (yVl2 (v := vn) hv 7 (by decide) (by decide) (k := 4) rfl va_sf rfl (va_dn (by decide) rfl) (va_uu _ _ _ _))) eX6_79 (ci := 2) (q0 := 66 + 13 * vn + 7) rfl rfl (wVo (v := vn) hv 7 (by decide) (by decide)) rfl rfl (Nat.le_of_ble_eq_true rfl) ⟨Nat.le_of_ble_eq_true rfl, Nat.le_of_ble_eq_true rfl⟩ ⟨rfl, rfl⟩ ⟨Nat.le_of_ble_eq_true rfl, Nat.le_of_ble_eq_true rfl⟩ dX6_addProp_41 (fun H locs hP hS => ?_)
    have hE : (v_addProp vl ps v1) = ((rs 8 (vl 4) v1 ((rg 8 (vl 4) v1) + 1)), (rs 24 (vl 5) ((v1 * 3) + (rg 8 (vl 4) v1)) (ps 18))) := by rw [v_addProp, if_neg c_2]
    exact W.vret hx hb hr (fun t ht hW => ⟨rfl, by rw [hE]; exact kB.of (ws := cws cI ad ML MS PL PS (va_up VL vn (va_up (va_up vl 4 (rs 8 (vl 4) v1 ((rg 8 (vl 4) v1) + 1))) 5 (rs 24 (vl 5) ((v1 * 3) + (rg 8 (vl 4) v1)) (ps 18)))) VS LL) hP hK hN ht hW, hS.F ht⟩) hS.2.2 dX6_addProp_44 hlocks
-- X6_feel
def v_feel (vl : Nat → Nat → Int32) (pl : Nat → Nat → Int32) (ps : Nat → Int32) (v1 : Int32) : Int32 × (Nat → Int32) × (Nat → Int32) := if (p_tenthsOf pl v1 (v_staysFrom vl pl v1 (v_load vl pl ps v1))) = 0 then (0, (vl 2), (vl 3)) else (1, (rs 8 (vl 2) v1 (v_staysFrom vl pl v1 (v_load vl pl ps v1))), (rs 8 (vl 3) v1 (jmax (rg 8 (vl 3) v1) (v_pressWith (va_up vl 2 (rs 8 (vl 2) v1 (v_staysFrom vl pl v1 (v_load vl pl ps v1)))) pl v1 0 0))))
set_option maxHeartbeats 4000000 in
set_option maxRecDepth 100000 in
theorem c_v_feel (hI : kInj ad 183) (hv : vn < 9) (hvl : VL vn = vl) (hvs : VS vn = vs) (hpl : PL 0 = pl) (hps : PS 0 = ps) (v1 : Int32) : Met l yX6_feel (.code yX6_feel cX6_feel 3 (some .boolean) :: kT) ({ frames := 3, cells := 0, slots := 0, locals := 67 } : Room) (va_Pc [.ref (ad (66 + 13 * vn)), .int v1] (kB (dC, dI) [(cI, .int)] (cws cI ad ML MS PL PS VL VS LL))) (kQ (some (.int ((v_feel vl pl ps v1).1))) (kB (dC, dI) [(cI, .int)] (cws cI ad ML MS PL PS (va_up VL vn (va_up (va_up vl 2 ((v_feel vl pl ps v1).2.1)) 3 ((v_feel vl pl ps v1).2.2))) VS LL)) (kAA ad 183)) 0 0 (kAA ad 183) := by
  refine kMet (by decide) (fun p e s m args below meth c ls hx hb hr hml hts hown hlocks hname hargs hB hl => ?_) (Nat.le_of_ble_eq_true rfl)
  obtain ⟨hP, hK, hN⟩ := hB
  have hl : lv_has ls 3 [(0, .ref (ad (66 + 13 * vn))), (1, .int v1)] := hl
  have hS : va_S (kAA ad 183) s.heap s.heap [] := va_S.rf
  refine lv_aload_n hx hb dX6_feel_0 rfl (lv_at hl 0 rfl) ?_
  refine lv_iload_n hx hb dX6_feel_1 rfl (lv_at hl 1 rfl) ?_
  refine lv_aload_n hx hb dX6_feel_2 rfl (lv_at hl 0 rfl) ?_
  refine lv_iload_n hx hb dX6_feel_3 rfl (lv_at hl 1 rfl) ?_
  refine k_rV (v := .int (v_load vl pl ps v1)) (As := [.int v1]) (rest := [.int v1, .ref (ad (66 + 13 * vn))]) hx hb hml hown hts hl.1 hP hK hN (c_v_load hI hv hvl hvs hpl hps v1) eX6_145 (ci := 5) (q0 := 66 + 13 * vn) rfl rfl (xV (v := vn) hv hvs) rfl rfl (Nat.le_of_ble_eq_true rfl) ⟨Nat.le_of_ble_eq_true rfl, Nat.le_of_ble_eq_true rfl⟩ ⟨rfl, rfl⟩ ⟨Nat.le_of_ble_eq_true rfl, Nat.le_of_ble_eq_true rfl⟩ dX6_feel_4 ?_
  refine k_rV (v := .int (v_staysFrom vl pl v1 (v_load vl pl ps v1))) (As := [.int v1, .int (v_load vl pl ps v1)]) (rest := []) hx hb hml hown hts hl.1 hP hK hN (c_v_staysFrom hI hv hvl hvs hpl hps v1 (v_load vl pl ps v1)) eX6_185 (ci := 5) (q0 := 66 + 13 * vn) rfl rfl (xV (v := vn) hv hvs) rfl rfl (Nat.le_of_ble_eq_true rfl) ⟨Nat.le_of_ble_eq_true rfl, Nat.le_of_ble_eq_true rfl⟩ ⟨rfl, rfl⟩ ⟨Nat.le_of_ble_eq_true rfl, Nat.le_of_ble_eq_true rfl⟩ dX6_feel_7 ?_
  refine lv_istore_n (lv' := [(2, .int (v_staysFrom vl pl v1 (v_load vl pl ps v1))), (0, .ref (ad (66 + 13 * vn))), (1, .int v1)]) hx hb dX6_feel_10 rfl hl (by decide) rfl (fun ls hl => ?_)
  refine lv_aload_n hx hb dX6_feel_11 rfl (lv_at hl 1 rfl) ?_
  refine k_get (q0 := 66 + 13 * vn) (ci := 5) (v := .ref (ad 16)) hx hb hts inT_X6 hown hK hP (xV (v := vn) hv hvs) rfl 0 (by decide) rfl kX6_51 rfl dX6_feel_12 ?_
  refine lv_iload_n hx hb dX6_feel_15 rfl (lv_at hl 2 rfl) ?_
  refine lv_iload_n hx hb dX6_feel_16 rfl (lv_at hl 0 rfl) ?_
  refine k_rV (v := .int (p_tenthsOf pl v1 (v_staysFrom vl pl v1 (v_load vl pl ps v1)))) (As := [.int v1, .int (v_staysFrom vl pl v1 (v_load vl pl ps v1))]) (rest := []) hx hb hml hown hts hl.1 hP hK hN (c_p_tenthsOf (pn := 0) (VL := VL) (VS := VS) (PL := PL) (PS := PS) (pl := pl) (ps := ps) hI (by decide) hpl hps v1 (v_staysFrom vl pl v1 (v_load vl pl ps v1))) eX6_111 (ci := 0) (q0 := 16 + 25 * 0) rfl rfl (xP (p := 0) (by decide) hps) rfl rfl (Nat.le_of_ble_eq_true rfl) ⟨Nat.le_of_ble_eq_true rfl, Nat.le_of_ble_eq_true rfl⟩ ⟨rfl, rfl⟩ ⟨Nat.le_of_ble_eq_true rfl, Nat.le_of_ble_eq_true rfl⟩ dX6_feel_17 ?_
  refine lv_if_ne (tgt := 25) hx hb dX6_feel_20 (by decide) (fun c_2 => ?_) (fun c_2 => ?_)
  · refine lv_aload_n hx hb dX6_feel_25 rfl (lv_at hl 1 rfl) ?_
    refine k_get (q0 := 66 + 13 * vn) (ci := 5) (v := .ref (ad (66 + 13 * vn + 3))) hx hb hts inT_X6 hown hK hP (xV (v := vn) hv hvs) rfl 2 (by decide) rfl kX6_20 rfl dX6_feel_26 ?_
    refine lv_iload_n hx hb dX6_feel_29 rfl (lv_at hl 2 rfl) ?_
    refine lv_iload_n hx hb dX6_feel_30 rfl (lv_at hl 0 rfl) ?_
    refine k_wV (ws' := cws cI ad ML MS PL PS (va_up VL vn (va_up vl 2 (rs 8 (vl 2) v1 (v_staysFrom vl pl v1 (v_load vl pl ps v1))))) VS LL) (r := none) (As := [.int v1, .int (v_staysFrom vl pl v1 (v_load vl pl ps v1))]) (rest := []) hx hb hml hown hts hl.1 hP hK hN hS (c_rs (f := (vl 2)) (n := 8) (wVo (v := vn) hv 3 (by decide) (by decide)) (xVa (v := vn) hv hvl 3 (by decide) (by decide) rfl rfl) (by decide) (cwsD hI) v1 (v_staysFrom vl pl v1 (v_load vl pl ps v1)) (yVl2 (v := vn) hv 3 (by decide) (by decide) (k := 2) rfl hvl rfl rfl rfl)) eX6_79 (ci := 2) (q0 := 66 + 13 * vn + 3) rfl rfl (wVo (v := vn) hv 3 (by decide) (by decide)) rfl rfl (Nat.le_of_ble_eq_true rfl) ⟨Nat.le_of_ble_eq_true rfl, Nat.le_of_ble_eq_true rfl⟩ ⟨rfl, rfl⟩ ⟨Nat.le_of_ble_eq_true rfl, Nat.le_of_ble_eq_true rfl⟩ dX6_feel_31 (fun H locs hP hS => ?_)
    refine lv_aload_n hx hb dX6_feel_34 rfl (lv_at hl 1 rfl) ?_
    refine k_get (q0 := 66 + 13 * vn) (ci := 5) (v := .ref (ad (66 + 13 * vn + 5))) hx hb hts inT_X6 hown hK hP (xV (v := vn) hv hvs) rfl 3 (by decide) rfl kX6_23 rfl dX6_feel_35 ?_
    refine lv_iload_n hx hb dX6_feel_38 rfl (lv_at hl 2 rfl) ?_
    refine lv_aload_n hx hb dX6_feel_39 rfl (lv_at hl 1 rfl) ?_
    refine k_get (q0 := 66 + 13 * vn) (ci := 5) (v := .ref (ad (66 + 13 * vn + 5))) hx hb hts inT_X6 hown hK hP (xV (v := vn) hv hvs) rfl 3 (by decide) rfl kX6_23 rfl dX6_feel_40 ?_
    refine lv_iload_n hx hb dX6_feel_43 rfl (lv_at hl 2 rfl) ?_
    refine k_rV (v := .int (rg 8 (vl 3) v1)) (As := [.int v1]) (rest := [.int v1, .ref (ad (66 + 13 * vn + 5))]) hx hb hml hown hts hl.1 hP hK hN (c_rg (f := (vl 3)) (n := 8) (wVo (v := vn) hv 5 (by decide) (by decide)) (xVa (v := vn) hv va_sf 5 (by decide) (by decide) rfl (va_ne1 (by decide) rfl)) (by decide) v1) eX6_90 (ci := 2) (q0 := 66 + 13 * vn + 5) rfl rfl (wVo (v := vn) hv 5 (by decide) (by decide)) rfl rfl (Nat.le_of_ble_eq_true rfl) ⟨Nat.le_of_ble_eq_true rfl, Nat.le_of_ble_eq_true rfl⟩ ⟨rfl, rfl⟩ ⟨Nat.le_of_ble_eq_true rfl, Nat.le_of_ble_eq_true rfl⟩ dX6_feel_44 ?_
    refine lv_aload_n hx hb dX6_feel_47 rfl (lv_at hl 1 rfl) ?_
    refine lv_iload_n hx hb dX6_feel_48 rfl (lv_at hl 2 rfl) ?_
    refine lv_iconst (v := 0) hx hb dX6_feel_49 (by decide) ?_
    refine lv_iconst (v := 0) hx hb dX6_feel_50 (by decide) ?_
    refine k_rV (v := .int (v_pressWith (va_up vl 2 (rs 8 (vl 2) v1 (v_staysFrom vl pl v1 (v_load vl pl ps v1)))) pl v1 0 0)) (As := [.int v1, .int 0, .int 0]) (rest := [.int (rg 8 (vl 3) v1), .int v1, .ref (ad (66 + 13 * vn + 5))]) hx hb hml hown hts hl.1 hP hK hN (c_v_pressWith (VL := (va_up VL vn (va_up vl 2 (rs 8 (vl 2) v1 (v_staysFrom vl pl v1 (v_load vl pl ps v1)))))) (vl := (va_up vl 2 (rs 8 (vl 2) v1 (v_staysFrom vl pl v1 (v_load vl pl ps v1))))) (vs := vs) hI hv va_sf hvs hpl hps v1 0 0) eX6_104 (ci := 5) (q0 := 66 + 13 * vn) rfl rfl (xV (v := vn) hv hvs) rfl rfl (Nat.le_of_ble_eq_true rfl) ⟨Nat.le_of_ble_eq_true rfl, Nat.le_of_ble_eq_true rfl⟩ ⟨rfl, rfl⟩ ⟨Nat.le_of_ble_eq_true rfl, Nat.le_of_ble_eq_true rfl⟩ dX6_feel_51 ?_
    refine k_mmax (rest := [.int v1, .ref (ad (66 + 13 * vn + 5))]) hx hb hml hown hts hl.1 eX6_148 (Nat.le_of_ble_eq_true rfl) (Nat.le_of_ble_eq_true rfl) (Nat.le_of_ble_eq_true rfl) (Nat.le_of_ble_eq_true rfl) dX6_feel_54 ?_
    refine k_wV (ws' := cws cI ad ML MS PL PS (va_up VL vn (va_up (va_up vl 2 (rs 8 (vl 2) v1 (v_staysFrom vl pl v1 (v_load vl pl ps v1)))) 3 (rs 8 (vl 3) v1 (jmax (rg 8 (vl 3) v1) (v_pressWith (va_up vl 2 (rs 8 (vl 2) v1 (v_staysFrom vl pl v1 (v_load vl pl ps v1)))) pl v1 0 0))))) VS LL) (r := none) (As := [.int v1, .int (jmax (rg 8 (vl 3) v1) (v_pressWith (va_up vl 2 (rs 8 (vl 2) v1 (v_staysFrom vl pl v1 (v_load vl pl ps v1)))) pl v1 0 0))]) (rest := []) hx hb hml hown hts hl.1 hP hK hN hS (c_rs (f := (vl 3)) (n := 8) (wVo (v := vn) hv 5 (by decide) (by decide)) (xVa (v := vn) hv va_sf 5 (by decide) (by decide) rfl (va_ne1 (by decide) rfl)) (by decide) (cwsD hI) v1 (jmax (rg 8 (vl 3) v1) (v_pressWith (va_up vl 2 (rs 8 (vl 2) v1 (v_staysFrom vl pl v1 (v_load vl pl ps v1)))) pl v1 0 0)) (yVl2 (v := vn) hv 5 (by decide) (by decide) (k := 3) rfl va_sf rfl rfl (va_uu _ _ _ _))) eX6_79 (ci := 2) (q0 := 66 + 13 * vn + 5) rfl rfl (wVo (v := vn) hv 5 (by decide) (by decide)) rfl rfl (Nat.le_of_ble_eq_true rfl) ⟨Nat.le_of_ble_eq_true rfl, Nat.le_of_ble_eq_true rfl⟩ ⟨rfl, rfl⟩ ⟨Nat.le_of_ble_eq_true rfl, Nat.le_of_ble_eq_true rfl⟩ dX6_feel_57 (fun H locs hP hS => ?_)
    refine lv_iconst (v := 1) hx hb dX6_feel_60 (by decide) ?_
    have hE : (v_feel vl pl ps v1) = (1, (rs 8 (vl 2) v1 (v_staysFrom vl pl v1 (v_load vl pl ps v1))), (rs 8 (vl 3) v1 (jmax (rg 8 (vl 3) v1) (v_pressWith (va_up vl 2 (rs 8 (vl 2) v1 (v_staysFrom vl pl v1 (v_load vl pl ps v1)))) pl v1 0 0)))) := by rw [v_feel, if_neg c_2]
    exact W.zret (v := 1) hx hb hr rfl (fun t ht hW => ⟨by rw [hE], by rw [hE]; exact kB.of (ws := cws cI ad ML MS PL PS (va_up VL vn (va_up (va_up vl 2 (rs 8 (vl 2) v1 (v_staysFrom vl pl v1 (v_load vl pl ps v1)))) 3 (rs 8 (vl 3) v1 (jmax (rg 8 (vl 3) v1) (v_pressWith (va_up vl 2 (rs 8 (vl 2) v1 (v_staysFrom vl pl v1 (v_load vl pl ps v1)))) pl v1 0 0))))) VS LL) hP hK hN ht hW, hS.F ht⟩) hS.2.2 dX6_feel_61 hlocks
  · refine lv_iconst (v := 0) hx hb dX6_feel_23 (by decide) ?_
    have hE : (v_feel vl pl ps v1) = (0, (vl 2), (vl 3)) := by rw [v_feel, if_pos c_2]
    exact W.zret (v := 0) hx hb hr rfl (fun t ht hW => ⟨by rw [hE], by rw [hE]; exact kB.of (ws := cws cI ad ML MS PL PS (va_up VL vn (va_up (va_up vl 2 (vl 2)) 3 (vl 3))) VS LL) (cws_cg rfl rfl rfl rfl (va_ad rfl (Eq.trans hvl (va_ad (va_ad rfl rfl) (va_ne1 (by decide) rfl)))) rfl hP) hK hN ht hW, hS.F ht⟩) hS.2.2 dX6_feel_24 hlocks
-- X6_feelAll
def v_feelAll_k4 (vl1 : Nat → Int32) (vl2 : Nat → Int32) (vl3 : Nat → Int32) (vs8 : Int32) (v1 : Int32) : Int32 × (Nat → Int32) × (Nat → Int32) × (Nat → Int32) × Int32 := (v1, vl1, vl2, vl3, vs8)
def v_feelAll_L4 (vl : Nat → Nat → Int32) (vs : Nat → Int32) (pl : Nat → Nat → Int32) (ps : Nat → Int32) : Nat → Nat → Int32 → (Nat → Int32) → (Nat → Int32) → (Nat → Int32) → Int32 → Int32 × (Nat → Int32) × (Nat → Int32) × (Nat → Int32) × Int32
  | 0, i, v1, vl1, vl2, vl3, vs8 => (v1, vl1, vl2, vl3, vs8)
  | n + 1, i, v1, vl1, vl2, vl3, vs8 => if (v_stands (va_up vs 8 vs8) ps (nI i)) = 0 then v_feelAll_L4 vl vs pl ps n (i + 1) v1 vl1 vl2 vl3 vs8 else (if ((v_feel (va_up (va_up (va_up vl 1 vl1) 2 vl2) 3 vl3) pl ps (nI i)).1) = 0 then v_feelAll_L4 vl vs pl ps n (i + 1) (v1 ||| (1 <<< ((nI i) &&& 31))) ((v_drop (va_up (va_up (va_up vl 1 vl1) 2 ((v_feel (va_up (va_up (va_up vl 1 vl1) 2 vl2) 3 vl3) pl ps (nI i)).2.1)) 3 ((v_feel (va_up (va_up (va_up vl 1 vl1) 2 vl2) 3 vl3) pl ps (nI i)).2.2)) (va_up vs 8 vs8) (nI i)).1) ((v_feel (va_up (va_up (va_up vl 1 vl1) 2 vl2) 3 vl3) pl ps (nI i)).2.1) ((v_feel (va_up (va_up (va_up vl 1 vl1) 2 vl2) 3 vl3) pl ps (nI i)).2.2) ((v_drop (va_up (va_up (va_up vl 1 vl1) 2 ((v_feel (va_up (va_up (va_up vl 1 vl1) 2 vl2) 3 vl3) pl ps (nI i)).2.1)) 3 ((v_feel (va_up (va_up (va_up vl 1 vl1) 2 vl2) 3 vl3) pl ps (nI i)).2.2)) (va_up vs 8 vs8) (nI i)).2) else v_feelAll_L4 vl vs pl ps n (i + 1) v1 vl1 ((v_feel (va_up (va_up (va_up vl 1 vl1) 2 vl2) 3 vl3) pl ps (nI i)).2.1) ((v_feel (va_up (va_up (va_up vl 1 vl1) 2 vl2) 3 vl3) pl ps (nI i)).2.2) vs8)
def v_feelAll (vl : Nat → Nat → Int32) (vs : Nat → Int32) (pl : Nat → Nat → Int32) (ps : Nat → Int32) : Int32 × (Nat → Int32) × (Nat → Int32) × (Nat → Int32) × Int32 := v_feelAll_k4 (v_feelAll_L4 vl vs pl ps ((ps 0).toNatClampNeg) 0 0 (vl 1) (vl 2) (vl 3) (vs 8)).2.1 (v_feelAll_L4 vl vs pl ps ((ps 0).toNatClampNeg) 0 0 (vl 1) (vl 2) (vl 3) (vs 8)).2.2.1 (v_feelAll_L4 vl vs pl ps ((ps 0).toNatClampNeg) 0 0 (vl 1) (vl 2) (vl 3) (vs 8)).2.2.2.1 (v_feelAll_L4 vl vs pl ps ((ps 0).toNatClampNeg) 0 0 (vl 1) (vl 2) (vl 3) (vs 8)).2.2.2.2 (v_feelAll_L4 vl vs pl ps ((ps 0).toNatClampNeg) 0 0 (vl 1) (vl 2) (vl 3) (vs 8)).1
set_option maxHeartbeats 4000000 in
set_option maxRecDepth 100000 in
theorem c_v_feelAll (hI : kInj ad 183) (hv : vn < 9) (hvl : VL vn = vl) (hvs : VS vn = vs) (hpl : PL 0 = pl) (hps : PS 0 = ps)  : Met l yX6_feelAll (.code yX6_feelAll cX6_feelAll 3 (some .int) :: kT) ({ frames := 4, cells := 0, slots := 0, locals := 89 } : Room) (va_Pc [.ref (ad (66 + 13 * vn))] (kB (dC, dI) [(cI, .int)] (cws cI ad ML MS PL PS VL VS LL))) (kQ (some (.int ((v_feelAll vl vs pl ps).1))) (kB (dC, dI) [(cI, .int)] (cws cI ad ML MS PL PS (va_up VL vn (va_up (va_up (va_up vl 1 ((v_feelAll vl vs pl ps).2.1)) 2 ((v_feelAll vl vs pl ps).2.2.1)) 3 ((v_feelAll vl vs pl ps).2.2.2.1))) (va_up VS vn (va_up vs 8 ((v_feelAll vl vs pl ps).2.2.2.2))) LL)) (kAA ad 183)) 0 0 (kAA ad 183) := by
  refine kMet (by decide) (fun p e s m args below meth c ls hx hb hr hml hts hown hlocks hname hargs hB hl => ?_) (Nat.le_of_ble_eq_true rfl)
  obtain ⟨hP, hK, hN⟩ := hB
  have hl : lv_has ls 3 [(0, .ref (ad (66 + 13 * vn)))] := hl
  have hS : va_S (kAA ad 183) s.heap s.heap [] := va_S.rf
  refine lv_iconst (v := 0) hx hb dX6_feelAll_0 (by decide) ?_
  refine lv_istore_n (lv' := [(1, .int 0), (0, .ref (ad (66 + 13 * vn)))]) hx hb dX6_feelAll_1 rfl hl (by decide) rfl (fun ls hl => ?_)
  refine lv_iconst (v := 0) hx hb dX6_feelAll_2 (by decide) ?_
  refine lv_istore_n (lv' := [(2, .int 0), (1, .int 0), (0, .ref (ad (66 + 13 * vn)))]) hx hb dX6_feelAll_3 rfl hl (by decide) rfl (fun ls hl => ?_)
  have rest_4 : ∀ (x1_4 : Int32) (vl1_4 : Nat → Int32) (vl2_4 : Nat → Int32) (vl3_4 : Nat → Int32) (vs8_4 : Int32), ∀ (H : Heap) (locs : List Loc) (ls : Array Slot), va_P (dC, dI) vwCl (cws cI ad ML MS PL PS (va_up VL vn (va_up (va_up (va_up vl 1 vl1_4) 2 vl2_4) 3 vl3_4)) (va_up VS vn (va_up vs 8 vs8_4)) LL) H → va_S (kAA ad 183) s.heap H locs → lv_has ls 3 [(1, .int x1_4)] → (v_feelAll vl vs pl ps) = v_feelAll_k4 vl1_4 vl2_4 vl3_4 vs8_4 x1_4 → W p l e ({ frames := 4, cells := 0, slots := 0, locals := 89 } : Room) s m args below meth c H locs 0 0 (MQ below (kQ (some (.int ((v_feelAll vl vs pl ps).1))) (kB (dC, dI) [(cI, .int)] (cws cI ad ML MS PL PS (va_up VL vn (va_up (va_up (va_up vl 1 ((v_feelAll vl vs pl ps).2.1)) 2 ((v_feelAll vl vs pl ps).2.2.1)) 3 ((v_feelAll vl vs pl ps).2.2.2.1))) (va_up VS vn (va_up vs 8 ((v_feelAll vl vs pl ps).2.2.2.2))) LL)) (kAA ad 183)) args s 0 0 (kAA ad 183)) (F0 m 48 ls []) := by
    intro x1_4 vl1_4 vl2_4 vl3_4 vs8_4 H locs ls hP hS hl  hF_4
    refine lv_iload_n hx hb dX6_feelAll_48 rfl (lv_at hl 0 rfl) ?_
    have hE : (v_feelAll vl vs pl ps) = (x1_4, vl1_4, vl2_4, vl3_4, vs8_4) := hF_4.trans (by rw [v_feelAll_k4])
    exact W.iret (v := x1_4) hx hb hr (fun t ht hW => ⟨by rw [hE], by rw [hE]; exact kB.of (ws := cws cI ad ML MS PL PS (va_up VL vn (va_up (va_up (va_up vl 1 vl1_4) 2 vl2_4) 3 vl3_4)) (va_up VS vn (va_up vs 8 vs8_4)) LL) hP hK hN ht hW, hS.F ht⟩) hS.2.2 dX6_feelAll_49 hlocks
  have hN_4 : ((ps 0).toNatClampNeg) < 2 ^ 31 := kcl_lt _
  have loop_4 : ∀ (n_4 i_4 : Nat) (x1_4 : Int32) (vl1_4 : Nat → Int32) (vl2_4 : Nat → Int32) (vl3_4 : Nat → Int32) (vs8_4 : Int32), i_4 + n_4 = (ps 0).toNatClampNeg → ∀ (H : Heap) (locs : List Loc) (ls : Array Slot), va_P (dC, dI) vwCl (cws cI ad ML MS PL PS (va_up VL vn (va_up (va_up (va_up vl 1 vl1_4) 2 vl2_4) 3 vl3_4)) (va_up VS vn (va_up vs 8 vs8_4)) LL) H → va_S (kAA ad 183) s.heap H locs → lv_has ls 3 [(0, .ref (ad (66 + 13 * vn))), (1, .int x1_4), (2, .int (nI i_4))] → (∀ (H : Heap) (locs : List Loc) (ls : Array Slot), va_P (dC, dI) vwCl (cws cI ad ML MS PL PS (va_up VL vn (va_up (va_up (va_up vl 1 ((v_feelAll_L4 vl vs pl ps n_4 i_4 x1_4 vl1_4 vl2_4 vl3_4 vs8_4).2.1)) 2 ((v_feelAll_L4 vl vs pl ps n_4 i_4 x1_4 vl1_4 vl2_4 vl3_4 vs8_4).2.2.1)) 3 ((v_feelAll_L4 vl vs pl ps n_4 i_4 x1_4 vl1_4 vl2_4 vl3_4 vs8_4).2.2.2.1))) (va_up VS vn (va_up vs 8 ((v_feelAll_L4 vl vs pl ps n_4 i_4 x1_4 vl1_4 vl2_4 vl3_4 vs8_4).2.2.2.2))) LL) H → va_S (kAA ad 183) s.heap H locs → lv_has ls 3 [(1, .int ((v_feelAll_L4 vl vs pl ps n_4 i_4 x1_4 vl1_4 vl2_4 vl3_4 vs8_4).1))] → W p l e ({ frames := 4, cells := 0, slots := 0, locals := 89 } : Room) s m args below meth c H locs 0 0 (MQ below (kQ (some (.int ((v_feelAll vl vs pl ps).1))) (kB (dC, dI) [(cI, .int)] (cws cI ad ML MS PL PS (va_up VL vn (va_up (va_up (va_up vl 1 ((v_feelAll vl vs pl ps).2.1)) 2 ((v_feelAll vl vs pl ps).2.2.1)) 3 ((v_feelAll vl vs pl ps).2.2.2.1))) (va_up VS vn (va_up vs 8 ((v_feelAll vl vs pl ps).2.2.2.2))) LL)) (kAA ad 183)) args s 0 0 (kAA ad 183)) (F0 m 48 ls [])) → W p l e ({ frames := 4, cells := 0, slots := 0, locals := 89 } : Room) s m args below meth c H locs 0 0 (MQ below (kQ (some (.int ((v_feelAll vl vs pl ps).1))) (kB (dC, dI) [(cI, .int)] (cws cI ad ML MS PL PS (va_up VL vn (va_up (va_up (va_up vl 1 ((v_feelAll vl vs pl ps).2.1)) 2 ((v_feelAll vl vs pl ps).2.2.1)) 3 ((v_feelAll vl vs pl ps).2.2.2.1))) (va_up VS vn (va_up vs 8 ((v_feelAll vl vs pl ps).2.2.2.2))) LL)) (kAA ad 183)) args s 0 0 (kAA ad 183)) (F0 m 4 ls []) := by
    intro n_4
    induction n_4 with
    | zero =>
      intro i_4 x1_4 vl1_4 vl2_4 vl3_4 vs8_4 hin_4 H locs ls hP hS hl  hk_4
      refine lv_iload_n hx hb dX6_feelAll_4 rfl (lv_at hl 2 rfl) ?_
      refine lv_aload_n hx hb dX6_feelAll_5 rfl (lv_at hl 0 rfl) ?_
      refine k_get (q0 := 66 + 13 * vn) (ci := 5) (v := .ref (ad 16)) hx hb hts inT_X6 hown hK hP (xV (v := vn) hv va_sf) rfl 0 (by decide) rfl kX6_51 rfl dX6_feelAll_6 ?_
      refine k_getN (q0 := 16 + 25 * 0) (ci := 0) (v := .int (ps 0)) hx hb hts hN inT_X0 hown hK hP (xP (p := 0) (by decide) hps) rfl 0 (by decide) rfl kX6_69 rfl dX6_feelAll_9 ?_
      refine lv_icmp_ge (tgt := 48) hx hb dX6_feelAll_12 (by decide) (fun _ => ?_) (fun c_4 => absurd (kct_ge (N := (ps 0).toNatClampNeg) rfl (by omega) (by omega)) c_4)
      have hL_4 : (v_feelAll_L4 vl vs pl ps 0 i_4 x1_4 vl1_4 vl2_4 vl3_4 vs8_4) = (x1_4, vl1_4, vl2_4, vl3_4, vs8_4) := by rw [v_feelAll_L4.eq_1]
      try rw [hL_4] at hk_4
      exact hk_4 _ _ _ hP hS (lv_sub hl [1] rfl) 
    | succ n_4 ih_4 =>
      intro i_4 x1_4 vl1_4 vl2_4 vl3_4 vs8_4 hin_4 H locs ls hP hS hl  hk_4
      refine lv_iload_n hx hb dX6_feelAll_4 rfl (lv_at hl 2 rfl) ?_
      refine lv_aload_n hx hb dX6_feelAll_5 rfl (lv_at hl 0 rfl) ?_
      refine k_get (q0 := 66 + 13 * vn) (ci := 5) (v := .ref (ad 16)) hx hb hts inT_X6 hown hK hP (xV (v := vn) hv va_sf) rfl 0 (by decide) rfl kX6_51 rfl dX6_feelAll_6 ?_
      refine k_getN (q0 := 16 + 25 * 0) (ci := 0) (v := .int (ps 0)) hx hb hts hN inT_X0 hown hK hP (xP (p := 0) (by decide) hps) rfl 0 (by decide) rfl kX6_69 rfl dX6_feelAll_9 ?_
      refine lv_icmp_ge (tgt := 48) hx hb dX6_feelAll_12 (by decide) (fun c_5 => absurd c_5 (kct_lt (N := (ps 0).toNatClampNeg) rfl (by omega))) (fun _ => ?_)
      refine lv_aload_n hx hb dX6_feelAll_15 rfl (lv_at hl 0 rfl) ?_
      refine lv_iload_n hx hb dX6_feelAll_16 rfl (lv_at hl 2 rfl) ?_
      refine k_rV (v := .int (v_stands (va_up vs 8 vs8_4) ps (nI i_4))) (As := [.int (nI i_4)]) (rest := []) hx hb hml hown hts hl.1 hP hK hN (c_v_stands (VL := (va_up VL vn (va_up (va_up (va_up vl 1 vl1_4) 2 vl2_4) 3 vl3_4))) (VS := (va_up VS vn (va_up vs 8 vs8_4))) (vl := (va_up (va_up (va_up vl 1 vl1_4) 2 vl2_4) 3 vl3_4)) (vs := (va_up vs 8 vs8_4)) hI hv va_sf va_sf hpl hps (nI i_4)) eX6_163 (ci := 5) (q0 := 66 + 13 * vn) rfl rfl (xV (v := vn) hv va_sf) rfl rfl (Nat.le_of_ble_eq_true rfl) ⟨Nat.le_of_ble_eq_true rfl, Nat.le_of_ble_eq_true rfl⟩ ⟨rfl, rfl⟩ ⟨Nat.le_of_ble_eq_true rfl, Nat.le_of_ble_eq_true rfl⟩ dX6_feelAll_17 ?_
      refine lv_if_eq (tgt := 42) hx hb dX6_feelAll_20 (by decide) (fun c_6 => ?_) (fun c_6 => ?_)
      · refine lv_iinc (v := (nI (i_4 + 1))) (lv' := [(2, .int (nI (i_4 + 1))), (0, .ref (ad (66 + 13 * vn))), (1, .int x1_4)]) hx hb dX6_feelAll_42 hl (k := 2) rfl (nI_add _ _) (by decide) rfl (fun ls hl => ?_)
        refine lv_goto (tgt := 4) hx hb dX6_feelAll_45 (by decide) ?_
        have hL_4 : (v_feelAll_L4 vl vs pl ps (n_4 + 1) i_4 x1_4 vl1_4 vl2_4 vl3_4 vs8_4) = (v_feelAll_L4 vl vs pl ps n_4 (i_4 + 1) x1_4 vl1_4 vl2_4 vl3_4 vs8_4) := by rw [v_feelAll_L4.eq_2, if_pos c_6]
        try rw [hL_4] at hk_4
        exact ih_4 (i_4 + 1) x1_4 vl1_4 vl2_4 vl3_4 vs8_4 (by omega) _ _ _ hP hS (lv_sub hl [1, 2, 0] rfl)  hk_4
      · refine lv_aload_n hx hb dX6_feelAll_23 rfl (lv_at hl 0 rfl) ?_
        refine lv_iload_n hx hb dX6_feelAll_24 rfl (lv_at hl 2 rfl) ?_
        refine k_wV (r := (some (.int ((v_feel (va_up (va_up (va_up vl 1 vl1_4) 2 vl2_4) 3 vl3_4) pl ps (nI i_4)).1)))) (As := [.int (nI i_4)]) (rest := []) hx hb hml hown hts hl.1 hP hK hN hS (c_v_feel (VL := (va_up VL vn (va_up (va_up (va_up vl 1 vl1_4) 2 vl2_4) 3 vl3_4))) (VS := (va_up VS vn (va_up vs 8 vs8_4))) (vl := (va_up (va_up (va_up vl 1 vl1_4) 2 vl2_4) 3 vl3_4)) (vs := (va_up vs 8 vs8_4)) hI hv va_sf va_sf hpl hps (nI i_4)) eX6_179 (ci := 5) (q0 := 66 + 13 * vn) rfl rfl (xV (v := vn) hv va_sf) rfl rfl (Nat.le_of_ble_eq_true rfl) ⟨Nat.le_of_ble_eq_true rfl, Nat.le_of_ble_eq_true rfl⟩ ⟨rfl, rfl⟩ ⟨Nat.le_of_ble_eq_true rfl, Nat.le_of_ble_eq_true rfl⟩ dX6_feelAll_25 (fun H locs hP hS => ?_)
        obtain ⟨r_7, hr_7⟩ : ∃ z, z = (v_feel (va_up (va_up (va_up vl 1 vl1_4) 2 vl2_4) 3 vl3_4) pl ps (nI i_4)) := ⟨_, rfl⟩
        rw [← hr_7] at hP
        rw [← hr_7]
        have hP : va_P (dC, dI) vwCl (cws cI ad ML MS PL PS (va_up VL vn (va_up (va_up (va_up vl 1 vl1_4) 2 r_7.2.1) 3 r_7.2.2)) (va_up VS vn (va_up vs 8 vs8_4)) LL) H := (cws_cg rfl rfl rfl rfl (va_trf rfl (va_tr (va_dn (by decide) (va_uu _ _ _ _)) (va_uu _ _ _ _)) (va_uu _ _ _ _)) rfl hP)
        refine lv_if_ne (tgt := 42) hx hb dX6_feelAll_28 (by decide) (fun c_8 => ?_) (fun c_8 => ?_)
        · refine lv_iinc (v := (nI (i_4 + 1))) (lv' := [(2, .int (nI (i_4 + 1))), (0, .ref (ad (66 + 13 * vn))), (1, .int x1_4)]) hx hb dX6_feelAll_42 hl (k := 2) rfl (nI_add _ _) (by decide) rfl (fun ls hl => ?_)
          refine lv_goto (tgt := 4) hx hb dX6_feelAll_45 (by decide) ?_
          have hL_4 : (v_feelAll_L4 vl vs pl ps (n_4 + 1) i_4 x1_4 vl1_4 vl2_4 vl3_4 vs8_4) = (v_feelAll_L4 vl vs pl ps n_4 (i_4 + 1) x1_4 vl1_4 r_7.2.1 r_7.2.2 vs8_4) := by subst hr_7; rw [v_feelAll_L4.eq_2, if_neg c_6, if_neg c_8]
          try rw [hL_4] at hk_4
          exact ih_4 (i_4 + 1) x1_4 vl1_4 r_7.2.1 r_7.2.2 vs8_4 (by omega) _ _ _ hP hS (lv_sub hl [1, 2, 0] rfl)  hk_4
        · refine lv_aload_n hx hb dX6_feelAll_31 rfl (lv_at hl 0 rfl) ?_
          refine lv_iload_n hx hb dX6_feelAll_32 rfl (lv_at hl 2 rfl) ?_
          refine k_wV (r := none) (As := [.int (nI i_4)]) (rest := []) hx hb hml hown hts hl.1 hP hK hN hS (c_v_drop (VL := (va_up VL vn (va_up (va_up (va_up vl 1 vl1_4) 2 r_7.2.1) 3 r_7.2.2))) (VS := (va_up VS vn (va_up vs 8 vs8_4))) (vl := (va_up (va_up (va_up vl 1 vl1_4) 2 r_7.2.1) 3 r_7.2.2)) (vs := (va_up vs 8 vs8_4)) hI hv va_sf va_sf hpl hps (nI i_4)) eX6_182 (ci := 5) (q0 := 66 + 13 * vn) rfl rfl (xV (v := vn) hv va_sf) rfl rfl (Nat.le_of_ble_eq_true rfl) ⟨Nat.le_of_ble_eq_true rfl, Nat.le_of_ble_eq_true rfl⟩ ⟨rfl, rfl⟩ ⟨Nat.le_of_ble_eq_true rfl, Nat.le_of_ble_eq_true rfl⟩ dX6_feelAll_33 (fun H locs hP hS => ?_)
          obtain ⟨r_9, hr_9⟩ : ∃ z, z = (v_drop (va_up (va_up (va_up vl 1 vl1_4) 2 r_7.2.1) 3 r_7.2.2) (va_up vs 8 vs8_4) (nI i_4)) := ⟨_, rfl⟩
          rw [← hr_9] at hP
          have hP : va_P (dC, dI) vwCl (cws cI ad ML MS PL PS (va_up VL vn (va_up (va_up (va_up vl 1 r_9.1) 2 r_7.2.1) 3 r_7.2.2)) (va_up VS vn (va_up vs 8 r_9.2)) LL) H := (cws_cg rfl rfl rfl rfl (va_trf rfl (va_dn (by decide) (va_dn (by decide) (va_uu _ _ _ _))) (va_uu _ _ _ _)) (va_trf rfl (va_uu _ _ _ _) (va_uu _ _ _ _)) hP)
          refine lv_iload_n hx hb dX6_feelAll_36 rfl (lv_at hl 1 rfl) ?_
          refine lv_iconst (v := 1) hx hb dX6_feelAll_37 (by decide) ?_
          refine lv_iload_n hx hb dX6_feelAll_38 rfl (lv_at hl 2 rfl) ?_
          refine lv_ishl hx hb dX6_feelAll_39 ?_
          refine lv_ior hx hb dX6_feelAll_40 ?_
          refine lv_istore_n (lv' := [(1, .int (x1_4 ||| (1 <<< ((nI i_4) &&& 31)))), (0, .ref (ad (66 + 13 * vn))), (2, .int (nI i_4))]) hx hb dX6_feelAll_41 rfl hl (by decide) rfl (fun ls hl => ?_)
          refine lv_iinc (v := (nI (i_4 + 1))) (lv' := [(2, .int (nI (i_4 + 1))), (1, .int (x1_4 ||| (1 <<< ((nI i_4) &&& 31)))), (0, .ref (ad (66 + 13 * vn)))]) hx hb dX6_feelAll_42 hl (k := 2) rfl (nI_add _ _) (by decide) rfl (fun ls hl => ?_)
          refine lv_goto (tgt := 4) hx hb dX6_feelAll_45 (by decide) ?_
          have hL_4 : (v_feelAll_L4 vl vs pl ps (n_4 + 1) i_4 x1_4 vl1_4 vl2_4 vl3_4 vs8_4) = (v_feelAll_L4 vl vs pl ps n_4 (i_4 + 1) (x1_4 ||| (1 <<< ((nI i_4) &&& 31))) r_9.1 r_7.2.1 r_7.2.2 r_9.2) := by subst hr_9; subst hr_7; rw [v_feelAll_L4.eq_2, if_neg c_6, if_pos c_8]
          try rw [hL_4] at hk_4
          exact ih_4 (i_4 + 1) (x1_4 ||| (1 <<< ((nI i_4) &&& 31))) r_9.1 r_7.2.1 r_7.2.2 r_9.2 (by omega) _ _ _ hP hS (lv_sub hl [2, 1, 0] rfl)  hk_4
  have hP : va_P (dC, dI) vwCl (cws cI ad ML MS PL PS (va_up VL vn (va_up (va_up (va_up vl 1 (vl 1)) 2 (vl 2)) 3 (vl 3))) (va_up VS vn (va_up vs 8 (vs 8))) LL) s.heap := (cws_cg rfl rfl rfl rfl (va_ad rfl (Eq.trans hvl (va_ad (va_ad (va_ad rfl rfl) (va_ne1 (by decide) rfl)) (va_ne1 (by decide) (va_ne1 (by decide) rfl))))) (va_ad rfl (Eq.trans hvs (va_ad rfl rfl))) hP)
  exact loop_4 ((ps 0).toNatClampNeg) 0 0 (vl 1) (vl 2) (vl 3) (vs 8) (by omega) _ _ _ hP hS (lv_sub hl [2, 1, 0] rfl)  (fun H locs ls hP hS hl  => rest_4 (v_feelAll_L4 vl vs pl ps ((ps 0).toNatClampNeg) 0 0 (vl 1) (vl 2) (vl 3) (vs 8)).1 (v_feelAll_L4 vl vs pl ps ((ps 0).toNatClampNeg) 0 0 (vl 1) (vl 2) (vl 3) (vs 8)).2.1 (v_feelAll_L4 vl vs pl ps ((ps 0).toNatClampNeg) 0 0 (vl 1) (vl 2) (vl 3) (vs 8)).2.2.1 (v_feelAll_L4 vl vs pl ps ((ps 0).toNatClampNeg) 0 0 (vl 1) (vl 2) (vl 3) (vs 8)).2.2.2.1 (v_feelAll_L4 vl vs pl ps ((ps 0).toNatClampNeg) 0 0 (vl 1) (vl 2) (vl 3) (vs 8)).2.2.2.2 _ _ _ hP hS hl  (by rw [v_feelAll]))
-- X6_passWeather
def v_passWeather_k30 (vl1 : Nat → Int32) (vl5 : Nat → Int32) (vl6 : Nat → Int32) (vs10 : Int32) (vs11 : Int32) : (Nat → Int32) × (Nat → Int32) × (Nat → Int32) × Int32 × Int32 := (vl1, vl5, vl6, vs10, vs11)
def v_passWeather_L30 (vl : Nat → Nat → Int32) (pl : Nat → Nat → Int32) (ps : Nat → Int32) (vl1 : Nat → Int32) (vl5 : Nat → Int32) : Nat → Nat → (Nat → Int32) → (Nat → Int32)
  | 0, i, vl6 => vl6
  | n + 1, i, vl6 => v_passWeather_L30 vl pl ps vl1 vl5 n (i + 1) (rs 8 vl6 (nI i) (jmax (rg 8 vl6 (nI i)) (v_load (va_up (va_up (va_up vl 1 vl1) 5 vl5) 6 vl6) pl ps (nI i))))
def v_passWeather (vl : Nat → Nat → Int32) (vs : Nat → Int32) (pl : Nat → Nat → Int32) (ps : Nat → Int32) (v1 : Int32) : (Nat → Int32) × (Nat → Int32) × (Nat → Int32) × Int32 × Int32 := v_passWeather_k30 (v_slide (va_up vl 1 (v_letFall vl vs pl ps v1)) pl ps) (v_bringPropsNearer (va_up vl 1 (v_slide (va_up vl 1 (v_letFall vl vs pl ps v1)) pl ps))) (v_passWeather_L30 vl pl ps (v_slide (va_up vl 1 (v_letFall vl vs pl ps v1)) pl ps) (v_bringPropsNearer (va_up vl 1 (v_slide (va_up vl 1 (v_letFall vl vs pl ps v1)) pl ps))) ((ps 0).toNatClampNeg) 0 (vl 6)) ((vs 10) + 1) v1
set_option maxHeartbeats 4000000 in
set_option maxRecDepth 100000 in
theorem c_v_passWeather (hI : kInj ad 183) (hv : vn < 9) (hvl : VL vn = vl) (hvs : VS vn = vs) (hpl : PL 0 = pl) (hps : PS 0 = ps) (v1 : Int32) : Met l yX6_passWeather (.code yX6_passWeather cX6_passWeather 3 none :: kT) ({ frames := 3, cells := 0, slots := 0, locals := 67 } : Room) (va_Pc [.ref (ad (66 + 13 * vn)), .int v1] (kB (dC, dI) [(cI, .int)] (cws cI ad ML MS PL PS VL VS LL))) (kQ none (kB (dC, dI) [(cI, .int)] (cws cI ad ML MS PL PS (va_up VL vn (va_up (va_up (va_up vl 1 ((v_passWeather vl vs pl ps v1).1)) 5 ((v_passWeather vl vs pl ps v1).2.1)) 6 ((v_passWeather vl vs pl ps v1).2.2.1))) (va_up VS vn (va_up (va_up vs 10 ((v_passWeather vl vs pl ps v1).2.2.2.1)) 11 ((v_passWeather vl vs pl ps v1).2.2.2.2))) LL)) (kAA ad 183)) 0 0 (kAA ad 183) := by
  refine kMet (by decide) (fun p e s m args below meth c ls hx hb hr hml hts hown hlocks hname hargs hB hl => ?_) (Nat.le_of_ble_eq_true rfl)
  obtain ⟨hP, hK, hN⟩ := hB
  have hl : lv_has ls 3 [(0, .ref (ad (66 + 13 * vn))), (1, .int v1)] := hl
  have hS : va_S (kAA ad 183) s.heap s.heap [] := va_S.rf
  refine lv_aload_n hx hb dX6_passWeather_0 rfl (lv_at hl 0 rfl) ?_
  refine lv_iload_n hx hb dX6_passWeather_1 rfl (lv_at hl 1 rfl) ?_
  refine k_wV (r := none) (As := [.int v1]) (rest := []) hx hb hml hown hts hl.1 hP hK hN hS (c_v_letFall hI hv hvl hvs hpl hps v1) eX6_136 (ci := 5) (q0 := 66 + 13 * vn) rfl rfl (xV (v := vn) hv hvs) rfl rfl (Nat.le_of_ble_eq_true rfl) ⟨Nat.le_of_ble_eq_true rfl, Nat.le_of_ble_eq_true rfl⟩ ⟨rfl, rfl⟩ ⟨Nat.le_of_ble_eq_true rfl, Nat.le_of_ble_eq_true rfl⟩ dX6_passWeather_2 (fun H locs hP hS => ?_)
  obtain ⟨r_2, hr_2⟩ : ∃ z, z = (v_letFall vl vs pl ps v1) := ⟨_, rfl⟩
  rw [← hr_2] at hP
  have hP : va_P (dC, dI) vwCl (cws cI ad ML MS PL PS (va_up VL vn (va_up vl 1 r_2)) VS LL) H := (cws_cg rfl rfl rfl rfl (va_trf rfl rfl rfl) rfl hP)
  refine lv_aload_n hx hb dX6_passWeather_5 rfl (lv_at hl 0 rfl) ?_
  refine k_wV (r := none) (As := []) (rest := []) hx hb hml hown hts hl.1 hP hK hN hS (c_v_slide (VL := (va_up VL vn (va_up vl 1 r_2))) (vl := (va_up vl 1 r_2)) (vs := vs) hI hv va_sf hvs hpl hps) eX6_139 (ci := 5) (q0 := 66 + 13 * vn) rfl rfl (xV (v := vn) hv hvs) rfl rfl (Nat.le_of_ble_eq_true rfl) ⟨Nat.le_of_ble_eq_true rfl, Nat.le_of_ble_eq_true rfl⟩ ⟨rfl, rfl⟩ ⟨Nat.le_of_ble_eq_true rfl, Nat.le_of_ble_eq_true rfl⟩ dX6_passWeather_6 (fun H locs hP hS => ?_)
  obtain ⟨r_3, hr_3⟩ : ∃ z, z = (v_slide (va_up vl 1 r_2) pl ps) := ⟨_, rfl⟩
  rw [← hr_3] at hP
  have hP : va_P (dC, dI) vwCl (cws cI ad ML MS PL PS (va_up VL vn (va_up vl 1 r_3)) VS LL) H := (cws_cg rfl rfl rfl rfl (va_trf rfl (va_uu _ _ _ _) (va_uu _ _ _ _)) rfl hP)
  refine lv_aload_n hx hb dX6_passWeather_9 rfl (lv_at hl 0 rfl) ?_
  refine k_wV (r := none) (As := []) (rest := []) hx hb hml hown hts hl.1 hP hK hN hS (c_v_bringPropsNearer (VL := (va_up VL vn (va_up vl 1 r_3))) (vl := (va_up vl 1 r_3)) (vs := vs) hI hv va_sf hvs hpl hps) eX6_142 (ci := 5) (q0 := 66 + 13 * vn) rfl rfl (xV (v := vn) hv hvs) rfl rfl (Nat.le_of_ble_eq_true rfl) ⟨Nat.le_of_ble_eq_true rfl, Nat.le_of_ble_eq_true rfl⟩ ⟨rfl, rfl⟩ ⟨Nat.le_of_ble_eq_true rfl, Nat.le_of_ble_eq_true rfl⟩ dX6_passWeather_10 (fun H locs hP hS => ?_)
  obtain ⟨r_4, hr_4⟩ : ∃ z, z = (v_bringPropsNearer (va_up vl 1 r_3)) := ⟨_, rfl⟩
  rw [← hr_4] at hP
  have hP : va_P (dC, dI) vwCl (cws cI ad ML MS PL PS (va_up VL vn (va_up (va_up vl 1 r_3) 5 r_4)) VS LL) H := (cws_cg rfl rfl rfl rfl (va_trf rfl rfl (va_uu _ _ _ _)) rfl hP)
  refine lv_aload_n hx hb dX6_passWeather_13 rfl (lv_at hl 0 rfl) ?_
  refine lv_dup hx hb dX6_passWeather_14 rfl ?_
  refine k_get (q0 := 66 + 13 * vn) (ci := 5) (v := .int (vs 10)) hx hb hts inT_X6 hown hK hP (xV (v := vn) hv hvs) rfl 10 (by decide) rfl kX6_42 rfl dX6_passWeather_15 ?_
  refine lv_iconst (v := 1) hx hb dX6_passWeather_18 (by decide) ?_
  refine lv_iadd hx hb dX6_passWeather_19 ?_
  refine k_put (q0 := 66 + 13 * vn) (ci := 5) (ty := .int) (ws' := cws cI ad ML MS PL PS (va_up VL vn (va_up (va_up vl 1 r_3) 5 r_4)) (va_up VS vn (va_up vs 10 ((vs 10) + 1))) LL) hx hb hts inT_X6 tyX6 tyX6_ok nmX6 hown hK hP (cwsD hI) hS (xV (v := vn) hv hvs) rfl 10 (by decide) rfl kX6_42 rfl (by decide +kernel) rfl rfl (Nat.le_of_ble_eq_true rfl) (yVs2 hv (by decide) rfl rfl) dX6_passWeather_20 (fun H locs hP hS => ?_)
  refine lv_aload_n hx hb dX6_passWeather_23 rfl (lv_at hl 0 rfl) ?_
  refine lv_iload_n hx hb dX6_passWeather_24 rfl (lv_at hl 1 rfl) ?_
  refine k_put (q0 := 66 + 13 * vn) (ci := 5) (ty := .int) (ws' := cws cI ad ML MS PL PS (va_up VL vn (va_up (va_up vl 1 r_3) 5 r_4)) (va_up VS vn (va_up (va_up vs 10 ((vs 10) + 1)) 11 v1)) LL) hx hb hts inT_X6 tyX6 tyX6_ok nmX6 hown hK hP (cwsD hI) hS (xV (v := vn) hv va_sf) rfl 11 (by decide) rfl kX6_45 rfl (by decide +kernel) rfl rfl (Nat.le_of_ble_eq_true rfl) (yVs2 hv (by decide) rfl (va_uu _ _ _ _)) dX6_passWeather_25 (fun H locs hP hS => ?_)
  refine lv_iconst (v := 0) hx hb dX6_passWeather_28 (by decide) ?_
  refine lv_istore_n (lv' := [(2, .int 0), (0, .ref (ad (66 + 13 * vn))), (1, .int v1)]) hx hb dX6_passWeather_29 rfl hl (by decide) rfl (fun ls hl => ?_)
  have rest_30 : ∀ (vl6_30 : Nat → Int32), ∀ (H : Heap) (locs : List Loc) (ls : Array Slot), va_P (dC, dI) vwCl (cws cI ad ML MS PL PS (va_up VL vn (va_up (va_up (va_up vl 1 r_3) 5 r_4) 6 vl6_30)) (va_up VS vn (va_up (va_up vs 10 ((vs 10) + 1)) 11 v1)) LL) H → va_S (kAA ad 183) s.heap H locs → lv_has ls 3 [] → (v_passWeather vl vs pl ps v1) = v_passWeather_k30 r_3 r_4 vl6_30 ((vs 10) + 1) v1 → W p l e ({ frames := 3, cells := 0, slots := 0, locals := 67 } : Room) s m args below meth c H locs 0 0 (MQ below (kQ none (kB (dC, dI) [(cI, .int)] (cws cI ad ML MS PL PS (va_up VL vn (va_up (va_up (va_up vl 1 ((v_passWeather vl vs pl ps v1).1)) 5 ((v_passWeather vl vs pl ps v1).2.1)) 6 ((v_passWeather vl vs pl ps v1).2.2.1))) (va_up VS vn (va_up (va_up vs 10 ((v_passWeather vl vs pl ps v1).2.2.2.1)) 11 ((v_passWeather vl vs pl ps v1).2.2.2.2))) LL)) (kAA ad 183)) args s 0 0 (kAA ad 183)) (F0 m 71 ls []) := by
    intro vl6_30 H locs ls hP hS hl  hF_30
    have hE : (v_passWeather vl vs pl ps v1) = (r_3, r_4, vl6_30, ((vs 10) + 1), v1) := by subst hr_4; subst hr_3; subst hr_2; exact hF_30.trans (by rw [v_passWeather_k30])
    exact W.vret hx hb hr (fun t ht hW => ⟨rfl, by rw [hE]; exact kB.of (ws := cws cI ad ML MS PL PS (va_up VL vn (va_up (va_up (va_up vl 1 r_3) 5 r_4) 6 vl6_30)) (va_up VS vn (va_up (va_up vs 10 ((vs 10) + 1)) 11 v1)) LL) hP hK hN ht hW, hS.F ht⟩) hS.2.2 dX6_passWeather_71 hlocks
  have hN_30 : ((ps 0).toNatClampNeg) < 2 ^ 31 := kcl_lt _
  have loop_30 : ∀ (n_30 i_30 : Nat) (vl6_30 : Nat → Int32), i_30 + n_30 = (ps 0).toNatClampNeg → ∀ (H : Heap) (locs : List Loc) (ls : Array Slot), va_P (dC, dI) vwCl (cws cI ad ML MS PL PS (va_up VL vn (va_up (va_up (va_up vl 1 r_3) 5 r_4) 6 vl6_30)) (va_up VS vn (va_up (va_up vs 10 ((vs 10) + 1)) 11 v1)) LL) H → va_S (kAA ad 183) s.heap H locs → lv_has ls 3 [(0, .ref (ad (66 + 13 * vn))), (2, .int (nI i_30))] → (∀ (H : Heap) (locs : List Loc) (ls : Array Slot), va_P (dC, dI) vwCl (cws cI ad ML MS PL PS (va_up VL vn (va_up (va_up (va_up vl 1 r_3) 5 r_4) 6 (v_passWeather_L30 vl pl ps r_3 r_4 n_30 i_30 vl6_30))) (va_up VS vn (va_up (va_up vs 10 ((vs 10) + 1)) 11 v1)) LL) H → va_S (kAA ad 183) s.heap H locs → lv_has ls 3 [] → W p l e ({ frames := 3, cells := 0, slots := 0, locals := 67 } : Room) s m args below meth c H locs 0 0 (MQ below (kQ none (kB (dC, dI) [(cI, .int)] (cws cI ad ML MS PL PS (va_up VL vn (va_up (va_up (va_up vl 1 ((v_passWeather vl vs pl ps v1).1)) 5 ((v_passWeather vl vs pl ps v1).2.1)) 6 ((v_passWeather vl vs pl ps v1).2.2.1))) (va_up VS vn (va_up (va_up vs 10 ((v_passWeather vl vs pl ps v1).2.2.2.1)) 11 ((v_passWeather vl vs pl ps v1).2.2.2.2))) LL)) (kAA ad 183)) args s 0 0 (kAA ad 183)) (F0 m 71 ls [])) → W p l e ({ frames := 3, cells := 0, slots := 0, locals := 67 } : Room) s m args below meth c H locs 0 0 (MQ below (kQ none (kB (dC, dI) [(cI, .int)] (cws cI ad ML MS PL PS (va_up VL vn (va_up (va_up (va_up vl 1 ((v_passWeather vl vs pl ps v1).1)) 5 ((v_passWeather vl vs pl ps v1).2.1)) 6 ((v_passWeather vl vs pl ps v1).2.2.1))) (va_up VS vn (va_up (va_up vs 10 ((v_passWeather vl vs pl ps v1).2.2.2.1)) 11 ((v_passWeather vl vs pl ps v1).2.2.2.2))) LL)) (kAA ad 183)) args s 0 0 (kAA ad 183)) (F0 m 30 ls []) := by
    intro n_30
    induction n_30 with
    | zero =>
      intro i_30 vl6_30 hin_30 H locs ls hP hS hl  hk_30
      refine lv_iload_n hx hb dX6_passWeather_30 rfl (lv_at hl 1 rfl) ?_
      refine lv_aload_n hx hb dX6_passWeather_31 rfl (lv_at hl 0 rfl) ?_
      refine k_get (q0 := 66 + 13 * vn) (ci := 5) (v := .ref (ad 16)) hx hb hts inT_X6 hown hK hP (xV (v := vn) hv va_sf) rfl 0 (by decide) rfl kX6_51 rfl dX6_passWeather_32 ?_
      refine k_getN (q0 := 16 + 25 * 0) (ci := 0) (v := .int (ps 0)) hx hb hts hN inT_X0 hown hK hP (xP (p := 0) (by decide) hps) rfl 0 (by decide) rfl kX6_69 rfl dX6_passWeather_35 ?_
      refine lv_icmp_ge (tgt := 71) hx hb dX6_passWeather_38 (by decide) (fun _ => ?_) (fun c_5 => absurd (kct_ge (N := (ps 0).toNatClampNeg) rfl (by omega) (by omega)) c_5)
      have hL_30 : (v_passWeather_L30 vl pl ps r_3 r_4 0 i_30 vl6_30) = vl6_30 := by subst hr_4; subst hr_3; subst hr_2; rw [v_passWeather_L30.eq_1]
      try rw [hL_30] at hk_30
      exact hk_30 _ _ _ hP hS (lv_sub hl [] rfl) 
    | succ n_30 ih_30 =>
      intro i_30 vl6_30 hin_30 H locs ls hP hS hl  hk_30
      refine lv_iload_n hx hb dX6_passWeather_30 rfl (lv_at hl 1 rfl) ?_
      refine lv_aload_n hx hb dX6_passWeather_31 rfl (lv_at hl 0 rfl) ?_
      refine k_get (q0 := 66 + 13 * vn) (ci := 5) (v := .ref (ad 16)) hx hb hts inT_X6 hown hK hP (xV (v := vn) hv va_sf) rfl 0 (by decide) rfl kX6_51 rfl dX6_passWeather_32 ?_
      refine k_getN (q0 := 16 + 25 * 0) (ci := 0) (v := .int (ps 0)) hx hb hts hN inT_X0 hown hK hP (xP (p := 0) (by decide) hps) rfl 0 (by decide) rfl kX6_69 rfl dX6_passWeather_35 ?_
      refine lv_icmp_ge (tgt := 71) hx hb dX6_passWeather_38 (by decide) (fun c_6 => absurd c_6 (kct_lt (N := (ps 0).toNatClampNeg) rfl (by omega))) (fun _ => ?_)
      refine lv_aload_n hx hb dX6_passWeather_41 rfl (lv_at hl 0 rfl) ?_
      refine k_get (q0 := 66 + 13 * vn) (ci := 5) (v := .ref (ad (66 + 13 * vn + 11))) hx hb hts inT_X6 hown hK hP (xV (v := vn) hv va_sf) rfl 6 (by decide) rfl kX6_32 rfl dX6_passWeather_42 ?_
      refine lv_iload_n hx hb dX6_passWeather_45 rfl (lv_at hl 1 rfl) ?_
      refine lv_aload_n hx hb dX6_passWeather_46 rfl (lv_at hl 0 rfl) ?_
      refine k_get (q0 := 66 + 13 * vn) (ci := 5) (v := .ref (ad (66 + 13 * vn + 11))) hx hb hts inT_X6 hown hK hP (xV (v := vn) hv va_sf) rfl 6 (by decide) rfl kX6_32 rfl dX6_passWeather_47 ?_
      refine lv_iload_n hx hb dX6_passWeather_50 rfl (lv_at hl 1 rfl) ?_
      refine k_rV (v := .int (rg 8 vl6_30 (nI i_30))) (As := [.int (nI i_30)]) (rest := [.int (nI i_30), .ref (ad (66 + 13 * vn + 11))]) hx hb hml hown hts hl.1 hP hK hN (c_rg (f := vl6_30) (n := 8) (wVo (v := vn) hv 11 (by decide) (by decide)) (xVa (v := vn) hv va_sf 11 (by decide) (by decide) rfl va_sf) (by decide) (nI i_30)) eX6_90 (ci := 2) (q0 := 66 + 13 * vn + 11) rfl rfl (wVo (v := vn) hv 11 (by decide) (by decide)) rfl rfl (Nat.le_of_ble_eq_true rfl) ⟨Nat.le_of_ble_eq_true rfl, Nat.le_of_ble_eq_true rfl⟩ ⟨rfl, rfl⟩ ⟨Nat.le_of_ble_eq_true rfl, Nat.le_of_ble_eq_true rfl⟩ dX6_passWeather_51 ?_
      refine lv_aload_n hx hb dX6_passWeather_54 rfl (lv_at hl 0 rfl) ?_
      refine lv_iload_n hx hb dX6_passWeather_55 rfl (lv_at hl 1 rfl) ?_
      refine k_rV (v := .int (v_load (va_up (va_up (va_up vl 1 r_3) 5 r_4) 6 vl6_30) pl ps (nI i_30))) (As := [.int (nI i_30)]) (rest := [.int (rg 8 vl6_30 (nI i_30)), .int (nI i_30), .ref (ad (66 + 13 * vn + 11))]) hx hb hml hown hts hl.1 hP hK hN (c_v_load (VL := (va_up VL vn (va_up (va_up (va_up vl 1 r_3) 5 r_4) 6 vl6_30))) (VS := (va_up VS vn (va_up (va_up vs 10 ((vs 10) + 1)) 11 v1))) (vl := (va_up (va_up (va_up vl 1 r_3) 5 r_4) 6 vl6_30)) (vs := (va_up (va_up vs 10 ((vs 10) + 1)) 11 v1)) hI hv va_sf va_sf hpl hps (nI i_30)) eX6_145 (ci := 5) (q0 := 66 + 13 * vn) rfl rfl (xV (v := vn) hv va_sf) rfl rfl (Nat.le_of_ble_eq_true rfl) ⟨Nat.le_of_ble_eq_true rfl, Nat.le_of_ble_eq_true rfl⟩ ⟨rfl, rfl⟩ ⟨Nat.le_of_ble_eq_true rfl, Nat.le_of_ble_eq_true rfl⟩ dX6_passWeather_56 ?_
      refine k_mmax (rest := [.int (nI i_30), .ref (ad (66 + 13 * vn + 11))]) hx hb hml hown hts hl.1 eX6_148 (Nat.le_of_ble_eq_true rfl) (Nat.le_of_ble_eq_true rfl) (Nat.le_of_ble_eq_true rfl) (Nat.le_of_ble_eq_true rfl) dX6_passWeather_59 ?_
      refine k_wV (ws' := cws cI ad ML MS PL PS (va_up VL vn (va_up (va_up (va_up vl 1 r_3) 5 r_4) 6 (rs 8 vl6_30 (nI i_30) (jmax (rg 8 vl6_30 (nI i_30)) (v_load (va_up (va_up (va_up vl 1 r_3) 5 r_4) 6 vl6_30) pl ps (nI i_30)))))) (va_up VS vn (va_up (va_up vs 10 ((vs 10) + 1)) 11 v1)) LL) (r := none) (As := [.int (nI i_30), .int (jmax (rg 8 vl6_30 (nI i_30)) (v_load (va_up (va_up (va_up vl 1 r_3) 5 r_4) 6 vl6_30) pl ps (nI i_30)))]) (rest := []) hx hb hml hown hts hl.1 hP hK hN hS (c_rs (f := vl6_30) (n := 8) (wVo (v := vn) hv 11 (by decide) (by decide)) (xVa (v := vn) hv va_sf 11 (by decide) (by decide) rfl va_sf) (by decide) (cwsD hI) (nI i_30) (jmax (rg 8 vl6_30 (nI i_30)) (v_load (va_up (va_up (va_up vl 1 r_3) 5 r_4) 6 vl6_30) pl ps (nI i_30))) (yVl2 (v := vn) hv 11 (by decide) (by decide) (k := 6) rfl va_sf rfl (va_uu _ _ _ _) (va_uu _ _ _ _))) eX6_79 (ci := 2) (q0 := 66 + 13 * vn + 11) rfl rfl (wVo (v := vn) hv 11 (by decide) (by decide)) rfl rfl (Nat.le_of_ble_eq_true rfl) ⟨Nat.le_of_ble_eq_true rfl, Nat.le_of_ble_eq_true rfl⟩ ⟨rfl, rfl⟩ ⟨Nat.le_of_ble_eq_true rfl, Nat.le_of_ble_eq_true rfl⟩ dX6_passWeather_62 (fun H locs hP hS => ?_)
      refine lv_iinc (v := (nI (i_30 + 1))) (lv' := [(2, .int (nI (i_30 + 1))), (0, .ref (ad (66 + 13 * vn)))]) hx hb dX6_passWeather_65 hl (k := 1) rfl (nI_add _ _) (by decide) rfl (fun ls hl => ?_)
      refine lv_goto (tgt := 30) hx hb dX6_passWeather_68 (by decide) ?_
      have hL_30 : (v_passWeather_L30 vl pl ps r_3 r_4 (n_30 + 1) i_30 vl6_30) = (v_passWeather_L30 vl pl ps r_3 r_4 n_30 (i_30 + 1) (rs 8 vl6_30 (nI i_30) (jmax (rg 8 vl6_30 (nI i_30)) (v_load (va_up (va_up (va_up vl 1 r_3) 5 r_4) 6 vl6_30) pl ps (nI i_30))))) := by subst hr_4; subst hr_3; subst hr_2; rw [v_passWeather_L30.eq_2]
      try rw [hL_30] at hk_30
      exact ih_30 (i_30 + 1) (rs 8 vl6_30 (nI i_30) (jmax (rg 8 vl6_30 (nI i_30)) (v_load (va_up (va_up (va_up vl 1 r_3) 5 r_4) 6 vl6_30) pl ps (nI i_30)))) (by omega) _ _ _ hP hS (lv_sub hl [1, 0] rfl)  hk_30
  have hP : va_P (dC, dI) vwCl (cws cI ad ML MS PL PS (va_up VL vn (va_up (va_up (va_up vl 1 r_3) 5 r_4) 6 (vl 6))) (va_up VS vn (va_up (va_up vs 10 ((vs 10) + 1)) 11 v1)) LL) H := (cws_cg rfl rfl rfl rfl (va_c2 rfl (va_ad rfl (va_ne1 (by decide) (va_ne1 (by decide) rfl)))) rfl hP)
  exact loop_30 ((ps 0).toNatClampNeg) 0 (vl 6) (by omega) _ _ _ hP hS (lv_sub hl [1, 0] rfl)  (fun H locs ls hP hS hl  => rest_30 (v_passWeather_L30 vl pl ps r_3 r_4 ((ps 0).toNatClampNeg) 0 (vl 6)) _ _ _ hP hS hl  (by subst hr_4; subst hr_3; subst hr_2; rw [v_passWeather]))
-- X6_passHourAt
def v_passHourAt_k3 (vl : Nat → Nat → Int32) (vs : Nat → Int32) (pl : Nat → Nat → Int32) (ps : Nat → Int32) (vl1 : Nat → Int32) (v2 : Int32) : (Nat → Int32) × (Nat → Int32) × (Nat → Int32) × Int32 × Int32 := ((v_passWeather (va_up vl 1 vl1) vs pl ps v2).1, (v_passWeather (va_up vl 1 vl1) vs pl ps v2).2.1, (v_passWeather (va_up vl 1 vl1) vs pl ps v2).2.2.1, (v_passWeather (va_up vl 1 vl1) vs pl ps v2).2.2.2.1, (v_passWeather (va_up vl 1 vl1) vs pl ps v2).2.2.2.2)
def v_passHourAt_L3 (vl : Nat → Nat → Int32) (vs : Nat → Int32) (pl : Nat → Nat → Int32) (ps : Nat → Int32) (v1 : Int32) : Nat → Nat → (Nat → Int32) → (Nat → Int32)
  | 0, i, vl1 => vl1
  | n + 1, i, vl1 => v_passHourAt_L3 vl vs pl ps v1 n (i + 1) (v_clearAt (va_up vl 1 vl1) vs pl ps v1)
def v_passHourAt (vl : Nat → Nat → Int32) (vs : Nat → Int32) (pl : Nat → Nat → Int32) (ps : Nat → Int32) (v1 : Int32) (v2 : Int32) (v3 : Int32) : (Nat → Int32) × (Nat → Int32) × (Nat → Int32) × Int32 × Int32 := v_passHourAt_k3 vl vs pl ps (v_passHourAt_L3 vl vs pl ps v1 v3.toNatClampNeg 0 (vl 1)) v2
set_option maxHeartbeats 4000000 in
set_option maxRecDepth 100000 in
theorem c_v_passHourAt (hI : kInj ad 183) (hv : vn < 9) (hvl : VL vn = vl) (hvs : VS vn = vs) (hpl : PL 0 = pl) (hps : PS 0 = ps) (v1 : Int32) (v2 : Int32) (v3 : Int32) : Met l yX6_passHourAt (.code yX6_passHourAt cX6_passHourAt 5 none :: kT) ({ frames := 4, cells := 0, slots := 0, locals := 89 } : Room) (va_Pc [.ref (ad (66 + 13 * vn)), .int v1, .int v2, .int v3] (kB (dC, dI) [(cI, .int)] (cws cI ad ML MS PL PS VL VS LL))) (kQ none (kB (dC, dI) [(cI, .int)] (cws cI ad ML MS PL PS (va_up VL vn (va_up (va_up (va_up vl 1 ((v_passHourAt vl vs pl ps v1 v2 v3).1)) 5 ((v_passHourAt vl vs pl ps v1 v2 v3).2.1)) 6 ((v_passHourAt vl vs pl ps v1 v2 v3).2.2.1))) (va_up VS vn (va_up (va_up vs 10 ((v_passHourAt vl vs pl ps v1 v2 v3).2.2.2.1)) 11 ((v_passHourAt vl vs pl ps v1 v2 v3).2.2.2.2))) LL)) (kAA ad 183)) 0 0 (kAA ad 183) := by
  refine kMet (by decide) (fun p e s m args below meth c ls hx hb hr hml hts hown hlocks hname hargs hB hl => ?_) (Nat.le_of_ble_eq_true rfl)
  obtain ⟨hP, hK, hN⟩ := hB
  have hl : lv_has ls 5 [(0, .ref (ad (66 + 13 * vn))), (1, .int v1), (2, .int v2), (3, .int v3)] := hl
  have hS : va_S (kAA ad 183) s.heap s.heap [] := va_S.rf
  refine lv_iconst (v := 0) hx hb dX6_passHourAt_0 (by decide) ?_
  refine lv_istore (lv' := [(4, .int 0), (0, .ref (ad (66 + 13 * vn))), (1, .int v1), (2, .int v2), (3, .int v3)]) hx hb dX6_passHourAt_1 hl (by decide) rfl (fun ls hl => ?_)
  have rest_3 : ∀ (vl1_3 : Nat → Int32), ∀ (H : Heap) (locs : List Loc) (ls : Array Slot), va_P (dC, dI) vwCl (cws cI ad ML MS PL PS (va_up VL vn (va_up vl 1 vl1_3)) VS LL) H → va_S (kAA ad 183) s.heap H locs → lv_has ls 5 [(0, .ref (ad (66 + 13 * vn))), (2, .int v2)] → (v_passHourAt vl vs pl ps v1 v2 v3) = v_passHourAt_k3 vl vs pl ps vl1_3 v2 → W p l e ({ frames := 4, cells := 0, slots := 0, locals := 89 } : Room) s m args below meth c H locs 0 0 (MQ below (kQ none (kB (dC, dI) [(cI, .int)] (cws cI ad ML MS PL PS (va_up VL vn (va_up (va_up (va_up vl 1 ((v_passHourAt vl vs pl ps v1 v2 v3).1)) 5 ((v_passHourAt vl vs pl ps v1 v2 v3).2.1)) 6 ((v_passHourAt vl vs pl ps v1 v2 v3).2.2.1))) (va_up VS vn (va_up (va_up vs 10 ((v_passHourAt vl vs pl ps v1 v2 v3).2.2.2.1)) 11 ((v_passHourAt vl vs pl ps v1 v2 v3).2.2.2.2))) LL)) (kAA ad 183)) args s 0 0 (kAA ad 183)) (F0 m 20 ls []) := by
    intro vl1_3 H locs ls hP hS hl  hF_3
    refine lv_aload_n hx hb dX6_passHourAt_20 rfl (lv_at hl 0 rfl) ?_
    refine lv_iload_n hx hb dX6_passHourAt_21 rfl (lv_at hl 1 rfl) ?_
    refine k_wV (r := none) (As := [.int v2]) (rest := []) hx hb hml hown hts hl.1 hP hK hN hS (c_v_passWeather (VL := (va_up VL vn (va_up vl 1 vl1_3))) (vl := (va_up vl 1 vl1_3)) (vs := vs) hI hv va_sf hvs hpl hps v2) eX6_133 (ci := 5) (q0 := 66 + 13 * vn) rfl rfl (xV (v := vn) hv hvs) rfl rfl (Nat.le_of_ble_eq_true rfl) ⟨Nat.le_of_ble_eq_true rfl, Nat.le_of_ble_eq_true rfl⟩ ⟨rfl, rfl⟩ ⟨Nat.le_of_ble_eq_true rfl, Nat.le_of_ble_eq_true rfl⟩ dX6_passHourAt_22 (fun H locs hP hS => ?_)
    obtain ⟨r_2, hr_2⟩ : ∃ z, z = (v_passWeather (va_up vl 1 vl1_3) vs pl ps v2) := ⟨_, rfl⟩
    rw [← hr_2] at hP
    have hP : va_P (dC, dI) vwCl (cws cI ad ML MS PL PS (va_up VL vn (va_up (va_up (va_up vl 1 r_2.1) 5 r_2.2.1) 6 r_2.2.2.1)) (va_up VS vn (va_up (va_up vs 10 r_2.2.2.2.1) 11 r_2.2.2.2.2)) LL) H := (cws_cg rfl rfl rfl rfl (va_trf rfl (va_tr (va_tr (va_uu _ _ _ _) rfl) rfl) (va_uu _ _ _ _)) (va_trf rfl rfl rfl) hP)
    have hE : (v_passHourAt vl vs pl ps v1 v2 v3) = (r_2.1, r_2.2.1, r_2.2.2.1, r_2.2.2.2.1, r_2.2.2.2.2) := by subst hr_2; exact hF_3.trans (by rw [v_passHourAt_k3])
    exact W.vret hx hb hr (fun t ht hW => ⟨rfl, by rw [hE]; exact kB.of (ws := cws cI ad ML MS PL PS (va_up VL vn (va_up (va_up (va_up vl 1 r_2.1) 5 r_2.2.1) 6 r_2.2.2.1)) (va_up VS vn (va_up (va_up vs 10 r_2.2.2.2.1) 11 r_2.2.2.2.2)) LL) hP hK hN ht hW, hS.F ht⟩) hS.2.2 dX6_passHourAt_25 hlocks
  have hN_3 : v3.toNatClampNeg < 2 ^ 31 := kcl_lt _
  have loop_3 : ∀ (n_3 i_3 : Nat) (vl1_3 : Nat → Int32), i_3 + n_3 = v3.toNatClampNeg → ∀ (H : Heap) (locs : List Loc) (ls : Array Slot), va_P (dC, dI) vwCl (cws cI ad ML MS PL PS (va_up VL vn (va_up vl 1 vl1_3)) VS LL) H → va_S (kAA ad 183) s.heap H locs → lv_has ls 5 [(0, .ref (ad (66 + 13 * vn))), (1, .int v1), (2, .int v2), (3, .int v3), (4, .int (nI i_3))] → (∀ (H : Heap) (locs : List Loc) (ls : Array Slot), va_P (dC, dI) vwCl (cws cI ad ML MS PL PS (va_up VL vn (va_up vl 1 (v_passHourAt_L3 vl vs pl ps v1 n_3 i_3 vl1_3))) VS LL) H → va_S (kAA ad 183) s.heap H locs → lv_has ls 5 [(0, .ref (ad (66 + 13 * vn))), (2, .int v2)] → W p l e ({ frames := 4, cells := 0, slots := 0, locals := 89 } : Room) s m args below meth c H locs 0 0 (MQ below (kQ none (kB (dC, dI) [(cI, .int)] (cws cI ad ML MS PL PS (va_up VL vn (va_up (va_up (va_up vl 1 ((v_passHourAt vl vs pl ps v1 v2 v3).1)) 5 ((v_passHourAt vl vs pl ps v1 v2 v3).2.1)) 6 ((v_passHourAt vl vs pl ps v1 v2 v3).2.2.1))) (va_up VS vn (va_up (va_up vs 10 ((v_passHourAt vl vs pl ps v1 v2 v3).2.2.2.1)) 11 ((v_passHourAt vl vs pl ps v1 v2 v3).2.2.2.2))) LL)) (kAA ad 183)) args s 0 0 (kAA ad 183)) (F0 m 20 ls [])) → W p l e ({ frames := 4, cells := 0, slots := 0, locals := 89 } : Room) s m args below meth c H locs 0 0 (MQ below (kQ none (kB (dC, dI) [(cI, .int)] (cws cI ad ML MS PL PS (va_up VL vn (va_up (va_up (va_up vl 1 ((v_passHourAt vl vs pl ps v1 v2 v3).1)) 5 ((v_passHourAt vl vs pl ps v1 v2 v3).2.1)) 6 ((v_passHourAt vl vs pl ps v1 v2 v3).2.2.1))) (va_up VS vn (va_up (va_up vs 10 ((v_passHourAt vl vs pl ps v1 v2 v3).2.2.2.1)) 11 ((v_passHourAt vl vs pl ps v1 v2 v3).2.2.2.2))) LL)) (kAA ad 183)) args s 0 0 (kAA ad 183)) (F0 m 3 ls []) := by
    intro n_3
    induction n_3 with
    | zero =>
      intro i_3 vl1_3 hin_3 H locs ls hP hS hl  hk_3
      refine lv_iload hx hb dX6_passHourAt_3 (lv_at hl 4 rfl) ?_
      refine lv_iload_n hx hb dX6_passHourAt_5 rfl (lv_at hl 3 rfl) ?_
      refine lv_icmp_ge (tgt := 20) hx hb dX6_passHourAt_6 (by decide) (fun _ => ?_) (fun c_3 => absurd (kct_ge (N := v3.toNatClampNeg) rfl (by omega) (by omega)) c_3)
      have hL_3 : (v_passHourAt_L3 vl vs pl ps v1 0 i_3 vl1_3) = vl1_3 := by rw [v_passHourAt_L3.eq_1]
      try rw [hL_3] at hk_3
      exact hk_3 _ _ _ hP hS (lv_sub hl [0, 2] rfl) 
    | succ n_3 ih_3 =>
      intro i_3 vl1_3 hin_3 H locs ls hP hS hl  hk_3
      refine lv_iload hx hb dX6_passHourAt_3 (lv_at hl 4 rfl) ?_
      refine lv_iload_n hx hb dX6_passHourAt_5 rfl (lv_at hl 3 rfl) ?_
      refine lv_icmp_ge (tgt := 20) hx hb dX6_passHourAt_6 (by decide) (fun c_4 => absurd c_4 (kct_lt (N := v3.toNatClampNeg) rfl (by omega))) (fun _ => ?_)
      refine lv_aload_n hx hb dX6_passHourAt_9 rfl (lv_at hl 0 rfl) ?_
      refine lv_iload_n hx hb dX6_passHourAt_10 rfl (lv_at hl 1 rfl) ?_
      refine k_wV (r := none) (As := [.int v1]) (rest := []) hx hb hml hown hts hl.1 hP hK hN hS (c_v_clearAt (VL := (va_up VL vn (va_up vl 1 vl1_3))) (vl := (va_up vl 1 vl1_3)) (vs := vs) hI hv va_sf hvs hpl hps v1) eX6_130 (ci := 5) (q0 := 66 + 13 * vn) rfl rfl (xV (v := vn) hv hvs) rfl rfl (Nat.le_of_ble_eq_true rfl) ⟨Nat.le_of_ble_eq_true rfl, Nat.le_of_ble_eq_true rfl⟩ ⟨rfl, rfl⟩ ⟨Nat.le_of_ble_eq_true rfl, Nat.le_of_ble_eq_true rfl⟩ dX6_passHourAt_11 (fun H locs hP hS => ?_)
      obtain ⟨r_5, hr_5⟩ : ∃ z, z = (v_clearAt (va_up vl 1 vl1_3) vs pl ps v1) := ⟨_, rfl⟩
      rw [← hr_5] at hP
      have hP : va_P (dC, dI) vwCl (cws cI ad ML MS PL PS (va_up VL vn (va_up vl 1 r_5)) VS LL) H := (cws_cg rfl rfl rfl rfl (va_trf rfl (va_uu _ _ _ _) (va_uu _ _ _ _)) rfl hP)
      refine lv_iinc (v := (nI (i_3 + 1))) (lv' := [(4, .int (nI (i_3 + 1))), (0, .ref (ad (66 + 13 * vn))), (1, .int v1), (2, .int v2), (3, .int v3)]) hx hb dX6_passHourAt_14 hl (k := 4) rfl (nI_add _ _) (by decide) rfl (fun ls hl => ?_)
      refine lv_goto (tgt := 3) hx hb dX6_passHourAt_17 (by decide) ?_
      have hL_3 : (v_passHourAt_L3 vl vs pl ps v1 (n_3 + 1) i_3 vl1_3) = (v_passHourAt_L3 vl vs pl ps v1 n_3 (i_3 + 1) r_5) := by subst hr_5; rw [v_passHourAt_L3.eq_2]
      try rw [hL_3] at hk_3
      exact ih_3 (i_3 + 1) r_5 (by omega) _ _ _ hP hS (lv_sub hl [1, 2, 3, 4, 0] rfl)  hk_3
  have hP : va_P (dC, dI) vwCl (cws cI ad ML MS PL PS (va_up VL vn (va_up vl 1 (vl 1))) VS LL) s.heap := (cws_cg rfl rfl rfl rfl (va_ad rfl (Eq.trans hvl (va_ad rfl rfl))) rfl hP)
  exact loop_3 v3.toNatClampNeg 0 (vl 1) (by omega) _ _ _ hP hS (lv_sub hl [1, 2, 3, 4, 0] rfl)  (fun H locs ls hP hS hl  => rest_3 (v_passHourAt_L3 vl vs pl ps v1 v3.toNatClampNeg 0 (vl 1)) _ _ _ hP hS hl  (by rw [v_passHourAt]))

end CLS
