section CLS
variable {l : Launch} {dC : Nat → ClassId} {dI : Nat → Nat → Nat} {cI : ClassId} {ad : Nat → Nat} {ML : Nat → Nat → Int32} {MS : Nat → Int32} {PL : Nat → Nat → Nat → Int32} {PS : Nat → Nat → Int32} {VL : Nat → Nat → Nat → Int32} {VS : Nat → Nat → Int32} {LL : Int64} {vn wn pn : Nat} {vl wl pl : Nat → Nat → Int32} {vs wz ps : Nat → Int32}
-- X3_isSnowy
def u_isSnowy (vl : Nat → Nat → Int32) (vs : Nat → Int32) (ps : Nat → Int32) (v1 : Int32) : Int32 := if (v_stands vs ps v1) = 0 then 0 else (if ((rg 16 (vl 1) (2 * v1)) + (rg 16 (vl 1) ((2 * v1) + 1))) ≤ 0 then 0 else 1)
set_option maxHeartbeats 4000000 in
set_option maxRecDepth 100000 in
theorem c_u_isSnowy (hI : kInj ad 183) (hv : vn < 9) (hvl : VL vn = vl) (hvs : VS vn = vs) (hpl : PL 0 = pl) (hps : PS 0 = ps) (v1 : Int32) : Met l yX3_isSnowy (.code yX3_isSnowy cX3_isSnowy 2 (some .boolean) :: kT) ({ frames := 1, cells := 0, slots := 0, locals := 21 } : Room) (va_Pc [.ref (ad (66 + 13 * vn)), .int v1] (kB (dC, dI) [(cI, .int)] (cws cI ad ML MS PL PS VL VS LL))) (kR (some (.int (u_isSnowy vl vs ps v1)))) 0 0 (fun _ => False) := by
  refine kMet (by decide) (fun p e s m args below meth c ls hx hb hr hml hts hown hlocks hname hargs hB hl => ?_) (Nat.le_of_ble_eq_true rfl)
  obtain ⟨hP, hK, hN⟩ := hB
  have hl : lv_has ls 2 [(0, .ref (ad (66 + 13 * vn))), (1, .int v1)] := hl
  refine lv_aload_n hx hb dX3_isSnowy_0 rfl (lv_at hl 0 rfl) ?_
  refine lv_iload_n hx hb dX3_isSnowy_1 rfl (lv_at hl 1 rfl) ?_
  refine k_rV (v := .int (v_stands vs ps v1)) (As := [.int v1]) (rest := []) hx hb hml hown hts hl.1 hP hK hN (c_v_stands hI hv hvl hvs hpl hps v1) eX3_40 (ci := 5) (q0 := 66 + 13 * vn) rfl rfl (xV (v := vn) hv hvs) rfl rfl (Nat.le_of_ble_eq_true rfl) ⟨Nat.le_of_ble_eq_true rfl, Nat.le_of_ble_eq_true rfl⟩ ⟨rfl, rfl⟩ ⟨Nat.le_of_ble_eq_true rfl, Nat.le_of_ble_eq_true rfl⟩ dX3_isSnowy_2 ?_
  refine lv_if_eq (tgt := 38) hx hb dX3_isSnowy_5 (by decide) (fun c_3 => ?_) (fun c_3 => ?_)
  · refine lv_iconst (v := 0) hx hb dX3_isSnowy_38 (by decide) ?_
    have hE : (u_isSnowy vl vs ps v1) = 0 := by rw [u_isSnowy, if_pos c_3]
    exact W.zret (v := 0) hx hb hr rfl (fun t ht hW => ⟨by rw [hE], ht⟩) (fun _ h => absurd h List.not_mem_nil) dX3_isSnowy_39 hlocks
  · refine lv_aload_n hx hb dX3_isSnowy_8 rfl (lv_at hl 0 rfl) ?_
    refine k_getN (q0 := 66 + 13 * vn) (ci := 5) (v := .ref (ad (66 + 13 * vn + 1))) hx hb hts hN inT_X6 hown hK hP (xV (v := vn) hv hvs) rfl 1 (by decide) rfl kX3_44 rfl dX3_isSnowy_9 ?_
    refine lv_iconst (v := 2) hx hb dX3_isSnowy_12 (by decide) ?_
    refine lv_iload_n hx hb dX3_isSnowy_13 rfl (lv_at hl 1 rfl) ?_
    refine lv_imul hx hb dX3_isSnowy_14 ?_
    refine k_rV (v := .int (rg 16 (vl 1) (2 * v1))) (As := [.int (2 * v1)]) (rest := []) hx hb hml hown hts hl.1 hP hK hN (c_rg (f := (vl 1)) (n := 16) (wVo (v := vn) hv 1 (by decide) (by decide)) (xVa (v := vn) hv hvl 1 (by decide) (by decide) rfl rfl) (by decide) (2 * v1)) eX3_48 (ci := 2) (q0 := 66 + 13 * vn + 1) rfl rfl (wVo (v := vn) hv 1 (by decide) (by decide)) rfl rfl (Nat.le_of_ble_eq_true rfl) ⟨Nat.le_of_ble_eq_true rfl, Nat.le_of_ble_eq_true rfl⟩ ⟨rfl, rfl⟩ ⟨Nat.le_of_ble_eq_true rfl, Nat.le_of_ble_eq_true rfl⟩ dX3_isSnowy_15 ?_
    refine lv_aload_n hx hb dX3_isSnowy_18 rfl (lv_at hl 0 rfl) ?_
    refine k_getN (q0 := 66 + 13 * vn) (ci := 5) (v := .ref (ad (66 + 13 * vn + 1))) hx hb hts hN inT_X6 hown hK hP (xV (v := vn) hv hvs) rfl 1 (by decide) rfl kX3_44 rfl dX3_isSnowy_19 ?_
    refine lv_iconst (v := 2) hx hb dX3_isSnowy_22 (by decide) ?_
    refine lv_iload_n hx hb dX3_isSnowy_23 rfl (lv_at hl 1 rfl) ?_
    refine lv_imul hx hb dX3_isSnowy_24 ?_
    refine lv_iconst (v := 1) hx hb dX3_isSnowy_25 (by decide) ?_
    refine lv_iadd hx hb dX3_isSnowy_26 ?_
    refine k_rV (v := .int (rg 16 (vl 1) ((2 * v1) + 1))) (As := [.int ((2 * v1) + 1)]) (rest := [.int (rg 16 (vl 1) (2 * v1))]) hx hb hml hown hts hl.1 hP hK hN (c_rg (f := (vl 1)) (n := 16) (wVo (v := vn) hv 1 (by decide) (by decide)) (xVa (v := vn) hv hvl 1 (by decide) (by decide) rfl rfl) (by decide) ((2 * v1) + 1)) eX3_48 (ci := 2) (q0 := 66 + 13 * vn + 1) rfl rfl (wVo (v := vn) hv 1 (by decide) (by decide)) rfl rfl (Nat.le_of_ble_eq_true rfl) ⟨Nat.le_of_ble_eq_true rfl, Nat.le_of_ble_eq_true rfl⟩ ⟨rfl, rfl⟩ ⟨Nat.le_of_ble_eq_true rfl, Nat.le_of_ble_eq_true rfl⟩ dX3_isSnowy_27 ?_
    refine lv_iadd hx hb dX3_isSnowy_30 ?_
    refine lv_if_le (tgt := 38) hx hb dX3_isSnowy_31 (by decide) (fun c_4 => ?_) (fun c_4 => ?_)
    · refine lv_iconst (v := 0) hx hb dX3_isSnowy_38 (by decide) ?_
      have hE : (u_isSnowy vl vs ps v1) = 0 := by rw [u_isSnowy, if_neg c_3, if_pos c_4]
      exact W.zret (v := 0) hx hb hr rfl (fun t ht hW => ⟨by rw [hE], ht⟩) (fun _ h => absurd h List.not_mem_nil) dX3_isSnowy_39 hlocks
    · refine lv_iconst (v := 1) hx hb dX3_isSnowy_34 (by decide) ?_
      refine lv_goto (tgt := 39) hx hb dX3_isSnowy_35 (by decide) ?_
      have hE : (u_isSnowy vl vs ps v1) = 1 := by rw [u_isSnowy, if_neg c_3, if_neg c_4]
      exact W.zret (v := 1) hx hb hr rfl (fun t ht hW => ⟨by rw [hE], ht⟩) (fun _ h => absurd h List.not_mem_nil) dX3_isSnowy_39 hlocks
-- X3_deeperSide
def u_deeperSide (vl : Nat → Nat → Int32) (v1 : Int32) : Int32 := if 0 ≤ v1 then (if (rg 16 (vl 1) ((2 * v1) + 1)) ≤ (rg 16 (vl 1) (2 * v1)) then (2 * v1) else ((2 * v1) + 1)) else 16
set_option maxHeartbeats 4000000 in
set_option maxRecDepth 100000 in
theorem c_u_deeperSide (hI : kInj ad 183) (hv : vn < 9) (hvl : VL vn = vl) (hvs : VS vn = vs) (hpl : PL 0 = pl) (hps : PS 0 = ps) (v1 : Int32) : Met l yX3_deeperSide (.code yX3_deeperSide cX3_deeperSide 2 (some .int) :: kT) ({ frames := 1, cells := 0, slots := 0, locals := 21 } : Room) (va_Pc [.ref (ad (66 + 13 * vn)), .int v1] (kB (dC, dI) [(cI, .int)] (cws cI ad ML MS PL PS VL VS LL))) (kR (some (.int (u_deeperSide vl v1)))) 0 0 (fun _ => False) := by
  refine kMet (by decide) (fun p e s m args below meth c ls hx hb hr hml hts hown hlocks hname hargs hB hl => ?_) (Nat.le_of_ble_eq_true rfl)
  obtain ⟨hP, hK, hN⟩ := hB
  have hl : lv_has ls 2 [(0, .ref (ad (66 + 13 * vn))), (1, .int v1)] := hl
  refine lv_iload_n hx hb dX3_deeperSide_0 rfl (lv_at hl 1 rfl) ?_
  refine lv_if_ge (tgt := 7) hx hb dX3_deeperSide_1 (by decide) (fun c_3 => ?_) (fun c_3 => ?_)
  · refine lv_aload_n hx hb dX3_deeperSide_7 rfl (lv_at hl 0 rfl) ?_
    refine k_getN (q0 := 66 + 13 * vn) (ci := 5) (v := .ref (ad (66 + 13 * vn + 1))) hx hb hts hN inT_X6 hown hK hP (xV (v := vn) hv hvs) rfl 1 (by decide) rfl kX3_44 rfl dX3_deeperSide_8 ?_
    refine lv_iconst (v := 2) hx hb dX3_deeperSide_11 (by decide) ?_
    refine lv_iload_n hx hb dX3_deeperSide_12 rfl (lv_at hl 1 rfl) ?_
    refine lv_imul hx hb dX3_deeperSide_13 ?_
    refine lv_iconst (v := 1) hx hb dX3_deeperSide_14 (by decide) ?_
    refine lv_iadd hx hb dX3_deeperSide_15 ?_
    refine k_rV (v := .int (rg 16 (vl 1) ((2 * v1) + 1))) (As := [.int ((2 * v1) + 1)]) (rest := []) hx hb hml hown hts hl.1 hP hK hN (c_rg (f := (vl 1)) (n := 16) (wVo (v := vn) hv 1 (by decide) (by decide)) (xVa (v := vn) hv hvl 1 (by decide) (by decide) rfl rfl) (by decide) ((2 * v1) + 1)) eX3_48 (ci := 2) (q0 := 66 + 13 * vn + 1) rfl rfl (wVo (v := vn) hv 1 (by decide) (by decide)) rfl rfl (Nat.le_of_ble_eq_true rfl) ⟨Nat.le_of_ble_eq_true rfl, Nat.le_of_ble_eq_true rfl⟩ ⟨rfl, rfl⟩ ⟨Nat.le_of_ble_eq_true rfl, Nat.le_of_ble_eq_true rfl⟩ dX3_deeperSide_16 ?_
    refine lv_aload_n hx hb dX3_deeperSide_19 rfl (lv_at hl 0 rfl) ?_
    refine k_getN (q0 := 66 + 13 * vn) (ci := 5) (v := .ref (ad (66 + 13 * vn + 1))) hx hb hts hN inT_X6 hown hK hP (xV (v := vn) hv hvs) rfl 1 (by decide) rfl kX3_44 rfl dX3_deeperSide_20 ?_
    refine lv_iconst (v := 2) hx hb dX3_deeperSide_23 (by decide) ?_
    refine lv_iload_n hx hb dX3_deeperSide_24 rfl (lv_at hl 1 rfl) ?_
    refine lv_imul hx hb dX3_deeperSide_25 ?_
    refine k_rV (v := .int (rg 16 (vl 1) (2 * v1))) (As := [.int (2 * v1)]) (rest := [.int (rg 16 (vl 1) ((2 * v1) + 1))]) hx hb hml hown hts hl.1 hP hK hN (c_rg (f := (vl 1)) (n := 16) (wVo (v := vn) hv 1 (by decide) (by decide)) (xVa (v := vn) hv hvl 1 (by decide) (by decide) rfl rfl) (by decide) (2 * v1)) eX3_48 (ci := 2) (q0 := 66 + 13 * vn + 1) rfl rfl (wVo (v := vn) hv 1 (by decide) (by decide)) rfl rfl (Nat.le_of_ble_eq_true rfl) ⟨Nat.le_of_ble_eq_true rfl, Nat.le_of_ble_eq_true rfl⟩ ⟨rfl, rfl⟩ ⟨Nat.le_of_ble_eq_true rfl, Nat.le_of_ble_eq_true rfl⟩ dX3_deeperSide_26 ?_
    refine lv_icmp_le (tgt := 40) hx hb dX3_deeperSide_29 (by decide) (fun c_4 => ?_) (fun c_4 => ?_)
    · refine lv_iconst (v := 2) hx hb dX3_deeperSide_40 (by decide) ?_
      refine lv_iload_n hx hb dX3_deeperSide_41 rfl (lv_at hl 1 rfl) ?_
      refine lv_imul hx hb dX3_deeperSide_42 ?_
      have hE : (u_deeperSide vl v1) = (2 * v1) := by rw [u_deeperSide, if_pos c_3, if_pos c_4]
      exact W.iret (v := (2 * v1)) hx hb hr (fun t ht hW => ⟨by rw [hE], ht⟩) (fun _ h => absurd h List.not_mem_nil) dX3_deeperSide_43 hlocks
    · refine lv_iconst (v := 2) hx hb dX3_deeperSide_32 (by decide) ?_
      refine lv_iload_n hx hb dX3_deeperSide_33 rfl (lv_at hl 1 rfl) ?_
      refine lv_imul hx hb dX3_deeperSide_34 ?_
      refine lv_iconst (v := 1) hx hb dX3_deeperSide_35 (by decide) ?_
      refine lv_iadd hx hb dX3_deeperSide_36 ?_
      refine lv_goto (tgt := 43) hx hb dX3_deeperSide_37 (by decide) ?_
      have hE : (u_deeperSide vl v1) = ((2 * v1) + 1) := by rw [u_deeperSide, if_pos c_3, if_neg c_4]
      exact W.iret (v := ((2 * v1) + 1)) hx hb hr (fun t ht hW => ⟨by rw [hE], ht⟩) (fun _ h => absurd h List.not_mem_nil) dX3_deeperSide_43 hlocks
  · refine lv_bipush (v := 16) hx hb dX3_deeperSide_4 (by decide) ?_
    have hE : (u_deeperSide vl v1) = 16 := by rw [u_deeperSide, if_neg c_3]
    exact W.iret (v := 16) hx hb hr (fun t ht hW => ⟨by rw [hE], ht⟩) (fun _ h => absurd h List.not_mem_nil) dX3_deeperSide_6 hlocks
-- X3_deepest
def u_deepest_k5 (v1 : Int32) : Int32 := v1
def u_deepest_L5 (vl : Nat → Nat → Int32) (vs : Nat → Int32) (ps : Nat → Int32) : Nat → Nat → Int32 → Int32
  | 0, i, v1 => v1
  | n + 1, i, v1 => if (v_stands vs ps (nI (i / 2))) = 0 then u_deepest_L5 vl vs ps n (i + 1) v1 else (if (rg 16 (vl 1) (nI i)) ≤ (rg 16 (vl 1) v1) then u_deepest_L5 vl vs ps n (i + 1) v1 else u_deepest_L5 vl vs ps n (i + 1) (nI i))
def u_deepest (vl : Nat → Nat → Int32) (vs : Nat → Int32) (ps : Nat → Int32) : Int32 := u_deepest_k5 (u_deepest_L5 vl vs ps ((2 * (ps 0)).toNatClampNeg) 0 16)
set_option maxHeartbeats 4000000 in
set_option maxRecDepth 100000 in
theorem c_u_deepest (hI : kInj ad 183) (hv : vn < 9) (hvl : VL vn = vl) (hvs : VS vn = vs) (hpl : PL 0 = pl) (hps : PS 0 = ps)  : Met l yX3_deepest (.code yX3_deepest cX3_deepest 3 (some .int) :: kT) ({ frames := 1, cells := 0, slots := 0, locals := 21 } : Room) (va_Pc [.ref (ad (66 + 13 * vn))] (kB (dC, dI) [(cI, .int)] (cws cI ad ML MS PL PS VL VS LL))) (kR (some (.int (u_deepest vl vs ps)))) 0 0 (fun _ => False) := by
  refine kMet (by decide) (fun p e s m args below meth c ls hx hb hr hml hts hown hlocks hname hargs hB hl => ?_) (Nat.le_of_ble_eq_true rfl)
  obtain ⟨hP, hK, hN⟩ := hB
  have hl : lv_has ls 3 [(0, .ref (ad (66 + 13 * vn)))] := hl
  refine lv_bipush (v := 16) hx hb dX3_deepest_0 (by decide) ?_
  refine lv_istore_n (lv' := [(1, .int 16), (0, .ref (ad (66 + 13 * vn)))]) hx hb dX3_deepest_2 rfl hl (by decide) rfl (fun ls hl => ?_)
  refine lv_iconst (v := 0) hx hb dX3_deepest_3 (by decide) ?_
  refine lv_istore_n (lv' := [(2, .int 0), (1, .int 16), (0, .ref (ad (66 + 13 * vn)))]) hx hb dX3_deepest_4 rfl hl (by decide) rfl (fun ls hl => ?_)
  have rest_5 : ∀ (x1_5 : Int32), ∀ (ls : Array Slot), lv_has ls 3 [(1, .int x1_5)] → (u_deepest vl vs ps) = u_deepest_k5 x1_5 → W p l e ({ frames := 1, cells := 0, slots := 0, locals := 21 } : Room) s m args below meth c s.heap [] 0 0 (MQ below (kR (some (.int (u_deepest vl vs ps)))) args s 0 0 (fun _ => False)) (F0 m 55 ls []) := by
    intro x1_5 ls hl  hF_5
    refine lv_iload_n hx hb dX3_deepest_55 rfl (lv_at hl 0 rfl) ?_
    have hE : (u_deepest vl vs ps) = x1_5 := hF_5.trans (by rw [u_deepest_k5])
    exact W.iret (v := x1_5) hx hb hr (fun t ht hW => ⟨by rw [hE], ht⟩) (fun _ h => absurd h List.not_mem_nil) dX3_deepest_56 hlocks
  have hN_5 : ((2 * (ps 0)).toNatClampNeg) < 2 ^ 31 := kcl_lt _
  have loop_5 : ∀ (n_5 i_5 : Nat) (x1_5 : Int32), i_5 + n_5 = (2 * (ps 0)).toNatClampNeg → ∀ (ls : Array Slot), lv_has ls 3 [(0, .ref (ad (66 + 13 * vn))), (1, .int x1_5), (2, .int (nI i_5))] → (∀ (ls : Array Slot), lv_has ls 3 [(1, .int (u_deepest_L5 vl vs ps n_5 i_5 x1_5))] → W p l e ({ frames := 1, cells := 0, slots := 0, locals := 21 } : Room) s m args below meth c s.heap [] 0 0 (MQ below (kR (some (.int (u_deepest vl vs ps)))) args s 0 0 (fun _ => False)) (F0 m 55 ls [])) → W p l e ({ frames := 1, cells := 0, slots := 0, locals := 21 } : Room) s m args below meth c s.heap [] 0 0 (MQ below (kR (some (.int (u_deepest vl vs ps)))) args s 0 0 (fun _ => False)) (F0 m 5 ls []) := by
    intro n_5
    induction n_5 with
    | zero =>
      intro i_5 x1_5 hin_5 ls hl  hk_5
      refine lv_iload_n hx hb dX3_deepest_5 rfl (lv_at hl 2 rfl) ?_
      refine lv_iconst (v := 2) hx hb dX3_deepest_6 (by decide) ?_
      refine lv_aload_n hx hb dX3_deepest_7 rfl (lv_at hl 0 rfl) ?_
      refine k_getN (q0 := 66 + 13 * vn) (ci := 5) (v := .ref (ad 16)) hx hb hts hN inT_X6 hown hK hP (xV (v := vn) hv hvs) rfl 0 (by decide) rfl kX3_31 rfl dX3_deepest_8 ?_
      refine k_getN (q0 := 16 + 25 * 0) (ci := 0) (v := .int (ps 0)) hx hb hts hN inT_X0 hown hK hP (xP (p := 0) (by decide) hps) rfl 0 (by decide) rfl kX3_35 rfl dX3_deepest_11 ?_
      refine lv_imul hx hb dX3_deepest_14 ?_
      refine lv_icmp_ge (tgt := 55) hx hb dX3_deepest_15 (by decide) (fun _ => ?_) (fun c_4 => absurd (kct_ge (N := (2 * (ps 0)).toNatClampNeg) rfl (by omega) (by omega)) c_4)
      have hL_5 : (u_deepest_L5 vl vs ps 0 i_5 x1_5) = x1_5 := by rw [u_deepest_L5.eq_1]
      try rw [hL_5] at hk_5
      exact hk_5 _ (lv_sub hl [1] rfl) 
    | succ n_5 ih_5 =>
      intro i_5 x1_5 hin_5 ls hl  hk_5
      refine lv_iload_n hx hb dX3_deepest_5 rfl (lv_at hl 2 rfl) ?_
      refine lv_iconst (v := 2) hx hb dX3_deepest_6 (by decide) ?_
      refine lv_aload_n hx hb dX3_deepest_7 rfl (lv_at hl 0 rfl) ?_
      refine k_getN (q0 := 66 + 13 * vn) (ci := 5) (v := .ref (ad 16)) hx hb hts hN inT_X6 hown hK hP (xV (v := vn) hv hvs) rfl 0 (by decide) rfl kX3_31 rfl dX3_deepest_8 ?_
      refine k_getN (q0 := 16 + 25 * 0) (ci := 0) (v := .int (ps 0)) hx hb hts hN inT_X0 hown hK hP (xP (p := 0) (by decide) hps) rfl 0 (by decide) rfl kX3_35 rfl dX3_deepest_11 ?_
      refine lv_imul hx hb dX3_deepest_14 ?_
      refine lv_icmp_ge (tgt := 55) hx hb dX3_deepest_15 (by decide) (fun c_5 => absurd c_5 (kct_lt (N := (2 * (ps 0)).toNatClampNeg) rfl (by omega))) (fun _ => ?_)
      refine lv_aload_n hx hb dX3_deepest_18 rfl (lv_at hl 0 rfl) ?_
      refine lv_iload_n hx hb dX3_deepest_19 rfl (lv_at hl 2 rfl) ?_
      refine lv_iconst (v := 2) hx hb dX3_deepest_20 (by decide) ?_
      refine lv_idiv hx hb dX3_deepest_21 (by decide) ?_
      refine kn_top (x' := (nI (i_5 / 2))) (pk_div (a := i_5) (d := 2) (by omega) (by omega) (by omega)) ?_
      refine k_rV (v := .int (v_stands vs ps (nI (i_5 / 2)))) (As := [.int (nI (i_5 / 2))]) (rest := []) hx hb hml hown hts hl.1 hP hK hN (c_v_stands hI hv hvl hvs hpl hps (nI (i_5 / 2))) eX3_40 (ci := 5) (q0 := 66 + 13 * vn) rfl rfl (xV (v := vn) hv hvs) rfl rfl (Nat.le_of_ble_eq_true rfl) ⟨Nat.le_of_ble_eq_true rfl, Nat.le_of_ble_eq_true rfl⟩ ⟨rfl, rfl⟩ ⟨Nat.le_of_ble_eq_true rfl, Nat.le_of_ble_eq_true rfl⟩ dX3_deepest_22 ?_
      refine lv_if_eq (tgt := 49) hx hb dX3_deepest_25 (by decide) (fun c_6 => ?_) (fun c_6 => ?_)
      · refine lv_iinc (v := (nI (i_5 + 1))) (lv' := [(2, .int (nI (i_5 + 1))), (0, .ref (ad (66 + 13 * vn))), (1, .int x1_5)]) hx hb dX3_deepest_49 hl (k := 2) rfl (nI_add _ _) (by decide) rfl (fun ls hl => ?_)
        refine lv_goto (tgt := 5) hx hb dX3_deepest_52 (by decide) ?_
        have hL_5 : (u_deepest_L5 vl vs ps (n_5 + 1) i_5 x1_5) = (u_deepest_L5 vl vs ps n_5 (i_5 + 1) x1_5) := by rw [u_deepest_L5.eq_2, if_pos c_6]
        try rw [hL_5] at hk_5
        exact ih_5 (i_5 + 1) x1_5 (by omega) _ (lv_sub hl [1, 2, 0] rfl)  hk_5
      · refine lv_aload_n hx hb dX3_deepest_28 rfl (lv_at hl 0 rfl) ?_
        refine k_getN (q0 := 66 + 13 * vn) (ci := 5) (v := .ref (ad (66 + 13 * vn + 1))) hx hb hts hN inT_X6 hown hK hP (xV (v := vn) hv hvs) rfl 1 (by decide) rfl kX3_44 rfl dX3_deepest_29 ?_
        refine lv_iload_n hx hb dX3_deepest_32 rfl (lv_at hl 2 rfl) ?_
        refine k_rV (v := .int (rg 16 (vl 1) (nI i_5))) (As := [.int (nI i_5)]) (rest := []) hx hb hml hown hts hl.1 hP hK hN (c_rg (f := (vl 1)) (n := 16) (wVo (v := vn) hv 1 (by decide) (by decide)) (xVa (v := vn) hv hvl 1 (by decide) (by decide) rfl rfl) (by decide) (nI i_5)) eX3_48 (ci := 2) (q0 := 66 + 13 * vn + 1) rfl rfl (wVo (v := vn) hv 1 (by decide) (by decide)) rfl rfl (Nat.le_of_ble_eq_true rfl) ⟨Nat.le_of_ble_eq_true rfl, Nat.le_of_ble_eq_true rfl⟩ ⟨rfl, rfl⟩ ⟨Nat.le_of_ble_eq_true rfl, Nat.le_of_ble_eq_true rfl⟩ dX3_deepest_33 ?_
        refine lv_aload_n hx hb dX3_deepest_36 rfl (lv_at hl 0 rfl) ?_
        refine k_getN (q0 := 66 + 13 * vn) (ci := 5) (v := .ref (ad (66 + 13 * vn + 1))) hx hb hts hN inT_X6 hown hK hP (xV (v := vn) hv hvs) rfl 1 (by decide) rfl kX3_44 rfl dX3_deepest_37 ?_
        refine lv_iload_n hx hb dX3_deepest_40 rfl (lv_at hl 1 rfl) ?_
        refine k_rV (v := .int (rg 16 (vl 1) x1_5)) (As := [.int x1_5]) (rest := [.int (rg 16 (vl 1) (nI i_5))]) hx hb hml hown hts hl.1 hP hK hN (c_rg (f := (vl 1)) (n := 16) (wVo (v := vn) hv 1 (by decide) (by decide)) (xVa (v := vn) hv hvl 1 (by decide) (by decide) rfl rfl) (by decide) x1_5) eX3_48 (ci := 2) (q0 := 66 + 13 * vn + 1) rfl rfl (wVo (v := vn) hv 1 (by decide) (by decide)) rfl rfl (Nat.le_of_ble_eq_true rfl) ⟨Nat.le_of_ble_eq_true rfl, Nat.le_of_ble_eq_true rfl⟩ ⟨rfl, rfl⟩ ⟨Nat.le_of_ble_eq_true rfl, Nat.le_of_ble_eq_true rfl⟩ dX3_deepest_41 ?_
        refine lv_icmp_le (tgt := 49) hx hb dX3_deepest_44 (by decide) (fun c_7 => ?_) (fun c_7 => ?_)
        · refine lv_iinc (v := (nI (i_5 + 1))) (lv' := [(2, .int (nI (i_5 + 1))), (0, .ref (ad (66 + 13 * vn))), (1, .int x1_5)]) hx hb dX3_deepest_49 hl (k := 2) rfl (nI_add _ _) (by decide) rfl (fun ls hl => ?_)
          refine lv_goto (tgt := 5) hx hb dX3_deepest_52 (by decide) ?_
          have hL_5 : (u_deepest_L5 vl vs ps (n_5 + 1) i_5 x1_5) = (u_deepest_L5 vl vs ps n_5 (i_5 + 1) x1_5) := by rw [u_deepest_L5.eq_2, if_neg c_6, if_pos c_7]
          try rw [hL_5] at hk_5
          exact ih_5 (i_5 + 1) x1_5 (by omega) _ (lv_sub hl [1, 2, 0] rfl)  hk_5
        · refine lv_iload_n hx hb dX3_deepest_47 rfl (lv_at hl 2 rfl) ?_
          refine lv_istore_n (lv' := [(1, .int (nI i_5)), (0, .ref (ad (66 + 13 * vn))), (2, .int (nI i_5))]) hx hb dX3_deepest_48 rfl hl (by decide) rfl (fun ls hl => ?_)
          refine lv_iinc (v := (nI (i_5 + 1))) (lv' := [(2, .int (nI (i_5 + 1))), (1, .int (nI i_5)), (0, .ref (ad (66 + 13 * vn)))]) hx hb dX3_deepest_49 hl (k := 2) rfl (nI_add _ _) (by decide) rfl (fun ls hl => ?_)
          refine lv_goto (tgt := 5) hx hb dX3_deepest_52 (by decide) ?_
          have hL_5 : (u_deepest_L5 vl vs ps (n_5 + 1) i_5 x1_5) = (u_deepest_L5 vl vs ps n_5 (i_5 + 1) (nI i_5)) := by rw [u_deepest_L5.eq_2, if_neg c_6, if_neg c_7]
          try rw [hL_5] at hk_5
          exact ih_5 (i_5 + 1) (nI i_5) (by omega) _ (lv_sub hl [2, 1, 0] rfl)  hk_5
  exact loop_5 ((2 * (ps 0)).toNatClampNeg) 0 16 (by omega) _ (lv_sub hl [2, 1, 0] rfl)  (fun ls hl  => rest_5 (u_deepest_L5 vl vs ps ((2 * (ps 0)).toNatClampNeg) 0 16) _ hl  (by rw [u_deepest]))
-- X3_fullest
def u_fullest_k4 (v1 : Int32) : Int32 := v1
def u_fullest_L4 (vl : Nat → Nat → Int32) (vs : Nat → Int32) (pl : Nat → Nat → Int32) (ps : Nat → Int32) : Nat → Nat → Int32 → Int32
  | 0, i, v1 => v1
  | n + 1, i, v1 => if (u_isSnowy vl vs ps (nI i)) = 0 then u_fullest_L4 vl vs pl ps n (i + 1) v1 else (if v1 < 0 then u_fullest_L4 vl vs pl ps n (i + 1) (nI i) else (if (rg 8 (pl 6) (nI i)) ≤ (rg 8 (pl 6) v1) then u_fullest_L4 vl vs pl ps n (i + 1) v1 else u_fullest_L4 vl vs pl ps n (i + 1) (nI i)))
def u_fullest (vl : Nat → Nat → Int32) (vs : Nat → Int32) (pl : Nat → Nat → Int32) (ps : Nat → Int32) : Int32 := u_fullest_k4 (u_fullest_L4 vl vs pl ps ((ps 0).toNatClampNeg) 0 (-1))
set_option maxHeartbeats 4000000 in
set_option maxRecDepth 100000 in
theorem c_u_fullest (hI : kInj ad 183) (hv : vn < 9) (hvl : VL vn = vl) (hvs : VS vn = vs) (hpl : PL 0 = pl) (hps : PS 0 = ps)  : Met l yX3_fullest (.code yX3_fullest cX3_fullest 3 (some .int) :: kT) ({ frames := 2, cells := 0, slots := 0, locals := 42 } : Room) (va_Pc [.ref (ad (66 + 13 * vn))] (kB (dC, dI) [(cI, .int)] (cws cI ad ML MS PL PS VL VS LL))) (kR (some (.int (u_fullest vl vs pl ps)))) 0 0 (fun _ => False) := by
  refine kMet (by decide) (fun p e s m args below meth c ls hx hb hr hml hts hown hlocks hname hargs hB hl => ?_) (Nat.le_of_ble_eq_true rfl)
  obtain ⟨hP, hK, hN⟩ := hB
  have hl : lv_has ls 3 [(0, .ref (ad (66 + 13 * vn)))] := hl
  refine lv_iconst (v := (-1)) hx hb dX3_fullest_0 (by decide) ?_
  refine lv_istore_n (lv' := [(1, .int (-1)), (0, .ref (ad (66 + 13 * vn)))]) hx hb dX3_fullest_1 rfl hl (by decide) rfl (fun ls hl => ?_)
  refine lv_iconst (v := 0) hx hb dX3_fullest_2 (by decide) ?_
  refine lv_istore_n (lv' := [(2, .int 0), (1, .int (-1)), (0, .ref (ad (66 + 13 * vn)))]) hx hb dX3_fullest_3 rfl hl (by decide) rfl (fun ls hl => ?_)
  have rest_4 : ∀ (x1_4 : Int32), ∀ (ls : Array Slot), lv_has ls 3 [(1, .int x1_4)] → (u_fullest vl vs pl ps) = u_fullest_k4 x1_4 → W p l e ({ frames := 2, cells := 0, slots := 0, locals := 42 } : Room) s m args below meth c s.heap [] 0 0 (MQ below (kR (some (.int (u_fullest vl vs pl ps)))) args s 0 0 (fun _ => False)) (F0 m 60 ls []) := by
    intro x1_4 ls hl  hF_4
    refine lv_iload_n hx hb dX3_fullest_60 rfl (lv_at hl 0 rfl) ?_
    have hE : (u_fullest vl vs pl ps) = x1_4 := hF_4.trans (by rw [u_fullest_k4])
    exact W.iret (v := x1_4) hx hb hr (fun t ht hW => ⟨by rw [hE], ht⟩) (fun _ h => absurd h List.not_mem_nil) dX3_fullest_61 hlocks
  have hN_4 : ((ps 0).toNatClampNeg) < 2 ^ 31 := kcl_lt _
  have loop_4 : ∀ (n_4 i_4 : Nat) (x1_4 : Int32), i_4 + n_4 = (ps 0).toNatClampNeg → ∀ (ls : Array Slot), lv_has ls 3 [(0, .ref (ad (66 + 13 * vn))), (1, .int x1_4), (2, .int (nI i_4))] → (∀ (ls : Array Slot), lv_has ls 3 [(1, .int (u_fullest_L4 vl vs pl ps n_4 i_4 x1_4))] → W p l e ({ frames := 2, cells := 0, slots := 0, locals := 42 } : Room) s m args below meth c s.heap [] 0 0 (MQ below (kR (some (.int (u_fullest vl vs pl ps)))) args s 0 0 (fun _ => False)) (F0 m 60 ls [])) → W p l e ({ frames := 2, cells := 0, slots := 0, locals := 42 } : Room) s m args below meth c s.heap [] 0 0 (MQ below (kR (some (.int (u_fullest vl vs pl ps)))) args s 0 0 (fun _ => False)) (F0 m 4 ls []) := by
    intro n_4
    induction n_4 with
    | zero =>
      intro i_4 x1_4 hin_4 ls hl  hk_4
      refine lv_iload_n hx hb dX3_fullest_4 rfl (lv_at hl 2 rfl) ?_
      refine lv_aload_n hx hb dX3_fullest_5 rfl (lv_at hl 0 rfl) ?_
      refine k_getN (q0 := 66 + 13 * vn) (ci := 5) (v := .ref (ad 16)) hx hb hts hN inT_X6 hown hK hP (xV (v := vn) hv hvs) rfl 0 (by decide) rfl kX3_31 rfl dX3_fullest_6 ?_
      refine k_getN (q0 := 16 + 25 * 0) (ci := 0) (v := .int (ps 0)) hx hb hts hN inT_X0 hown hK hP (xP (p := 0) (by decide) hps) rfl 0 (by decide) rfl kX3_35 rfl dX3_fullest_9 ?_
      refine lv_icmp_ge (tgt := 60) hx hb dX3_fullest_12 (by decide) (fun _ => ?_) (fun c_5 => absurd (kct_ge (N := (ps 0).toNatClampNeg) rfl (by omega) (by omega)) c_5)
      have hL_4 : (u_fullest_L4 vl vs pl ps 0 i_4 x1_4) = x1_4 := by rw [u_fullest_L4.eq_1]
      try rw [hL_4] at hk_4
      exact hk_4 _ (lv_sub hl [1] rfl) 
    | succ n_4 ih_4 =>
      intro i_4 x1_4 hin_4 ls hl  hk_4
      refine lv_iload_n hx hb dX3_fullest_4 rfl (lv_at hl 2 rfl) ?_
      refine lv_aload_n hx hb dX3_fullest_5 rfl (lv_at hl 0 rfl) ?_
      refine k_getN (q0 := 66 + 13 * vn) (ci := 5) (v := .ref (ad 16)) hx hb hts hN inT_X6 hown hK hP (xV (v := vn) hv hvs) rfl 0 (by decide) rfl kX3_31 rfl dX3_fullest_6 ?_
      refine k_getN (q0 := 16 + 25 * 0) (ci := 0) (v := .int (ps 0)) hx hb hts hN inT_X0 hown hK hP (xP (p := 0) (by decide) hps) rfl 0 (by decide) rfl kX3_35 rfl dX3_fullest_9 ?_
      refine lv_icmp_ge (tgt := 60) hx hb dX3_fullest_12 (by decide) (fun c_6 => absurd c_6 (kct_lt (N := (ps 0).toNatClampNeg) rfl (by omega))) (fun _ => ?_)
      refine lv_aload_n hx hb dX3_fullest_15 rfl (lv_at hl 0 rfl) ?_
      refine lv_iload_n hx hb dX3_fullest_16 rfl (lv_at hl 2 rfl) ?_
      refine k_rS (v := .int (u_isSnowy vl vs ps (nI i_4))) (As := [.ref (ad (66 + 13 * vn)), .int (nI i_4)]) (rest := []) hx hb hml hown hts hl.1 kB.blind (fun U hU hW => kB.of hP hK hN hU hW) (c_u_isSnowy hI hv hvl hvs hpl hps (nI i_4)) eX3_57 rfl rfl (Nat.le_of_ble_eq_true rfl) ⟨Nat.le_of_ble_eq_true rfl, Nat.le_of_ble_eq_true rfl⟩ ⟨rfl, rfl⟩ ⟨Nat.le_of_ble_eq_true rfl, Nat.le_of_ble_eq_true rfl⟩ dX3_fullest_17 ?_
      refine lv_if_eq (tgt := 54) hx hb dX3_fullest_20 (by decide) (fun c_7 => ?_) (fun c_7 => ?_)
      · refine lv_iinc (v := (nI (i_4 + 1))) (lv' := [(2, .int (nI (i_4 + 1))), (0, .ref (ad (66 + 13 * vn))), (1, .int x1_4)]) hx hb dX3_fullest_54 hl (k := 2) rfl (nI_add _ _) (by decide) rfl (fun ls hl => ?_)
        refine lv_goto (tgt := 4) hx hb dX3_fullest_57 (by decide) ?_
        have hL_4 : (u_fullest_L4 vl vs pl ps (n_4 + 1) i_4 x1_4) = (u_fullest_L4 vl vs pl ps n_4 (i_4 + 1) x1_4) := by rw [u_fullest_L4.eq_2, if_pos c_7]
        try rw [hL_4] at hk_4
        exact ih_4 (i_4 + 1) x1_4 (by omega) _ (lv_sub hl [1, 2, 0] rfl)  hk_4
      · refine lv_iload_n hx hb dX3_fullest_23 rfl (lv_at hl 1 rfl) ?_
        refine lv_if_lt (tgt := 52) hx hb dX3_fullest_24 (by decide) (fun c_8 => ?_) (fun c_8 => ?_)
        · refine lv_iload_n hx hb dX3_fullest_52 rfl (lv_at hl 2 rfl) ?_
          refine lv_istore_n (lv' := [(1, .int (nI i_4)), (0, .ref (ad (66 + 13 * vn))), (2, .int (nI i_4))]) hx hb dX3_fullest_53 rfl hl (by decide) rfl (fun ls hl => ?_)
          refine lv_iinc (v := (nI (i_4 + 1))) (lv' := [(2, .int (nI (i_4 + 1))), (1, .int (nI i_4)), (0, .ref (ad (66 + 13 * vn)))]) hx hb dX3_fullest_54 hl (k := 2) rfl (nI_add _ _) (by decide) rfl (fun ls hl => ?_)
          refine lv_goto (tgt := 4) hx hb dX3_fullest_57 (by decide) ?_
          have hL_4 : (u_fullest_L4 vl vs pl ps (n_4 + 1) i_4 x1_4) = (u_fullest_L4 vl vs pl ps n_4 (i_4 + 1) (nI i_4)) := by rw [u_fullest_L4.eq_2, if_neg c_7, if_pos c_8]
          try rw [hL_4] at hk_4
          exact ih_4 (i_4 + 1) (nI i_4) (by omega) _ (lv_sub hl [2, 1, 0] rfl)  hk_4
        · refine lv_aload_n hx hb dX3_fullest_27 rfl (lv_at hl 0 rfl) ?_
          refine k_getN (q0 := 66 + 13 * vn) (ci := 5) (v := .ref (ad 16)) hx hb hts hN inT_X6 hown hK hP (xV (v := vn) hv hvs) rfl 0 (by decide) rfl kX3_31 rfl dX3_fullest_28 ?_
          refine k_getN (q0 := 16 + 25 * 0) (ci := 0) (v := .ref (ad (16 + 25 * 0 + 11))) hx hb hts hN inT_X0 hown hK hP (xP (p := 0) (by decide) hps) rfl 6 (by decide) rfl kX3_72 rfl dX3_fullest_31 ?_
          refine lv_iload_n hx hb dX3_fullest_34 rfl (lv_at hl 2 rfl) ?_
          refine k_rV (v := .int (rg 8 (pl 6) (nI i_4))) (As := [.int (nI i_4)]) (rest := []) hx hb hml hown hts hl.1 hP hK hN (c_rg (f := (pl 6)) (n := 8) (wPo (p := 0) (by decide) 11 (by decide) (by decide)) (xPa (p := 0) (by decide) hpl 11 (by decide) (by decide) rfl rfl) (by decide) (nI i_4)) eX3_48 (ci := 2) (q0 := 16 + 25 * 0 + 11) rfl rfl (wPo (p := 0) (by decide) 11 (by decide) (by decide)) rfl rfl (Nat.le_of_ble_eq_true rfl) ⟨Nat.le_of_ble_eq_true rfl, Nat.le_of_ble_eq_true rfl⟩ ⟨rfl, rfl⟩ ⟨Nat.le_of_ble_eq_true rfl, Nat.le_of_ble_eq_true rfl⟩ dX3_fullest_35 ?_
          refine lv_aload_n hx hb dX3_fullest_38 rfl (lv_at hl 0 rfl) ?_
          refine k_getN (q0 := 66 + 13 * vn) (ci := 5) (v := .ref (ad 16)) hx hb hts hN inT_X6 hown hK hP (xV (v := vn) hv hvs) rfl 0 (by decide) rfl kX3_31 rfl dX3_fullest_39 ?_
          refine k_getN (q0 := 16 + 25 * 0) (ci := 0) (v := .ref (ad (16 + 25 * 0 + 11))) hx hb hts hN inT_X0 hown hK hP (xP (p := 0) (by decide) hps) rfl 6 (by decide) rfl kX3_72 rfl dX3_fullest_42 ?_
          refine lv_iload_n hx hb dX3_fullest_45 rfl (lv_at hl 1 rfl) ?_
          refine k_rV (v := .int (rg 8 (pl 6) x1_4)) (As := [.int x1_4]) (rest := [.int (rg 8 (pl 6) (nI i_4))]) hx hb hml hown hts hl.1 hP hK hN (c_rg (f := (pl 6)) (n := 8) (wPo (p := 0) (by decide) 11 (by decide) (by decide)) (xPa (p := 0) (by decide) hpl 11 (by decide) (by decide) rfl rfl) (by decide) x1_4) eX3_48 (ci := 2) (q0 := 16 + 25 * 0 + 11) rfl rfl (wPo (p := 0) (by decide) 11 (by decide) (by decide)) rfl rfl (Nat.le_of_ble_eq_true rfl) ⟨Nat.le_of_ble_eq_true rfl, Nat.le_of_ble_eq_true rfl⟩ ⟨rfl, rfl⟩ ⟨Nat.le_of_ble_eq_true rfl, Nat.le_of_ble_eq_true rfl⟩ dX3_fullest_46 ?_
          refine lv_icmp_le (tgt := 54) hx hb dX3_fullest_49 (by decide) (fun c_9 => ?_) (fun c_9 => ?_)
          · refine lv_iinc (v := (nI (i_4 + 1))) (lv' := [(2, .int (nI (i_4 + 1))), (0, .ref (ad (66 + 13 * vn))), (1, .int x1_4)]) hx hb dX3_fullest_54 hl (k := 2) rfl (nI_add _ _) (by decide) rfl (fun ls hl => ?_)
            refine lv_goto (tgt := 4) hx hb dX3_fullest_57 (by decide) ?_
            have hL_4 : (u_fullest_L4 vl vs pl ps (n_4 + 1) i_4 x1_4) = (u_fullest_L4 vl vs pl ps n_4 (i_4 + 1) x1_4) := by rw [u_fullest_L4.eq_2, if_neg c_7, if_neg c_8, if_pos c_9]
            try rw [hL_4] at hk_4
            exact ih_4 (i_4 + 1) x1_4 (by omega) _ (lv_sub hl [1, 2, 0] rfl)  hk_4
          · refine lv_iload_n hx hb dX3_fullest_52 rfl (lv_at hl 2 rfl) ?_
            refine lv_istore_n (lv' := [(1, .int (nI i_4)), (0, .ref (ad (66 + 13 * vn))), (2, .int (nI i_4))]) hx hb dX3_fullest_53 rfl hl (by decide) rfl (fun ls hl => ?_)
            refine lv_iinc (v := (nI (i_4 + 1))) (lv' := [(2, .int (nI (i_4 + 1))), (1, .int (nI i_4)), (0, .ref (ad (66 + 13 * vn)))]) hx hb dX3_fullest_54 hl (k := 2) rfl (nI_add _ _) (by decide) rfl (fun ls hl => ?_)
            refine lv_goto (tgt := 4) hx hb dX3_fullest_57 (by decide) ?_
            have hL_4 : (u_fullest_L4 vl vs pl ps (n_4 + 1) i_4 x1_4) = (u_fullest_L4 vl vs pl ps n_4 (i_4 + 1) (nI i_4)) := by rw [u_fullest_L4.eq_2, if_neg c_7, if_neg c_8, if_neg c_9]
            try rw [hL_4] at hk_4
            exact ih_4 (i_4 + 1) (nI i_4) (by omega) _ (lv_sub hl [2, 1, 0] rfl)  hk_4
  exact loop_4 ((ps 0).toNatClampNeg) 0 (-1) (by omega) _ (lv_sub hl [2, 1, 0] rfl)  (fun ls hl  => rest_4 (u_fullest_L4 vl vs pl ps ((ps 0).toNatClampNeg) 0 (-1)) _ hl  (by rw [u_fullest]))
-- X3_weakest
def u_weakest_k42 (v4 : Int32) : Int32 := v4
def u_weakest_L42 (vl : Nat → Nat → Int32) (vs : Nat → Int32) (pl : Nat → Nat → Int32) (ps : Nat → Int32) (v2 : Int32) (v3 : Int32) : Nat → Nat → Int32 → Int32 → Int32 → Int32 × Int32 × Int32
  | 0, i, v4, v5, v6 => (v4, v5, v6)
  | n + 1, i, v4, v5, v6 => if (u_isSnowy vl vs ps (nI i)) = 0 then u_weakest_L42 vl vs pl ps v2 v3 n (i + 1) v4 v5 v6 else (if v4 < 0 then u_weakest_L42 vl vs pl ps v2 v3 n (i + 1) (nI i) (v_chancesBelow vl pl (nI i) (v_loadWith vl pl ps (nI i) v2 v3)) (v_chances vl pl (nI i)) else (if ((v_chancesBelow vl pl (nI i) (v_loadWith vl pl ps (nI i) v2 v3)) * v6) ≤ (v5 * (v_chances vl pl (nI i))) then u_weakest_L42 vl vs pl ps v2 v3 n (i + 1) v4 v5 v6 else u_weakest_L42 vl vs pl ps v2 v3 n (i + 1) (nI i) (v_chancesBelow vl pl (nI i) (v_loadWith vl pl ps (nI i) v2 v3)) (v_chances vl pl (nI i))))
def u_weakest (vl : Nat → Nat → Int32) (vs : Nat → Int32) (pl : Nat → Nat → Int32) (ps : Nat → Int32) (v1 : Int32) : Int32 := u_weakest_k42 (u_weakest_L42 vl vs pl ps (rg 6 (pl 10) (2 * v1)) (rg 6 (pl 10) ((2 * v1) + 1)) ((ps 0).toNatClampNeg) 0 (-1) 0 0).1
set_option maxHeartbeats 4000000 in
set_option maxRecDepth 100000 in
theorem c_u_weakest (hI : kInj ad 183) (hv : vn < 9) (hvl : VL vn = vl) (hvs : VS vn = vs) (hpl : PL 0 = pl) (hps : PS 0 = ps) (v1 : Int32) : Met l yX3_weakest (.code yX3_weakest cX3_weakest 10 (some .int) :: kT) ({ frames := 3, cells := 0, slots := 0, locals := 69 } : Room) (va_Pc [.ref (ad (66 + 13 * vn)), .int v1] (kB (dC, dI) [(cI, .int)] (cws cI ad ML MS PL PS VL VS LL))) (kR (some (.int (u_weakest vl vs pl ps v1)))) 0 0 (fun _ => False) := by
  refine kMet (by decide) (fun p e s m args below meth c ls hx hb hr hml hts hown hlocks hname hargs hB hl => ?_) (Nat.le_of_ble_eq_true rfl)
  obtain ⟨hP, hK, hN⟩ := hB
  have hl : lv_has ls 10 [(0, .ref (ad (66 + 13 * vn))), (1, .int v1)] := hl
  refine lv_aload_n hx hb dX3_weakest_0 rfl (lv_at hl 0 rfl) ?_
  refine k_getN (q0 := 66 + 13 * vn) (ci := 5) (v := .ref (ad 16)) hx hb hts hN inT_X6 hown hK hP (xV (v := vn) hv hvs) rfl 0 (by decide) rfl kX3_31 rfl dX3_weakest_1 ?_
  refine k_getN (q0 := 16 + 25 * 0) (ci := 0) (v := .ref (ad (16 + 25 * 0 + 19))) hx hb hts hN inT_X0 hown hK hP (xP (p := 0) (by decide) hps) rfl 10 (by decide) rfl kX3_54 rfl dX3_weakest_4 ?_
  refine lv_iconst (v := 2) hx hb dX3_weakest_7 (by decide) ?_
  refine lv_iload_n hx hb dX3_weakest_8 rfl (lv_at hl 1 rfl) ?_
  refine lv_imul hx hb dX3_weakest_9 ?_
  refine k_rV (v := .int (rg 6 (pl 10) (2 * v1))) (As := [.int (2 * v1)]) (rest := []) hx hb hml hown hts hl.1 hP hK hN (c_rg (f := (pl 10)) (n := 6) (wPo (p := 0) (by decide) 19 (by decide) (by decide)) (xPa (p := 0) (by decide) hpl 19 (by decide) (by decide) rfl rfl) (by decide) (2 * v1)) eX3_48 (ci := 2) (q0 := 16 + 25 * 0 + 19) rfl rfl (wPo (p := 0) (by decide) 19 (by decide) (by decide)) rfl rfl (Nat.le_of_ble_eq_true rfl) ⟨Nat.le_of_ble_eq_true rfl, Nat.le_of_ble_eq_true rfl⟩ ⟨rfl, rfl⟩ ⟨Nat.le_of_ble_eq_true rfl, Nat.le_of_ble_eq_true rfl⟩ dX3_weakest_10 ?_
  refine lv_istore_n (lv' := [(2, .int (rg 6 (pl 10) (2 * v1))), (0, .ref (ad (66 + 13 * vn))), (1, .int v1)]) hx hb dX3_weakest_13 rfl hl (by decide) rfl (fun ls hl => ?_)
  refine lv_aload_n hx hb dX3_weakest_14 rfl (lv_at hl 1 rfl) ?_
  refine k_getN (q0 := 66 + 13 * vn) (ci := 5) (v := .ref (ad 16)) hx hb hts hN inT_X6 hown hK hP (xV (v := vn) hv hvs) rfl 0 (by decide) rfl kX3_31 rfl dX3_weakest_15 ?_
  refine k_getN (q0 := 16 + 25 * 0) (ci := 0) (v := .ref (ad (16 + 25 * 0 + 19))) hx hb hts hN inT_X0 hown hK hP (xP (p := 0) (by decide) hps) rfl 10 (by decide) rfl kX3_54 rfl dX3_weakest_18 ?_
  refine lv_iconst (v := 2) hx hb dX3_weakest_21 (by decide) ?_
  refine lv_iload_n hx hb dX3_weakest_22 rfl (lv_at hl 2 rfl) ?_
  refine lv_imul hx hb dX3_weakest_23 ?_
  refine lv_iconst (v := 1) hx hb dX3_weakest_24 (by decide) ?_
  refine lv_iadd hx hb dX3_weakest_25 ?_
  refine k_rV (v := .int (rg 6 (pl 10) ((2 * v1) + 1))) (As := [.int ((2 * v1) + 1)]) (rest := []) hx hb hml hown hts hl.1 hP hK hN (c_rg (f := (pl 10)) (n := 6) (wPo (p := 0) (by decide) 19 (by decide) (by decide)) (xPa (p := 0) (by decide) hpl 19 (by decide) (by decide) rfl rfl) (by decide) ((2 * v1) + 1)) eX3_48 (ci := 2) (q0 := 16 + 25 * 0 + 19) rfl rfl (wPo (p := 0) (by decide) 19 (by decide) (by decide)) rfl rfl (Nat.le_of_ble_eq_true rfl) ⟨Nat.le_of_ble_eq_true rfl, Nat.le_of_ble_eq_true rfl⟩ ⟨rfl, rfl⟩ ⟨Nat.le_of_ble_eq_true rfl, Nat.le_of_ble_eq_true rfl⟩ dX3_weakest_26 ?_
  refine lv_istore_n (lv' := [(3, .int (rg 6 (pl 10) ((2 * v1) + 1))), (2, .int (rg 6 (pl 10) (2 * v1))), (0, .ref (ad (66 + 13 * vn))), (1, .int v1)]) hx hb dX3_weakest_29 rfl hl (by decide) rfl (fun ls hl => ?_)
  refine lv_iconst (v := (-1)) hx hb dX3_weakest_30 (by decide) ?_
  refine lv_istore (lv' := [(4, .int (-1)), (3, .int (rg 6 (pl 10) ((2 * v1) + 1))), (2, .int (rg 6 (pl 10) (2 * v1))), (0, .ref (ad (66 + 13 * vn))), (1, .int v1)]) hx hb dX3_weakest_31 hl (by decide) rfl (fun ls hl => ?_)
  refine lv_iconst (v := 0) hx hb dX3_weakest_33 (by decide) ?_
  refine lv_istore (lv' := [(5, .int 0), (4, .int (-1)), (3, .int (rg 6 (pl 10) ((2 * v1) + 1))), (2, .int (rg 6 (pl 10) (2 * v1))), (0, .ref (ad (66 + 13 * vn))), (1, .int v1)]) hx hb dX3_weakest_34 hl (by decide) rfl (fun ls hl => ?_)
  refine lv_iconst (v := 0) hx hb dX3_weakest_36 (by decide) ?_
  refine lv_istore (lv' := [(6, .int 0), (5, .int 0), (4, .int (-1)), (3, .int (rg 6 (pl 10) ((2 * v1) + 1))), (2, .int (rg 6 (pl 10) (2 * v1))), (0, .ref (ad (66 + 13 * vn))), (1, .int v1)]) hx hb dX3_weakest_37 hl (by decide) rfl (fun ls hl => ?_)
  refine lv_iconst (v := 0) hx hb dX3_weakest_39 (by decide) ?_
  refine lv_istore (lv' := [(7, .int 0), (6, .int 0), (5, .int 0), (4, .int (-1)), (3, .int (rg 6 (pl 10) ((2 * v1) + 1))), (2, .int (rg 6 (pl 10) (2 * v1))), (0, .ref (ad (66 + 13 * vn))), (1, .int v1)]) hx hb dX3_weakest_40 hl (by decide) rfl (fun ls hl => ?_)
  have rest_42 : ∀ (x4_42 : Int32) (x5_42 : Int32) (x6_42 : Int32), ∀ (ls : Array Slot), lv_has ls 10 [(4, .int x4_42)] → (u_weakest vl vs pl ps v1) = u_weakest_k42 x4_42 → W p l e ({ frames := 3, cells := 0, slots := 0, locals := 69 } : Room) s m args below meth c s.heap [] 0 0 (MQ below (kR (some (.int (u_weakest vl vs pl ps v1)))) args s 0 0 (fun _ => False)) (F0 m 123 ls []) := by
    intro x4_42 x5_42 x6_42 ls hl  hF_42
    refine lv_iload hx hb dX3_weakest_123 (lv_at hl 0 rfl) ?_
    have hE : (u_weakest vl vs pl ps v1) = x4_42 := hF_42.trans (by rw [u_weakest_k42])
    exact W.iret (v := x4_42) hx hb hr (fun t ht hW => ⟨by rw [hE], ht⟩) (fun _ h => absurd h List.not_mem_nil) dX3_weakest_125 hlocks
  have hN_42 : ((ps 0).toNatClampNeg) < 2 ^ 31 := kcl_lt _
  have loop_42 : ∀ (n_42 i_42 : Nat) (x4_42 : Int32) (x5_42 : Int32) (x6_42 : Int32), i_42 + n_42 = (ps 0).toNatClampNeg → ∀ (ls : Array Slot), lv_has ls 10 [(0, .ref (ad (66 + 13 * vn))), (2, .int (rg 6 (pl 10) (2 * v1))), (3, .int (rg 6 (pl 10) ((2 * v1) + 1))), (4, .int x4_42), (5, .int x5_42), (6, .int x6_42), (7, .int (nI i_42))] → (∀ (ls : Array Slot), lv_has ls 10 [(4, .int ((u_weakest_L42 vl vs pl ps (rg 6 (pl 10) (2 * v1)) (rg 6 (pl 10) ((2 * v1) + 1)) n_42 i_42 x4_42 x5_42 x6_42).1))] → W p l e ({ frames := 3, cells := 0, slots := 0, locals := 69 } : Room) s m args below meth c s.heap [] 0 0 (MQ below (kR (some (.int (u_weakest vl vs pl ps v1)))) args s 0 0 (fun _ => False)) (F0 m 123 ls [])) → W p l e ({ frames := 3, cells := 0, slots := 0, locals := 69 } : Room) s m args below meth c s.heap [] 0 0 (MQ below (kR (some (.int (u_weakest vl vs pl ps v1)))) args s 0 0 (fun _ => False)) (F0 m 42 ls []) := by
    intro n_42
    induction n_42 with
    | zero =>
      intro i_42 x4_42 x5_42 x6_42 hin_42 ls hl  hk_42
      refine lv_iload hx hb dX3_weakest_42 (lv_at hl 6 rfl) ?_
      refine lv_aload_n hx hb dX3_weakest_44 rfl (lv_at hl 0 rfl) ?_
      refine k_getN (q0 := 66 + 13 * vn) (ci := 5) (v := .ref (ad 16)) hx hb hts hN inT_X6 hown hK hP (xV (v := vn) hv hvs) rfl 0 (by decide) rfl kX3_31 rfl dX3_weakest_45 ?_
      refine k_getN (q0 := 16 + 25 * 0) (ci := 0) (v := .int (ps 0)) hx hb hts hN inT_X0 hown hK hP (xP (p := 0) (by decide) hps) rfl 0 (by decide) rfl kX3_35 rfl dX3_weakest_48 ?_
      refine lv_icmp_ge (tgt := 123) hx hb dX3_weakest_51 (by decide) (fun _ => ?_) (fun c_5 => absurd (kct_ge (N := (ps 0).toNatClampNeg) rfl (by omega) (by omega)) c_5)
      have hL_42 : (u_weakest_L42 vl vs pl ps (rg 6 (pl 10) (2 * v1)) (rg 6 (pl 10) ((2 * v1) + 1)) 0 i_42 x4_42 x5_42 x6_42) = (x4_42, x5_42, x6_42) := by rw [u_weakest_L42.eq_1]
      try rw [hL_42] at hk_42
      exact hk_42 _ (lv_sub hl [3] rfl) 
    | succ n_42 ih_42 =>
      intro i_42 x4_42 x5_42 x6_42 hin_42 ls hl  hk_42
      refine lv_iload hx hb dX3_weakest_42 (lv_at hl 6 rfl) ?_
      refine lv_aload_n hx hb dX3_weakest_44 rfl (lv_at hl 0 rfl) ?_
      refine k_getN (q0 := 66 + 13 * vn) (ci := 5) (v := .ref (ad 16)) hx hb hts hN inT_X6 hown hK hP (xV (v := vn) hv hvs) rfl 0 (by decide) rfl kX3_31 rfl dX3_weakest_45 ?_
      refine k_getN (q0 := 16 + 25 * 0) (ci := 0) (v := .int (ps 0)) hx hb hts hN inT_X0 hown hK hP (xP (p := 0) (by decide) hps) rfl 0 (by decide) rfl kX3_35 rfl dX3_weakest_48 ?_
      refine lv_icmp_ge (tgt := 123) hx hb dX3_weakest_51 (by decide) (fun c_6 => absurd c_6 (kct_lt (N := (ps 0).toNatClampNeg) rfl (by omega))) (fun _ => ?_)
      refine lv_aload_n hx hb dX3_weakest_54 rfl (lv_at hl 0 rfl) ?_
      refine lv_iload hx hb dX3_weakest_55 (lv_at hl 6 rfl) ?_
      refine k_rS (v := .int (u_isSnowy vl vs ps (nI i_42))) (As := [.ref (ad (66 + 13 * vn)), .int (nI i_42)]) (rest := []) hx hb hml hown hts hl.1 kB.blind (fun U hU hW => kB.of hP hK hN hU hW) (c_u_isSnowy hI hv hvl hvs hpl hps (nI i_42)) eX3_57 rfl rfl (Nat.le_of_ble_eq_true rfl) ⟨Nat.le_of_ble_eq_true rfl, Nat.le_of_ble_eq_true rfl⟩ ⟨rfl, rfl⟩ ⟨Nat.le_of_ble_eq_true rfl, Nat.le_of_ble_eq_true rfl⟩ dX3_weakest_57 ?_
      refine lv_if_eq (tgt := 117) hx hb dX3_weakest_60 (by decide) (fun c_7 => ?_) (fun c_7 => ?_)
      · refine lv_iinc (v := (nI (i_42 + 1))) (lv' := [(7, .int (nI (i_42 + 1))), (0, .ref (ad (66 + 13 * vn))), (2, .int (rg 6 (pl 10) (2 * v1))), (3, .int (rg 6 (pl 10) ((2 * v1) + 1))), (4, .int x4_42), (5, .int x5_42), (6, .int x6_42)]) hx hb dX3_weakest_117 hl (k := 6) rfl (nI_add _ _) (by decide) rfl (fun ls hl => ?_)
        refine lv_goto (tgt := 42) hx hb dX3_weakest_120 (by decide) ?_
        have hL_42 : (u_weakest_L42 vl vs pl ps (rg 6 (pl 10) (2 * v1)) (rg 6 (pl 10) ((2 * v1) + 1)) (n_42 + 1) i_42 x4_42 x5_42 x6_42) = (u_weakest_L42 vl vs pl ps (rg 6 (pl 10) (2 * v1)) (rg 6 (pl 10) ((2 * v1) + 1)) n_42 (i_42 + 1) x4_42 x5_42 x6_42) := by rw [u_weakest_L42.eq_2, if_pos c_7]
        try rw [hL_42] at hk_42
        exact ih_42 (i_42 + 1) x4_42 x5_42 x6_42 (by omega) _ (lv_sub hl [1, 2, 3, 4, 5, 6, 0] rfl)  hk_42
      · refine lv_aload_n hx hb dX3_weakest_63 rfl (lv_at hl 0 rfl) ?_
        refine lv_iload hx hb dX3_weakest_64 (lv_at hl 6 rfl) ?_
        refine lv_aload_n hx hb dX3_weakest_66 rfl (lv_at hl 0 rfl) ?_
        refine lv_iload hx hb dX3_weakest_67 (lv_at hl 6 rfl) ?_
        refine lv_iload_n hx hb dX3_weakest_69 rfl (lv_at hl 1 rfl) ?_
        refine lv_iload_n hx hb dX3_weakest_70 rfl (lv_at hl 2 rfl) ?_
        refine k_rV (v := .int (v_loadWith vl pl ps (nI i_42) (rg 6 (pl 10) (2 * v1)) (rg 6 (pl 10) ((2 * v1) + 1)))) (As := [.int (nI i_42), .int (rg 6 (pl 10) (2 * v1)), .int (rg 6 (pl 10) ((2 * v1) + 1))]) (rest := [.int (nI i_42), .ref (ad (66 + 13 * vn))]) hx hb hml hown hts hl.1 hP hK hN (c_v_loadWith hI hv hvl hvs hpl hps (nI i_42) (rg 6 (pl 10) (2 * v1)) (rg 6 (pl 10) ((2 * v1) + 1))) eX3_61 (ci := 5) (q0 := 66 + 13 * vn) rfl rfl (xV (v := vn) hv hvs) rfl rfl (Nat.le_of_ble_eq_true rfl) ⟨Nat.le_of_ble_eq_true rfl, Nat.le_of_ble_eq_true rfl⟩ ⟨rfl, rfl⟩ ⟨Nat.le_of_ble_eq_true rfl, Nat.le_of_ble_eq_true rfl⟩ dX3_weakest_71 ?_
        refine k_rV (v := .int (v_chancesBelow vl pl (nI i_42) (v_loadWith vl pl ps (nI i_42) (rg 6 (pl 10) (2 * v1)) (rg 6 (pl 10) ((2 * v1) + 1))))) (As := [.int (nI i_42), .int (v_loadWith vl pl ps (nI i_42) (rg 6 (pl 10) (2 * v1)) (rg 6 (pl 10) ((2 * v1) + 1)))]) (rest := []) hx hb hml hown hts hl.1 hP hK hN (c_v_chancesBelow hI hv hvl hvs hpl hps (nI i_42) (v_loadWith vl pl ps (nI i_42) (rg 6 (pl 10) (2 * v1)) (rg 6 (pl 10) ((2 * v1) + 1)))) eX3_65 (ci := 5) (q0 := 66 + 13 * vn) rfl rfl (xV (v := vn) hv hvs) rfl rfl (Nat.le_of_ble_eq_true rfl) ⟨Nat.le_of_ble_eq_true rfl, Nat.le_of_ble_eq_true rfl⟩ ⟨rfl, rfl⟩ ⟨Nat.le_of_ble_eq_true rfl, Nat.le_of_ble_eq_true rfl⟩ dX3_weakest_74 ?_
        refine lv_istore (lv' := [(8, .int (v_chancesBelow vl pl (nI i_42) (v_loadWith vl pl ps (nI i_42) (rg 6 (pl 10) (2 * v1)) (rg 6 (pl 10) ((2 * v1) + 1))))), (0, .ref (ad (66 + 13 * vn))), (2, .int (rg 6 (pl 10) (2 * v1))), (3, .int (rg 6 (pl 10) ((2 * v1) + 1))), (4, .int x4_42), (5, .int x5_42), (6, .int x6_42), (7, .int (nI i_42))]) hx hb dX3_weakest_77 hl (by decide) rfl (fun ls hl => ?_)
        refine lv_aload_n hx hb dX3_weakest_79 rfl (lv_at hl 1 rfl) ?_
        refine lv_iload hx hb dX3_weakest_80 (lv_at hl 7 rfl) ?_
        refine k_rV (v := .int (v_chances vl pl (nI i_42))) (As := [.int (nI i_42)]) (rest := []) hx hb hml hown hts hl.1 hP hK hN (c_v_chances hI hv hvl hvs hpl hps (nI i_42)) eX3_69 (ci := 5) (q0 := 66 + 13 * vn) rfl rfl (xV (v := vn) hv hvs) rfl rfl (Nat.le_of_ble_eq_true rfl) ⟨Nat.le_of_ble_eq_true rfl, Nat.le_of_ble_eq_true rfl⟩ ⟨rfl, rfl⟩ ⟨Nat.le_of_ble_eq_true rfl, Nat.le_of_ble_eq_true rfl⟩ dX3_weakest_82 ?_
        refine lv_istore (lv' := [(9, .int (v_chances vl pl (nI i_42))), (8, .int (v_chancesBelow vl pl (nI i_42) (v_loadWith vl pl ps (nI i_42) (rg 6 (pl 10) (2 * v1)) (rg 6 (pl 10) ((2 * v1) + 1))))), (0, .ref (ad (66 + 13 * vn))), (2, .int (rg 6 (pl 10) (2 * v1))), (3, .int (rg 6 (pl 10) ((2 * v1) + 1))), (4, .int x4_42), (5, .int x5_42), (6, .int x6_42), (7, .int (nI i_42))]) hx hb dX3_weakest_85 hl (by decide) rfl (fun ls hl => ?_)
        refine lv_iload hx hb dX3_weakest_87 (lv_at hl 5 rfl) ?_
        refine lv_if_lt (tgt := 105) hx hb dX3_weakest_89 (by decide) (fun c_8 => ?_) (fun c_8 => ?_)
        · refine lv_iload hx hb dX3_weakest_105 (lv_at hl 8 rfl) ?_
          refine lv_istore (lv' := [(4, .int (nI i_42)), (9, .int (v_chances vl pl (nI i_42))), (8, .int (v_chancesBelow vl pl (nI i_42) (v_loadWith vl pl ps (nI i_42) (rg 6 (pl 10) (2 * v1)) (rg 6 (pl 10) ((2 * v1) + 1))))), (0, .ref (ad (66 + 13 * vn))), (2, .int (rg 6 (pl 10) (2 * v1))), (3, .int (rg 6 (pl 10) ((2 * v1) + 1))), (5, .int x5_42), (6, .int x6_42), (7, .int (nI i_42))]) hx hb dX3_weakest_107 hl (by decide) rfl (fun ls hl => ?_)
          refine lv_iload hx hb dX3_weakest_109 (lv_at hl 2 rfl) ?_
          refine lv_istore (lv' := [(5, .int (v_chancesBelow vl pl (nI i_42) (v_loadWith vl pl ps (nI i_42) (rg 6 (pl 10) (2 * v1)) (rg 6 (pl 10) ((2 * v1) + 1))))), (4, .int (nI i_42)), (9, .int (v_chances vl pl (nI i_42))), (8, .int (v_chancesBelow vl pl (nI i_42) (v_loadWith vl pl ps (nI i_42) (rg 6 (pl 10) (2 * v1)) (rg 6 (pl 10) ((2 * v1) + 1))))), (0, .ref (ad (66 + 13 * vn))), (2, .int (rg 6 (pl 10) (2 * v1))), (3, .int (rg 6 (pl 10) ((2 * v1) + 1))), (6, .int x6_42), (7, .int (nI i_42))]) hx hb dX3_weakest_111 hl (by decide) rfl (fun ls hl => ?_)
          refine lv_iload hx hb dX3_weakest_113 (lv_at hl 2 rfl) ?_
          refine lv_istore (lv' := [(6, .int (v_chances vl pl (nI i_42))), (5, .int (v_chancesBelow vl pl (nI i_42) (v_loadWith vl pl ps (nI i_42) (rg 6 (pl 10) (2 * v1)) (rg 6 (pl 10) ((2 * v1) + 1))))), (4, .int (nI i_42)), (9, .int (v_chances vl pl (nI i_42))), (8, .int (v_chancesBelow vl pl (nI i_42) (v_loadWith vl pl ps (nI i_42) (rg 6 (pl 10) (2 * v1)) (rg 6 (pl 10) ((2 * v1) + 1))))), (0, .ref (ad (66 + 13 * vn))), (2, .int (rg 6 (pl 10) (2 * v1))), (3, .int (rg 6 (pl 10) ((2 * v1) + 1))), (7, .int (nI i_42))]) hx hb dX3_weakest_115 hl (by decide) rfl (fun ls hl => ?_)
          refine lv_iinc (v := (nI (i_42 + 1))) (lv' := [(7, .int (nI (i_42 + 1))), (6, .int (v_chances vl pl (nI i_42))), (5, .int (v_chancesBelow vl pl (nI i_42) (v_loadWith vl pl ps (nI i_42) (rg 6 (pl 10) (2 * v1)) (rg 6 (pl 10) ((2 * v1) + 1))))), (4, .int (nI i_42)), (9, .int (v_chances vl pl (nI i_42))), (8, .int (v_chancesBelow vl pl (nI i_42) (v_loadWith vl pl ps (nI i_42) (rg 6 (pl 10) (2 * v1)) (rg 6 (pl 10) ((2 * v1) + 1))))), (0, .ref (ad (66 + 13 * vn))), (2, .int (rg 6 (pl 10) (2 * v1))), (3, .int (rg 6 (pl 10) ((2 * v1) + 1)))]) hx hb dX3_weakest_117 hl (k := 8) rfl (nI_add _ _) (by decide) rfl (fun ls hl => ?_)
          refine lv_goto (tgt := 42) hx hb dX3_weakest_120 (by decide) ?_
          have hL_42 : (u_weakest_L42 vl vs pl ps (rg 6 (pl 10) (2 * v1)) (rg 6 (pl 10) ((2 * v1) + 1)) (n_42 + 1) i_42 x4_42 x5_42 x6_42) = (u_weakest_L42 vl vs pl ps (rg 6 (pl 10) (2 * v1)) (rg 6 (pl 10) ((2 * v1) + 1)) n_42 (i_42 + 1) (nI i_42) (v_chancesBelow vl pl (nI i_42) (v_loadWith vl pl ps (nI i_42) (rg 6 (pl 10) (2 * v1)) (rg 6 (pl 10) ((2 * v1) + 1)))) (v_chances vl pl (nI i_42))) := by rw [u_weakest_L42.eq_2, if_neg c_7, if_pos c_8]
          try rw [hL_42] at hk_42
          exact ih_42 (i_42 + 1) (nI i_42) (v_chancesBelow vl pl (nI i_42) (v_loadWith vl pl ps (nI i_42) (rg 6 (pl 10) (2 * v1)) (rg 6 (pl 10) ((2 * v1) + 1)))) (v_chances vl pl (nI i_42)) (by omega) _ (lv_sub hl [6, 7, 8, 3, 2, 1, 0] rfl)  hk_42
        · refine lv_iload hx hb dX3_weakest_92 (lv_at hl 1 rfl) ?_
          refine lv_iload hx hb dX3_weakest_94 (lv_at hl 7 rfl) ?_
          refine lv_imul hx hb dX3_weakest_96 ?_
          refine lv_iload hx hb dX3_weakest_97 (lv_at hl 6 rfl) ?_
          refine lv_iload hx hb dX3_weakest_99 (lv_at hl 0 rfl) ?_
          refine lv_imul hx hb dX3_weakest_101 ?_
          refine lv_icmp_le (tgt := 117) hx hb dX3_weakest_102 (by decide) (fun c_9 => ?_) (fun c_9 => ?_)
          · refine lv_iinc (v := (nI (i_42 + 1))) (lv' := [(7, .int (nI (i_42 + 1))), (9, .int (v_chances vl pl (nI i_42))), (8, .int (v_chancesBelow vl pl (nI i_42) (v_loadWith vl pl ps (nI i_42) (rg 6 (pl 10) (2 * v1)) (rg 6 (pl 10) ((2 * v1) + 1))))), (0, .ref (ad (66 + 13 * vn))), (2, .int (rg 6 (pl 10) (2 * v1))), (3, .int (rg 6 (pl 10) ((2 * v1) + 1))), (4, .int x4_42), (5, .int x5_42), (6, .int x6_42)]) hx hb dX3_weakest_117 hl (k := 8) rfl (nI_add _ _) (by decide) rfl (fun ls hl => ?_)
            refine lv_goto (tgt := 42) hx hb dX3_weakest_120 (by decide) ?_
            have hL_42 : (u_weakest_L42 vl vs pl ps (rg 6 (pl 10) (2 * v1)) (rg 6 (pl 10) ((2 * v1) + 1)) (n_42 + 1) i_42 x4_42 x5_42 x6_42) = (u_weakest_L42 vl vs pl ps (rg 6 (pl 10) (2 * v1)) (rg 6 (pl 10) ((2 * v1) + 1)) n_42 (i_42 + 1) x4_42 x5_42 x6_42) := by rw [u_weakest_L42.eq_2, if_neg c_7, if_neg c_8, if_pos c_9]
            try rw [hL_42] at hk_42
            exact ih_42 (i_42 + 1) x4_42 x5_42 x6_42 (by omega) _ (lv_sub hl [3, 4, 5, 6, 7, 8, 0] rfl)  hk_42
          · refine lv_iload hx hb dX3_weakest_105 (lv_at hl 8 rfl) ?_
            refine lv_istore (lv' := [(4, .int (nI i_42)), (9, .int (v_chances vl pl (nI i_42))), (8, .int (v_chancesBelow vl pl (nI i_42) (v_loadWith vl pl ps (nI i_42) (rg 6 (pl 10) (2 * v1)) (rg 6 (pl 10) ((2 * v1) + 1))))), (0, .ref (ad (66 + 13 * vn))), (2, .int (rg 6 (pl 10) (2 * v1))), (3, .int (rg 6 (pl 10) ((2 * v1) + 1))), (5, .int x5_42), (6, .int x6_42), (7, .int (nI i_42))]) hx hb dX3_weakest_107 hl (by decide) rfl (fun ls hl => ?_)
            refine lv_iload hx hb dX3_weakest_109 (lv_at hl 2 rfl) ?_
            refine lv_istore (lv' := [(5, .int (v_chancesBelow vl pl (nI i_42) (v_loadWith vl pl ps (nI i_42) (rg 6 (pl 10) (2 * v1)) (rg 6 (pl 10) ((2 * v1) + 1))))), (4, .int (nI i_42)), (9, .int (v_chances vl pl (nI i_42))), (8, .int (v_chancesBelow vl pl (nI i_42) (v_loadWith vl pl ps (nI i_42) (rg 6 (pl 10) (2 * v1)) (rg 6 (pl 10) ((2 * v1) + 1))))), (0, .ref (ad (66 + 13 * vn))), (2, .int (rg 6 (pl 10) (2 * v1))), (3, .int (rg 6 (pl 10) ((2 * v1) + 1))), (6, .int x6_42), (7, .int (nI i_42))]) hx hb dX3_weakest_111 hl (by decide) rfl (fun ls hl => ?_)
            refine lv_iload hx hb dX3_weakest_113 (lv_at hl 2 rfl) ?_
            refine lv_istore (lv' := [(6, .int (v_chances vl pl (nI i_42))), (5, .int (v_chancesBelow vl pl (nI i_42) (v_loadWith vl pl ps (nI i_42) (rg 6 (pl 10) (2 * v1)) (rg 6 (pl 10) ((2 * v1) + 1))))), (4, .int (nI i_42)), (9, .int (v_chances vl pl (nI i_42))), (8, .int (v_chancesBelow vl pl (nI i_42) (v_loadWith vl pl ps (nI i_42) (rg 6 (pl 10) (2 * v1)) (rg 6 (pl 10) ((2 * v1) + 1))))), (0, .ref (ad (66 + 13 * vn))), (2, .int (rg 6 (pl 10) (2 * v1))), (3, .int (rg 6 (pl 10) ((2 * v1) + 1))), (7, .int (nI i_42))]) hx hb dX3_weakest_115 hl (by decide) rfl (fun ls hl => ?_)
            refine lv_iinc (v := (nI (i_42 + 1))) (lv' := [(7, .int (nI (i_42 + 1))), (6, .int (v_chances vl pl (nI i_42))), (5, .int (v_chancesBelow vl pl (nI i_42) (v_loadWith vl pl ps (nI i_42) (rg 6 (pl 10) (2 * v1)) (rg 6 (pl 10) ((2 * v1) + 1))))), (4, .int (nI i_42)), (9, .int (v_chances vl pl (nI i_42))), (8, .int (v_chancesBelow vl pl (nI i_42) (v_loadWith vl pl ps (nI i_42) (rg 6 (pl 10) (2 * v1)) (rg 6 (pl 10) ((2 * v1) + 1))))), (0, .ref (ad (66 + 13 * vn))), (2, .int (rg 6 (pl 10) (2 * v1))), (3, .int (rg 6 (pl 10) ((2 * v1) + 1)))]) hx hb dX3_weakest_117 hl (k := 8) rfl (nI_add _ _) (by decide) rfl (fun ls hl => ?_)
            refine lv_goto (tgt := 42) hx hb dX3_weakest_120 (by decide) ?_
            have hL_42 : (u_weakest_L42 vl vs pl ps (rg 6 (pl 10) (2 * v1)) (rg 6 (pl 10) ((2 * v1) + 1)) (n_42 + 1) i_42 x4_42 x5_42 x6_42) = (u_weakest_L42 vl vs pl ps (rg 6 (pl 10) (2 * v1)) (rg 6 (pl 10) ((2 * v1) + 1)) n_42 (i_42 + 1) (nI i_42) (v_chancesBelow vl pl (nI i_42) (v_loadWith vl pl ps (nI i_42) (rg 6 (pl 10) (2 * v1)) (rg 6 (pl 10) ((2 * v1) + 1)))) (v_chances vl pl (nI i_42))) := by rw [u_weakest_L42.eq_2, if_neg c_7, if_neg c_8, if_neg c_9]
            try rw [hL_42] at hk_42
            exact ih_42 (i_42 + 1) (nI i_42) (v_chancesBelow vl pl (nI i_42) (v_loadWith vl pl ps (nI i_42) (rg 6 (pl 10) (2 * v1)) (rg 6 (pl 10) ((2 * v1) + 1)))) (v_chances vl pl (nI i_42)) (by omega) _ (lv_sub hl [6, 7, 8, 3, 2, 1, 0] rfl)  hk_42
  exact loop_42 ((ps 0).toNatClampNeg) 0 (-1) 0 0 (by omega) _ (lv_sub hl [6, 5, 4, 3, 2, 1, 0] rfl)  (fun ls hl  => rest_42 (u_weakest_L42 vl vs pl ps (rg 6 (pl 10) (2 * v1)) (rg 6 (pl 10) ((2 * v1) + 1)) ((ps 0).toNatClampNeg) 0 (-1) 0 0).1 (u_weakest_L42 vl vs pl ps (rg 6 (pl 10) (2 * v1)) (rg 6 (pl 10) ((2 * v1) + 1)) ((ps 0).toNatClampNeg) 0 (-1) 0 0).2.1 (u_weakest_L42 vl vs pl ps (rg 6 (pl 10) (2 * v1)) (rg 6 (pl 10) ((2 * v1) + 1)) ((ps 0).toNatClampNeg) 0 (-1) 0 0).2.2 _ hl  (by rw [u_weakest]))
-- X3_choose
def u_choose (vl : Nat → Nat → Int32) (vs : Nat → Int32) (pl : Nat → Nat → Int32) (ps : Nat → Int32) (v1 : Int32) (v2 : Int32) : Int32 := if v1 = 0 then (u_deepest vl vs ps) else (if v1 = 1 then (u_deeperSide vl (u_weakest vl vs pl ps v2)) else (if v1 = 2 then (u_deeperSide vl (u_fullest vl vs pl ps)) else (if v1 = 3 then (vs 12) else 16)))
set_option maxHeartbeats 4000000 in
set_option maxRecDepth 100000 in
theorem c_u_choose (hI : kInj ad 183) (hv : vn < 9) (hvl : VL vn = vl) (hvs : VS vn = vs) (hpl : PL 0 = pl) (hps : PS 0 = ps) (v1 : Int32) (v2 : Int32) : Met l yX3_choose (.code yX3_choose cX3_choose 3 (some .int) :: kT) ({ frames := 4, cells := 0, slots := 0, locals := 98 } : Room) (va_Pc [.ref (ad (66 + 13 * vn)), .int v1, .int v2] (kB (dC, dI) [(cI, .int)] (cws cI ad ML MS PL PS VL VS LL))) (kR (some (.int (u_choose vl vs pl ps v1 v2)))) 0 0 (fun _ => False) := by
  refine kMet (by decide) (fun p e s m args below meth c ls hx hb hr hml hts hown hlocks hname hargs hB hl => ?_) (Nat.le_of_ble_eq_true rfl)
  obtain ⟨hP, hK, hN⟩ := hB
  have hl : lv_has ls 3 [(0, .ref (ad (66 + 13 * vn))), (1, .int v1), (2, .int v2)] := hl
  refine lv_iload_n hx hb dX3_choose_0 rfl (lv_at hl 1 rfl) ?_
  by_cases c_5 : v1 = 0
  · refine lv_tableIn (tgt := 32) hx hb dX3_choose_1 (by rw [c_5]; decide) (by rw [c_5]; decide) (by rw [c_5]; rfl) (by decide) ?_
    refine lv_aload_n hx hb dX3_choose_32 rfl (lv_at hl 0 rfl) ?_
    refine k_rS (v := .int (u_deepest vl vs ps)) (As := [.ref (ad (66 + 13 * vn))]) (rest := []) hx hb hml hown hts hl.1 kB.blind (fun U hU hW => kB.of hP hK hN hU hW) (c_u_deepest hI hv hvl hvs hpl hps) eX3_9 rfl rfl (Nat.le_of_ble_eq_true rfl) ⟨Nat.le_of_ble_eq_true rfl, Nat.le_of_ble_eq_true rfl⟩ ⟨rfl, rfl⟩ ⟨Nat.le_of_ble_eq_true rfl, Nat.le_of_ble_eq_true rfl⟩ dX3_choose_33 ?_
    have hE : (u_choose vl vs pl ps v1 v2) = (u_deepest vl vs ps) := by rw [u_choose, if_pos c_5]
    exact W.iret (v := (u_deepest vl vs ps)) hx hb hr (fun t ht hW => ⟨by rw [hE], ht⟩) (fun _ h => absurd h List.not_mem_nil) dX3_choose_36 hlocks
  · by_cases c_6 : v1 = 1
    · refine lv_tableIn (tgt := 37) hx hb dX3_choose_1 (by rw [c_6]; decide) (by rw [c_6]; decide) (by rw [c_6]; rfl) (by decide) ?_
      refine lv_aload_n hx hb dX3_choose_37 rfl (lv_at hl 0 rfl) ?_
      refine lv_aload_n hx hb dX3_choose_38 rfl (lv_at hl 0 rfl) ?_
      refine lv_iload_n hx hb dX3_choose_39 rfl (lv_at hl 2 rfl) ?_
      refine k_rS (v := .int (u_weakest vl vs pl ps v2)) (As := [.ref (ad (66 + 13 * vn)), .int v2]) (rest := [.ref (ad (66 + 13 * vn))]) hx hb hml hown hts hl.1 kB.blind (fun U hU hW => kB.of hP hK hN hU hW) (c_u_weakest hI hv hvl hvs hpl hps v2) eX3_15 rfl rfl (Nat.le_of_ble_eq_true rfl) ⟨Nat.le_of_ble_eq_true rfl, Nat.le_of_ble_eq_true rfl⟩ ⟨rfl, rfl⟩ ⟨Nat.le_of_ble_eq_true rfl, Nat.le_of_ble_eq_true rfl⟩ dX3_choose_40 ?_
      refine k_rS (v := .int (u_deeperSide vl (u_weakest vl vs pl ps v2))) (As := [.ref (ad (66 + 13 * vn)), .int (u_weakest vl vs pl ps v2)]) (rest := []) hx hb hml hown hts hl.1 kB.blind (fun U hU hW => kB.of hP hK hN hU hW) (c_u_deeperSide hI hv hvl hvs hpl hps (u_weakest vl vs pl ps v2)) eX3_19 rfl rfl (Nat.le_of_ble_eq_true rfl) ⟨Nat.le_of_ble_eq_true rfl, Nat.le_of_ble_eq_true rfl⟩ ⟨rfl, rfl⟩ ⟨Nat.le_of_ble_eq_true rfl, Nat.le_of_ble_eq_true rfl⟩ dX3_choose_43 ?_
      have hE : (u_choose vl vs pl ps v1 v2) = (u_deeperSide vl (u_weakest vl vs pl ps v2)) := by rw [u_choose, if_neg c_5, if_pos c_6]
      exact W.iret (v := (u_deeperSide vl (u_weakest vl vs pl ps v2))) hx hb hr (fun t ht hW => ⟨by rw [hE], ht⟩) (fun _ h => absurd h List.not_mem_nil) dX3_choose_46 hlocks
    · by_cases c_7 : v1 = 2
      · refine lv_tableIn (tgt := 47) hx hb dX3_choose_1 (by rw [c_7]; decide) (by rw [c_7]; decide) (by rw [c_7]; rfl) (by decide) ?_
        refine lv_aload_n hx hb dX3_choose_47 rfl (lv_at hl 0 rfl) ?_
        refine lv_aload_n hx hb dX3_choose_48 rfl (lv_at hl 0 rfl) ?_
        refine k_rS (v := .int (u_fullest vl vs pl ps)) (As := [.ref (ad (66 + 13 * vn))]) (rest := [.ref (ad (66 + 13 * vn))]) hx hb hml hown hts hl.1 kB.blind (fun U hU hW => kB.of hP hK hN hU hW) (c_u_fullest hI hv hvl hvs hpl hps) eX3_22 rfl rfl (Nat.le_of_ble_eq_true rfl) ⟨Nat.le_of_ble_eq_true rfl, Nat.le_of_ble_eq_true rfl⟩ ⟨rfl, rfl⟩ ⟨Nat.le_of_ble_eq_true rfl, Nat.le_of_ble_eq_true rfl⟩ dX3_choose_49 ?_
        refine k_rS (v := .int (u_deeperSide vl (u_fullest vl vs pl ps))) (As := [.ref (ad (66 + 13 * vn)), .int (u_fullest vl vs pl ps)]) (rest := []) hx hb hml hown hts hl.1 kB.blind (fun U hU hW => kB.of hP hK hN hU hW) (c_u_deeperSide hI hv hvl hvs hpl hps (u_fullest vl vs pl ps)) eX3_19 rfl rfl (Nat.le_of_ble_eq_true rfl) ⟨Nat.le_of_ble_eq_true rfl, Nat.le_of_ble_eq_true rfl⟩ ⟨rfl, rfl⟩ ⟨Nat.le_of_ble_eq_true rfl, Nat.le_of_ble_eq_true rfl⟩ dX3_choose_52 ?_
        have hE : (u_choose vl vs pl ps v1 v2) = (u_deeperSide vl (u_fullest vl vs pl ps)) := by rw [u_choose, if_neg c_5, if_neg c_6, if_pos c_7]
        exact W.iret (v := (u_deeperSide vl (u_fullest vl vs pl ps))) hx hb hr (fun t ht hW => ⟨by rw [hE], ht⟩) (fun _ h => absurd h List.not_mem_nil) dX3_choose_55 hlocks
      · by_cases c_8 : v1 = 3
        · refine lv_tableIn (tgt := 56) hx hb dX3_choose_1 (by rw [c_8]; decide) (by rw [c_8]; decide) (by rw [c_8]; rfl) (by decide) ?_
          refine lv_aload_n hx hb dX3_choose_56 rfl (lv_at hl 0 rfl) ?_
          refine k_getN (q0 := 66 + 13 * vn) (ci := 5) (v := .int (vs 12)) hx hb hts hN inT_X6 hown hK hP (xV (v := vn) hv hvs) rfl 12 (by decide) rfl kX3_25 rfl dX3_choose_57 ?_
          have hE : (u_choose vl vs pl ps v1 v2) = (vs 12) := by rw [u_choose, if_neg c_5, if_neg c_6, if_neg c_7, if_pos c_8]
          exact W.iret (v := (vs 12)) hx hb hr (fun t ht hW => ⟨by rw [hE], ht⟩) (fun _ h => absurd h List.not_mem_nil) dX3_choose_60 hlocks
        · refine lv_tableOut (tgt := 61) hx hb dX3_choose_1 (by
            have n0 : v1.toInt ≠ 0 := fun q => by first | exact absurd (Int32.toInt_inj.mp (q.trans (show (0 : Int) = (0 : Int32).toInt by decide))) (by assumption)
            have n1 : v1.toInt ≠ 1 := fun q => by first | exact absurd (Int32.toInt_inj.mp (q.trans (show (1 : Int) = (1 : Int32).toInt by decide))) (by assumption)
            have n2 : v1.toInt ≠ 2 := fun q => by first | exact absurd (Int32.toInt_inj.mp (q.trans (show (2 : Int) = (2 : Int32).toInt by decide))) (by assumption)
            have n3 : v1.toInt ≠ 3 := fun q => by first | exact absurd (Int32.toInt_inj.mp (q.trans (show (3 : Int) = (3 : Int32).toInt by decide))) (by assumption)
            omega) (by decide) ?_
          refine lv_bipush (v := 16) hx hb dX3_choose_61 (by decide) ?_
          have hE : (u_choose vl vs pl ps v1 v2) = 16 := by rw [u_choose, if_neg c_5, if_neg c_6, if_neg c_7, if_neg c_8]
          exact W.iret (v := 16) hx hb hr (fun t ht hW => ⟨by rw [hE], ht⟩) (fun _ h => absurd h List.not_mem_nil) dX3_choose_63 hlocks

end CLS
