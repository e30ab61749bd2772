section CLS
variable {l : Launch} {dC : Nat → ClassId} {dI : Nat → Nat → Nat} {cI : ClassId} {ad : Nat → Nat} {ML : Nat → Nat → Int32} {MS : Nat → Int32} {PL : Nat → Nat → Nat → Int32} {PS : Nat → Nat → Int32} {VL : Nat → Nat → Nat → Int32} {VS : Nat → Nat → Int32} {LL : Int64} {vn wn pn : Nat} {vl wl pl : Nat → Nat → Int32} {vs wz ps : Nat → Int32}
-- X6_stands
def v_stands (vs : Nat → Int32) (ps : Nat → Int32) (v1 : Int32) : Int32 := if v1 < 0 then 0 else (if (ps 0) ≤ v1 then 0 else (if (((vs 8) >>> (v1 &&& 31)) &&& 1) = 1 then 1 else 0))
set_option maxHeartbeats 4000000 in
set_option maxRecDepth 100000 in
theorem c_v_stands (hI : kInj ad 183) (hv : vn < 9) (hvl : VL vn = vl) (hvs : VS vn = vs) (hpl : PL 0 = pl) (hps : PS 0 = ps) (v1 : Int32) : Met l yX6_stands (.code yX6_stands cX6_stands 2 (some .boolean) :: kT) ({ frames := 0, cells := 0, slots := 0, locals := 0 } : Room) (va_Pc [.ref (ad (66 + 13 * vn)), .int v1] (kB (dC, dI) [(cI, .int)] (cws cI ad ML MS PL PS VL VS LL))) (kR (some (.int (v_stands vs ps v1)))) 0 0 (fun _ => False) := by
  refine kMet (by decide) (fun p e s m args below meth c ls hx hb hr hml hts hown hlocks hname hargs hB hl => ?_) (Nat.le_of_ble_eq_true rfl)
  obtain ⟨hP, hK, hN⟩ := hB
  have hl : lv_has ls 2 [(0, .ref (ad (66 + 13 * vn))), (1, .int v1)] := hl
  refine lv_iload_n hx hb dX6_stands_0 rfl (lv_at hl 1 rfl) ?_
  refine lv_if_lt (tgt := 31) hx hb dX6_stands_1 (by decide) (fun c_4 => ?_) (fun c_4 => ?_)
  · refine lv_iconst (v := 0) hx hb dX6_stands_31 (by decide) ?_
    have hE : (v_stands vs ps v1) = 0 := by rw [v_stands, if_pos c_4]
    exact W.zret (v := 0) hx hb hr rfl (fun t ht hW => ⟨by rw [hE], ht⟩) (fun _ h => absurd h List.not_mem_nil) dX6_stands_32 hlocks
  · refine lv_iload_n hx hb dX6_stands_4 rfl (lv_at hl 1 rfl) ?_
    refine lv_aload_n hx hb dX6_stands_5 rfl (lv_at hl 0 rfl) ?_
    refine k_get (q0 := 66 + 13 * vn) (ci := 5) (v := .ref (ad 16)) hx hb hts inT_X6 hown hK hP (xV (v := vn) hv hvs) rfl 0 (by decide) rfl kX6_51 rfl dX6_stands_6 ?_
    refine k_getN (q0 := 16 + 25 * 0) (ci := 0) (v := .int (ps 0)) hx hb hts hN inT_X0 hown hK hP (xP (p := 0) (by decide) hps) rfl 0 (by decide) rfl kX6_69 rfl dX6_stands_9 ?_
    refine lv_icmp_ge (tgt := 31) hx hb dX6_stands_12 (by decide) (fun c_5 => ?_) (fun c_5 => ?_)
    · refine lv_iconst (v := 0) hx hb dX6_stands_31 (by decide) ?_
      have hE : (v_stands vs ps v1) = 0 := by rw [v_stands, if_neg c_4, if_pos c_5]
      exact W.zret (v := 0) hx hb hr rfl (fun t ht hW => ⟨by rw [hE], ht⟩) (fun _ h => absurd h List.not_mem_nil) dX6_stands_32 hlocks
    · refine lv_aload_n hx hb dX6_stands_15 rfl (lv_at hl 0 rfl) ?_
      refine k_get (q0 := 66 + 13 * vn) (ci := 5) (v := .int (vs 8)) hx hb hts inT_X6 hown hK hP (xV (v := vn) hv hvs) rfl 8 (by decide) rfl kX6_35 rfl dX6_stands_16 ?_
      refine lv_iload_n hx hb dX6_stands_19 rfl (lv_at hl 1 rfl) ?_
      refine lv_ishr hx hb dX6_stands_20 ?_
      refine lv_iconst (v := 1) hx hb dX6_stands_21 (by decide) ?_
      refine lv_iand hx hb dX6_stands_22 ?_
      refine lv_iconst (v := 1) hx hb dX6_stands_23 (by decide) ?_
      refine lv_icmp_ne (tgt := 31) hx hb dX6_stands_24 (by decide) (fun c_6 => ?_) (fun c_6 => ?_)
      · refine lv_iconst (v := 0) hx hb dX6_stands_31 (by decide) ?_
        have hE : (v_stands vs ps v1) = 0 := by rw [v_stands, if_neg c_4, if_neg c_5, if_neg c_6]
        exact W.zret (v := 0) hx hb hr rfl (fun t ht hW => ⟨by rw [hE], ht⟩) (fun _ h => absurd h List.not_mem_nil) dX6_stands_32 hlocks
      · refine lv_iconst (v := 1) hx hb dX6_stands_27 (by decide) ?_
        refine lv_goto (tgt := 32) hx hb dX6_stands_28 (by decide) ?_
        have hE : (v_stands vs ps v1) = 1 := by rw [v_stands, if_neg c_4, if_neg c_5, if_pos c_6]
        exact W.zret (v := 1) hx hb hr rfl (fun t ht hW => ⟨by rw [hE], ht⟩) (fun _ h => absurd h List.not_mem_nil) dX6_stands_32 hlocks
-- X6_pressWith
def v_pressWith (vl : Nat → Nat → Int32) (pl : Nat → Nat → Int32) (v1 : Int32) (v2 : Int32) (v3 : Int32) : Int32 := ((((rg 16 (vl 1) (2 * v1)) + v2) + ((rg 16 (vl 1) ((2 * v1) + 1)) + v3)) + (((rg 8 (pl 2) v1) * (jabs (((rg 16 (vl 1) (2 * v1)) + v2) - ((rg 16 (vl 1) ((2 * v1) + 1)) + v3)))) / 10))
set_option maxHeartbeats 4000000 in
set_option maxRecDepth 100000 in
theorem c_v_pressWith (hI : kInj ad 183) (hv : vn < 9) (hvl : VL vn = vl) (hvs : VS vn = vs) (hpl : PL 0 = pl) (hps : PS 0 = ps) (v1 : Int32) (v2 : Int32) (v3 : Int32) : Met l yX6_pressWith (.code yX6_pressWith cX6_pressWith 6 (some .int) :: kT) ({ frames := 1, cells := 0, slots := 0, locals := 21 } : Room) (va_Pc [.ref (ad (66 + 13 * vn)), .int v1, .int v2, .int v3] (kB (dC, dI) [(cI, .int)] (cws cI ad ML MS PL PS VL VS LL))) (kR (some (.int (v_pressWith vl pl v1 v2 v3)))) 0 0 (fun _ => False) := by
  refine kMet (by decide) (fun p e s m args below meth c ls hx hb hr hml hts hown hlocks hname hargs hB hl => ?_) (Nat.le_of_ble_eq_true rfl)
  obtain ⟨hP, hK, hN⟩ := hB
  have hl : lv_has ls 6 [(0, .ref (ad (66 + 13 * vn))), (1, .int v1), (2, .int v2), (3, .int v3)] := hl
  refine lv_aload_n hx hb dX6_pressWith_0 rfl (lv_at hl 0 rfl) ?_
  refine k_get (q0 := 66 + 13 * vn) (ci := 5) (v := .ref (ad (66 + 13 * vn + 1))) hx hb hts inT_X6 hown hK hP (xV (v := vn) hv hvs) rfl 1 (by decide) rfl kX6_14 rfl dX6_pressWith_1 ?_
  refine lv_iconst (v := 2) hx hb dX6_pressWith_4 (by decide) ?_
  refine lv_iload_n hx hb dX6_pressWith_5 rfl (lv_at hl 1 rfl) ?_
  refine lv_imul hx hb dX6_pressWith_6 ?_
  refine k_rV (v := .int (rg 16 (vl 1) (2 * v1))) (As := [.int (2 * v1)]) (rest := []) hx hb hml hown hts hl.1 hP hK hN (c_rg (f := (vl 1)) (n := 16) (wVo (v := vn) hv 1 (by decide) (by decide)) (xVa (v := vn) hv hvl 1 (by decide) (by decide) rfl rfl) (by decide) (2 * v1)) eX6_90 (ci := 2) (q0 := 66 + 13 * vn + 1) rfl rfl (wVo (v := vn) hv 1 (by decide) (by decide)) rfl rfl (Nat.le_of_ble_eq_true rfl) ⟨Nat.le_of_ble_eq_true rfl, Nat.le_of_ble_eq_true rfl⟩ ⟨rfl, rfl⟩ ⟨Nat.le_of_ble_eq_true rfl, Nat.le_of_ble_eq_true rfl⟩ dX6_pressWith_7 ?_
  refine lv_iload_n hx hb dX6_pressWith_10 rfl (lv_at hl 2 rfl) ?_
  refine lv_iadd hx hb dX6_pressWith_11 ?_
  refine lv_istore (lv' := [(4, .int ((rg 16 (vl 1) (2 * v1)) + v2)), (0, .ref (ad (66 + 13 * vn))), (1, .int v1), (2, .int v2), (3, .int v3)]) hx hb dX6_pressWith_12 hl (by decide) rfl (fun ls hl => ?_)
  refine lv_aload_n hx hb dX6_pressWith_14 rfl (lv_at hl 1 rfl) ?_
  refine k_get (q0 := 66 + 13 * vn) (ci := 5) (v := .ref (ad (66 + 13 * vn + 1))) hx hb hts inT_X6 hown hK hP (xV (v := vn) hv hvs) rfl 1 (by decide) rfl kX6_14 rfl dX6_pressWith_15 ?_
  refine lv_iconst (v := 2) hx hb dX6_pressWith_18 (by decide) ?_
  refine lv_iload_n hx hb dX6_pressWith_19 rfl (lv_at hl 2 rfl) ?_
  refine lv_imul hx hb dX6_pressWith_20 ?_
  refine lv_iconst (v := 1) hx hb dX6_pressWith_21 (by decide) ?_
  refine lv_iadd hx hb dX6_pressWith_22 ?_
  refine k_rV (v := .int (rg 16 (vl 1) ((2 * v1) + 1))) (As := [.int ((2 * v1) + 1)]) (rest := []) hx hb hml hown hts hl.1 hP hK hN (c_rg (f := (vl 1)) (n := 16) (wVo (v := vn) hv 1 (by decide) (by decide)) (xVa (v := vn) hv hvl 1 (by decide) (by decide) rfl rfl) (by decide) ((2 * v1) + 1)) eX6_90 (ci := 2) (q0 := 66 + 13 * vn + 1) rfl rfl (wVo (v := vn) hv 1 (by decide) (by decide)) rfl rfl (Nat.le_of_ble_eq_true rfl) ⟨Nat.le_of_ble_eq_true rfl, Nat.le_of_ble_eq_true rfl⟩ ⟨rfl, rfl⟩ ⟨Nat.le_of_ble_eq_true rfl, Nat.le_of_ble_eq_true rfl⟩ dX6_pressWith_23 ?_
  refine lv_iload_n hx hb dX6_pressWith_26 rfl (lv_at hl 4 rfl) ?_
  refine lv_iadd hx hb dX6_pressWith_27 ?_
  refine lv_istore (lv' := [(5, .int ((rg 16 (vl 1) ((2 * v1) + 1)) + v3)), (4, .int ((rg 16 (vl 1) (2 * v1)) + v2)), (0, .ref (ad (66 + 13 * vn))), (1, .int v1), (2, .int v2), (3, .int v3)]) hx hb dX6_pressWith_28 hl (by decide) rfl (fun ls hl => ?_)
  refine lv_iload hx hb dX6_pressWith_30 (lv_at hl 1 rfl) ?_
  refine lv_iload hx hb dX6_pressWith_32 (lv_at hl 0 rfl) ?_
  refine lv_iadd hx hb dX6_pressWith_34 ?_
  refine lv_aload_n hx hb dX6_pressWith_35 rfl (lv_at hl 2 rfl) ?_
  refine k_get (q0 := 66 + 13 * vn) (ci := 5) (v := .ref (ad 16)) hx hb hts inT_X6 hown hK hP (xV (v := vn) hv hvs) rfl 0 (by decide) rfl kX6_51 rfl dX6_pressWith_36 ?_
  refine k_getN (q0 := 16 + 25 * 0) (ci := 0) (v := .ref (ad (16 + 25 * 0 + 3))) hx hb hts hN inT_X0 hown hK hP (xP (p := 0) (by decide) hps) rfl 2 (by decide) rfl kX6_93 rfl dX6_pressWith_39 ?_
  refine lv_iload_n hx hb dX6_pressWith_42 rfl (lv_at hl 3 rfl) ?_
  refine k_rV (v := .int (rg 8 (pl 2) v1)) (As := [.int v1]) (rest := [.int (((rg 16 (vl 1) (2 * v1)) + v2) + ((rg 16 (vl 1) ((2 * v1) + 1)) + v3))]) hx hb hml hown hts hl.1 hP hK hN (c_rg (f := (pl 2)) (n := 8) (wPo (p := 0) (by decide) 3 (by decide) (by decide)) (xPa (p := 0) (by decide) hpl 3 (by decide) (by decide) rfl rfl) (by decide) v1) eX6_90 (ci := 2) (q0 := 16 + 25 * 0 + 3) rfl rfl (wPo (p := 0) (by decide) 3 (by decide) (by decide)) rfl rfl (Nat.le_of_ble_eq_true rfl) ⟨Nat.le_of_ble_eq_true rfl, Nat.le_of_ble_eq_true rfl⟩ ⟨rfl, rfl⟩ ⟨Nat.le_of_ble_eq_true rfl, Nat.le_of_ble_eq_true rfl⟩ dX6_pressWith_43 ?_
  refine lv_iload hx hb dX6_pressWith_46 (lv_at hl 1 rfl) ?_
  refine lv_iload hx hb dX6_pressWith_48 (lv_at hl 0 rfl) ?_
  refine lv_isub hx hb dX6_pressWith_50 ?_
  refine k_mabs (rest := [.int (rg 8 (pl 2) v1), .int (((rg 16 (vl 1) (2 * v1)) + v2) + ((rg 16 (vl 1) ((2 * v1) + 1)) + v3))]) hx hb hml hown hts hl.1 eX6_96 (Nat.le_of_ble_eq_true rfl) (Nat.le_of_ble_eq_true rfl) (Nat.le_of_ble_eq_true rfl) (Nat.le_of_ble_eq_true rfl) dX6_pressWith_51 ?_
  refine lv_imul hx hb dX6_pressWith_54 ?_
  refine lv_bipush (v := 10) hx hb dX6_pressWith_55 (by decide) ?_
  refine lv_idiv hx hb dX6_pressWith_57 (by decide) ?_
  refine lv_iadd hx hb dX6_pressWith_58 ?_
  have hE : (v_pressWith vl pl v1 v2 v3) = ((((rg 16 (vl 1) (2 * v1)) + v2) + ((rg 16 (vl 1) ((2 * v1) + 1)) + v3)) + (((rg 8 (pl 2) v1) * (jabs (((rg 16 (vl 1) (2 * v1)) + v2) - ((rg 16 (vl 1) ((2 * v1) + 1)) + v3)))) / 10)) := by rw [v_pressWith]
  exact W.iret (v := ((((rg 16 (vl 1) (2 * v1)) + v2) + ((rg 16 (vl 1) ((2 * v1) + 1)) + v3)) + (((rg 8 (pl 2) v1) * (jabs (((rg 16 (vl 1) (2 * v1)) + v2) - ((rg 16 (vl 1) ((2 * v1) + 1)) + v3)))) / 10))) hx hb hr (fun t ht hW => ⟨by rw [hE], ht⟩) (fun _ h => absurd h List.not_mem_nil) dX6_pressWith_59 hlocks
-- X6_propped
def v_propped_k4 (ps : Nat → Int32) (v2 : Int32) : Int32 := (v2 * (ps 17))
def v_propped_L4 (vl : Nat → Nat → Int32) (v1 : Int32) : Nat → Nat → Int32 → Int32
  | 0, i, v2 => v2
  | n + 1, i, v2 => if 3 ≤ (nI i) then v2 else (if (rg 24 (vl 5) ((v1 * 3) + (nI i))) = 0 then v_propped_L4 vl v1 n (i + 1) (v2 + 1) else v_propped_L4 vl v1 n (i + 1) v2)
def v_propped (vl : Nat → Nat → Int32) (ps : Nat → Int32) (v1 : Int32) : Int32 := v_propped_k4 ps (v_propped_L4 vl v1 ((rg 8 (vl 4) v1).toNatClampNeg) 0 0)
set_option maxHeartbeats 4000000 in
set_option maxRecDepth 100000 in
theorem c_v_propped (hI : kInj ad 183) (hv : vn < 9) (hvl : VL vn = vl) (hvs : VS vn = vs) (hpl : PL 0 = pl) (hps : PS 0 = ps) (v1 : Int32) : Met l yX6_propped (.code yX6_propped cX6_propped 4 (some .int) :: kT) ({ frames := 1, cells := 0, slots := 0, locals := 21 } : Room) (va_Pc [.ref (ad (66 + 13 * vn)), .int v1] (kB (dC, dI) [(cI, .int)] (cws cI ad ML MS PL PS VL VS LL))) (kR (some (.int (v_propped vl ps v1)))) 0 0 (fun _ => False) := by
  refine kMet (by decide) (fun p e s m args below meth c ls hx hb hr hml hts hown hlocks hname hargs hB hl => ?_) (Nat.le_of_ble_eq_true rfl)
  obtain ⟨hP, hK, hN⟩ := hB
  have hl : lv_has ls 4 [(0, .ref (ad (66 + 13 * vn))), (1, .int v1)] := hl
  refine lv_iconst (v := 0) hx hb dX6_propped_0 (by decide) ?_
  refine lv_istore_n (lv' := [(2, .int 0), (0, .ref (ad (66 + 13 * vn))), (1, .int v1)]) hx hb dX6_propped_1 rfl hl (by decide) rfl (fun ls hl => ?_)
  refine lv_iconst (v := 0) hx hb dX6_propped_2 (by decide) ?_
  refine lv_istore_n (lv' := [(3, .int 0), (2, .int 0), (0, .ref (ad (66 + 13 * vn))), (1, .int v1)]) hx hb dX6_propped_3 rfl hl (by decide) rfl (fun ls hl => ?_)
  have rest_4 : ∀ (x2_4 : Int32), ∀ (ls : Array Slot), lv_has ls 4 [(0, .ref (ad (66 + 13 * vn))), (2, .int x2_4)] → (v_propped vl ps v1) = v_propped_k4 ps x2_4 → W p l e ({ frames := 1, cells := 0, slots := 0, locals := 21 } : Room) s m args below meth c s.heap [] 0 0 (MQ below (kR (some (.int (v_propped vl ps v1)))) args s 0 0 (fun _ => False)) (F0 m 45 ls []) := by
    intro x2_4 ls hl  hF_4
    refine lv_iload_n hx hb dX6_propped_45 rfl (lv_at hl 1 rfl) ?_
    refine lv_aload_n hx hb dX6_propped_46 rfl (lv_at hl 0 rfl) ?_
    refine k_get (q0 := 66 + 13 * vn) (ci := 5) (v := .ref (ad 16)) hx hb hts inT_X6 hown hK hP (xV (v := vn) hv hvs) rfl 0 (by decide) rfl kX6_51 rfl dX6_propped_47 ?_
    refine k_getN (q0 := 16 + 25 * 0) (ci := 0) (v := .int (ps 17)) hx hb hts hN inT_X0 hown hK hP (xP (p := 0) (by decide) hps) rfl 17 (by decide) rfl kX6_101 rfl dX6_propped_50 ?_
    refine lv_imul hx hb dX6_propped_53 ?_
    have hE : (v_propped vl ps v1) = (x2_4 * (ps 17)) := hF_4.trans (by rw [v_propped_k4])
    exact W.iret (v := (x2_4 * (ps 17))) hx hb hr (fun t ht hW => ⟨by rw [hE], ht⟩) (fun _ h => absurd h List.not_mem_nil) dX6_propped_54 hlocks
  have hN_4 : ((rg 8 (vl 4) v1).toNatClampNeg) < 2 ^ 31 := kcl_lt _
  have loop_4 : ∀ (n_4 i_4 : Nat) (x2_4 : Int32), i_4 + n_4 = (rg 8 (vl 4) v1).toNatClampNeg → ∀ (ls : Array Slot), lv_has ls 4 [(0, .ref (ad (66 + 13 * vn))), (1, .int v1), (2, .int x2_4), (3, .int (nI i_4))] → (∀ (ls : Array Slot), lv_has ls 4 [(0, .ref (ad (66 + 13 * vn))), (2, .int (v_propped_L4 vl v1 n_4 i_4 x2_4))] → W p l e ({ frames := 1, cells := 0, slots := 0, locals := 21 } : Room) s m args below meth c s.heap [] 0 0 (MQ below (kR (some (.int (v_propped vl ps v1)))) args s 0 0 (fun _ => False)) (F0 m 45 ls [])) → W p l e ({ frames := 1, cells := 0, slots := 0, locals := 21 } : Room) s m args below meth c s.heap [] 0 0 (MQ below (kR (some (.int (v_propped vl ps v1)))) args s 0 0 (fun _ => False)) (F0 m 4 ls []) := by
    intro n_4
    induction n_4 with
    | zero =>
      intro i_4 x2_4 hin_4 ls hl  hk_4
      refine lv_iload_n hx hb dX6_propped_4 rfl (lv_at hl 3 rfl) ?_
      refine lv_aload_n hx hb dX6_propped_5 rfl (lv_at hl 0 rfl) ?_
      refine k_get (q0 := 66 + 13 * vn) (ci := 5) (v := .ref (ad (66 + 13 * vn + 7))) hx hb hts inT_X6 hown hK hP (xV (v := vn) hv hvs) rfl 4 (by decide) rfl kX6_26 rfl dX6_propped_6 ?_
      refine lv_iload_n hx hb dX6_propped_9 rfl (lv_at hl 1 rfl) ?_
      refine k_rV (v := .int (rg 8 (vl 4) v1)) (As := [.int v1]) (rest := [.int (nI i_4)]) hx hb hml hown hts hl.1 hP hK hN (c_rg (f := (vl 4)) (n := 8) (wVo (v := vn) hv 7 (by decide) (by decide)) (xVa (v := vn) hv hvl 7 (by decide) (by decide) rfl rfl) (by decide) v1) eX6_90 (ci := 2) (q0 := 66 + 13 * vn + 7) rfl rfl (wVo (v := vn) hv 7 (by decide) (by decide)) rfl rfl (Nat.le_of_ble_eq_true rfl) ⟨Nat.le_of_ble_eq_true rfl, Nat.le_of_ble_eq_true rfl⟩ ⟨rfl, rfl⟩ ⟨Nat.le_of_ble_eq_true rfl, Nat.le_of_ble_eq_true rfl⟩ dX6_propped_10 ?_
      refine lv_icmp_ge (tgt := 45) hx hb dX6_propped_13 (by decide) (fun _ => ?_) (fun c_4 => absurd (kct_ge (N := (rg 8 (vl 4) v1).toNatClampNeg) rfl (by omega) (by omega)) c_4)
      have hL_4 : (v_propped_L4 vl v1 0 i_4 x2_4) = x2_4 := by rw [v_propped_L4.eq_1]
      try rw [hL_4] at hk_4
      exact hk_4 _ (lv_sub hl [0, 2] rfl) 
    | succ n_4 ih_4 =>
      intro i_4 x2_4 hin_4 ls hl  hk_4
      refine lv_iload_n hx hb dX6_propped_4 rfl (lv_at hl 3 rfl) ?_
      refine lv_aload_n hx hb dX6_propped_5 rfl (lv_at hl 0 rfl) ?_
      refine k_get (q0 := 66 + 13 * vn) (ci := 5) (v := .ref (ad (66 + 13 * vn + 7))) hx hb hts inT_X6 hown hK hP (xV (v := vn) hv hvs) rfl 4 (by decide) rfl kX6_26 rfl dX6_propped_6 ?_
      refine lv_iload_n hx hb dX6_propped_9 rfl (lv_at hl 1 rfl) ?_
      refine k_rV (v := .int (rg 8 (vl 4) v1)) (As := [.int v1]) (rest := [.int (nI i_4)]) hx hb hml hown hts hl.1 hP hK hN (c_rg (f := (vl 4)) (n := 8) (wVo (v := vn) hv 7 (by decide) (by decide)) (xVa (v := vn) hv hvl 7 (by decide) (by decide) rfl rfl) (by decide) v1) eX6_90 (ci := 2) (q0 := 66 + 13 * vn + 7) rfl rfl (wVo (v := vn) hv 7 (by decide) (by decide)) rfl rfl (Nat.le_of_ble_eq_true rfl) ⟨Nat.le_of_ble_eq_true rfl, Nat.le_of_ble_eq_true rfl⟩ ⟨rfl, rfl⟩ ⟨Nat.le_of_ble_eq_true rfl, Nat.le_of_ble_eq_true rfl⟩ dX6_propped_10 ?_
      refine lv_icmp_ge (tgt := 45) hx hb dX6_propped_13 (by decide) (fun c_5 => absurd c_5 (kct_lt (N := (rg 8 (vl 4) v1).toNatClampNeg) rfl (by omega))) (fun _ => ?_)
      refine lv_iload_n hx hb dX6_propped_16 rfl (lv_at hl 3 rfl) ?_
      refine lv_iconst (v := 3) hx hb dX6_propped_17 (by decide) ?_
      refine lv_icmp_ge (tgt := 45) hx hb dX6_propped_18 (by decide) (fun c_6 => ?_) (fun c_6 => ?_)
      · have hL_4 : (v_propped_L4 vl v1 (n_4 + 1) i_4 x2_4) = x2_4 := by rw [v_propped_L4.eq_2, if_pos c_6]
        try rw [hL_4] at hk_4
        exact hk_4 _ (lv_sub hl [0, 2] rfl) 
      · refine lv_aload_n hx hb dX6_propped_21 rfl (lv_at hl 0 rfl) ?_
        refine k_get (q0 := 66 + 13 * vn) (ci := 5) (v := .ref (ad (66 + 13 * vn + 9))) hx hb hts inT_X6 hown hK hP (xV (v := vn) hv hvs) rfl 5 (by decide) rfl kX6_29 rfl dX6_propped_22 ?_
        refine lv_iload_n hx hb dX6_propped_25 rfl (lv_at hl 1 rfl) ?_
        refine lv_iconst (v := 3) hx hb dX6_propped_26 (by decide) ?_
        refine lv_imul hx hb dX6_propped_27 ?_
        refine lv_iload_n hx hb dX6_propped_28 rfl (lv_at hl 3 rfl) ?_
        refine lv_iadd hx hb dX6_propped_29 ?_
        refine k_rV (v := .int (rg 24 (vl 5) ((v1 * 3) + (nI i_4)))) (As := [.int ((v1 * 3) + (nI i_4))]) (rest := []) hx hb hml hown hts hl.1 hP hK hN (c_rg (f := (vl 5)) (n := 24) (wVo (v := vn) hv 9 (by decide) (by decide)) (xVa (v := vn) hv hvl 9 (by decide) (by decide) rfl rfl) (by decide) ((v1 * 3) + (nI i_4))) eX6_90 (ci := 2) (q0 := 66 + 13 * vn + 9) rfl rfl (wVo (v := vn) hv 9 (by decide) (by decide)) rfl rfl (Nat.le_of_ble_eq_true rfl) ⟨Nat.le_of_ble_eq_true rfl, Nat.le_of_ble_eq_true rfl⟩ ⟨rfl, rfl⟩ ⟨Nat.le_of_ble_eq_true rfl, Nat.le_of_ble_eq_true rfl⟩ dX6_propped_30 ?_
        refine lv_if_ne (tgt := 39) hx hb dX6_propped_33 (by decide) (fun c_7 => ?_) (fun c_7 => ?_)
        · refine lv_iinc (v := (nI (i_4 + 1))) (lv' := [(3, .int (nI (i_4 + 1))), (0, .ref (ad (66 + 13 * vn))), (1, .int v1), (2, .int x2_4)]) hx hb dX6_propped_39 hl (k := 3) rfl (nI_add _ _) (by decide) rfl (fun ls hl => ?_)
          refine lv_goto (tgt := 4) hx hb dX6_propped_42 (by decide) ?_
          have hL_4 : (v_propped_L4 vl v1 (n_4 + 1) i_4 x2_4) = (v_propped_L4 vl v1 n_4 (i_4 + 1) x2_4) := by rw [v_propped_L4.eq_2, if_neg c_6, if_neg c_7]
          try rw [hL_4] at hk_4
          exact ih_4 (i_4 + 1) x2_4 (by omega) _ (lv_sub hl [1, 2, 3, 0] rfl)  hk_4
        · refine lv_iinc (v := (x2_4 + 1)) (lv' := [(2, .int (x2_4 + 1)), (0, .ref (ad (66 + 13 * vn))), (1, .int v1), (3, .int (nI i_4))]) hx hb dX6_propped_36 hl (k := 2) rfl rfl (by decide) rfl (fun ls hl => ?_)
          refine lv_iinc (v := (nI (i_4 + 1))) (lv' := [(3, .int (nI (i_4 + 1))), (2, .int (x2_4 + 1)), (0, .ref (ad (66 + 13 * vn))), (1, .int v1)]) hx hb dX6_propped_39 hl (k := 3) rfl (nI_add _ _) (by decide) rfl (fun ls hl => ?_)
          refine lv_goto (tgt := 4) hx hb dX6_propped_42 (by decide) ?_
          have hL_4 : (v_propped_L4 vl v1 (n_4 + 1) i_4 x2_4) = (v_propped_L4 vl v1 n_4 (i_4 + 1) (x2_4 + 1)) := by rw [v_propped_L4.eq_2, if_neg c_6, if_pos c_7]
          try rw [hL_4] at hk_4
          exact ih_4 (i_4 + 1) (x2_4 + 1) (by omega) _ (lv_sub hl [2, 3, 1, 0] rfl)  hk_4
  exact loop_4 ((rg 8 (vl 4) v1).toNatClampNeg) 0 0 (by omega) _ (lv_sub hl [2, 3, 1, 0] rfl)  (fun ls hl  => rest_4 (v_propped_L4 vl v1 ((rg 8 (vl 4) v1).toNatClampNeg) 0 0) _ hl  (by rw [v_propped]))
-- X6_loadWith
def v_loadWith (vl : Nat → Nat → Int32) (pl : Nat → Nat → Int32) (ps : Nat → Int32) (v1 : Int32) (v2 : Int32) (v3 : Int32) : Int32 := ((v_pressWith vl pl v1 v2 v3) - (v_propped vl ps v1))
set_option maxHeartbeats 4000000 in
set_option maxRecDepth 100000 in
theorem c_v_loadWith (hI : kInj ad 183) (hv : vn < 9) (hvl : VL vn = vl) (hvs : VS vn = vs) (hpl : PL 0 = pl) (hps : PS 0 = ps) (v1 : Int32) (v2 : Int32) (v3 : Int32) : Met l yX6_loadWith (.code yX6_loadWith cX6_loadWith 4 (some .int) :: kT) ({ frames := 2, cells := 0, slots := 0, locals := 46 } : Room) (va_Pc [.ref (ad (66 + 13 * vn)), .int v1, .int v2, .int v3] (kB (dC, dI) [(cI, .int)] (cws cI ad ML MS PL PS VL VS LL))) (kR (some (.int (v_loadWith vl pl ps v1 v2 v3)))) 0 0 (fun _ => False) := by
  refine kMet (by decide) (fun p e s m args below meth c ls hx hb hr hml hts hown hlocks hname hargs hB hl => ?_) (Nat.le_of_ble_eq_true rfl)
  obtain ⟨hP, hK, hN⟩ := hB
  have hl : lv_has ls 4 [(0, .ref (ad (66 + 13 * vn))), (1, .int v1), (2, .int v2), (3, .int v3)] := hl
  refine lv_aload_n hx hb dX6_loadWith_0 rfl (lv_at hl 0 rfl) ?_
  refine lv_iload_n hx hb dX6_loadWith_1 rfl (lv_at hl 1 rfl) ?_
  refine lv_iload_n hx hb dX6_loadWith_2 rfl (lv_at hl 2 rfl) ?_
  refine lv_iload_n hx hb dX6_loadWith_3 rfl (lv_at hl 3 rfl) ?_
  refine k_rV (v := .int (v_pressWith vl pl v1 v2 v3)) (As := [.int v1, .int v2, .int v3]) (rest := []) hx hb hml hown hts hl.1 hP hK hN (c_v_pressWith hI hv hvl hvs hpl hps v1 v2 v3) eX6_104 (ci := 5) (q0 := 66 + 13 * vn) rfl rfl (xV (v := vn) hv hvs) rfl rfl (Nat.le_of_ble_eq_true rfl) ⟨Nat.le_of_ble_eq_true rfl, Nat.le_of_ble_eq_true rfl⟩ ⟨rfl, rfl⟩ ⟨Nat.le_of_ble_eq_true rfl, Nat.le_of_ble_eq_true rfl⟩ dX6_loadWith_4 ?_
  refine lv_aload_n hx hb dX6_loadWith_7 rfl (lv_at hl 0 rfl) ?_
  refine lv_iload_n hx hb dX6_loadWith_8 rfl (lv_at hl 1 rfl) ?_
  refine k_rV (v := .int (v_propped vl ps v1)) (As := [.int v1]) (rest := [.int (v_pressWith vl pl v1 v2 v3)]) hx hb hml hown hts hl.1 hP hK hN (c_v_propped hI hv hvl hvs hpl hps v1) eX6_108 (ci := 5) (q0 := 66 + 13 * vn) rfl rfl (xV (v := vn) hv hvs) rfl rfl (Nat.le_of_ble_eq_true rfl) ⟨Nat.le_of_ble_eq_true rfl, Nat.le_of_ble_eq_true rfl⟩ ⟨rfl, rfl⟩ ⟨Nat.le_of_ble_eq_true rfl, Nat.le_of_ble_eq_true rfl⟩ dX6_loadWith_9 ?_
  refine lv_isub hx hb dX6_loadWith_12 ?_
  have hE : (v_loadWith vl pl ps v1 v2 v3) = ((v_pressWith vl pl v1 v2 v3) - (v_propped vl ps v1)) := by rw [v_loadWith]
  exact W.iret (v := ((v_pressWith vl pl v1 v2 v3) - (v_propped vl ps v1))) hx hb hr (fun t ht hW => ⟨by rw [hE], ht⟩) (fun _ h => absurd h List.not_mem_nil) dX6_loadWith_13 hlocks
-- X6_load
def v_load (vl : Nat → Nat → Int32) (pl : Nat → Nat → Int32) (ps : Nat → Int32) (v1 : Int32) : Int32 := ((v_pressWith vl pl v1 0 0) - (v_propped vl ps v1))
set_option maxHeartbeats 4000000 in
set_option maxRecDepth 100000 in
theorem c_v_load (hI : kInj ad 183) (hv : vn < 9) (hvl : VL vn = vl) (hvs : VS vn = vs) (hpl : PL 0 = pl) (hps : PS 0 = ps) (v1 : Int32) : Met l yX6_load (.code yX6_load cX6_load 2 (some .int) :: kT) ({ frames := 2, cells := 0, slots := 0, locals := 46 } : Room) (va_Pc [.ref (ad (66 + 13 * vn)), .int v1] (kB (dC, dI) [(cI, .int)] (cws cI ad ML MS PL PS VL VS LL))) (kR (some (.int (v_load vl pl ps v1)))) 0 0 (fun _ => False) := by
  refine kMet (by decide) (fun p e s m args below meth c ls hx hb hr hml hts hown hlocks hname hargs hB hl => ?_) (Nat.le_of_ble_eq_true rfl)
  obtain ⟨hP, hK, hN⟩ := hB
  have hl : lv_has ls 2 [(0, .ref (ad (66 + 13 * vn))), (1, .int v1)] := hl
  refine lv_aload_n hx hb dX6_load_0 rfl (lv_at hl 0 rfl) ?_
  refine lv_iload_n hx hb dX6_load_1 rfl (lv_at hl 1 rfl) ?_
  refine lv_iconst (v := 0) hx hb dX6_load_2 (by decide) ?_
  refine lv_iconst (v := 0) hx hb dX6_load_3 (by decide) ?_
  refine k_rV (v := .int (v_pressWith vl pl v1 0 0)) (As := [.int v1, .int 0, .int 0]) (rest := []) hx hb hml hown hts hl.1 hP hK hN (c_v_pressWith hI hv hvl hvs hpl hps v1 0 0) eX6_104 (ci := 5) (q0 := 66 + 13 * vn) rfl rfl (xV (v := vn) hv hvs) rfl rfl (Nat.le_of_ble_eq_true rfl) ⟨Nat.le_of_ble_eq_true rfl, Nat.le_of_ble_eq_true rfl⟩ ⟨rfl, rfl⟩ ⟨Nat.le_of_ble_eq_true rfl, Nat.le_of_ble_eq_true rfl⟩ dX6_load_4 ?_
  refine lv_aload_n hx hb dX6_load_7 rfl (lv_at hl 0 rfl) ?_
  refine lv_iload_n hx hb dX6_load_8 rfl (lv_at hl 1 rfl) ?_
  refine k_rV (v := .int (v_propped vl ps v1)) (As := [.int v1]) (rest := [.int (v_pressWith vl pl v1 0 0)]) hx hb hml hown hts hl.1 hP hK hN (c_v_propped hI hv hvl hvs hpl hps v1) eX6_108 (ci := 5) (q0 := 66 + 13 * vn) rfl rfl (xV (v := vn) hv hvs) rfl rfl (Nat.le_of_ble_eq_true rfl) ⟨Nat.le_of_ble_eq_true rfl, Nat.le_of_ble_eq_true rfl⟩ ⟨rfl, rfl⟩ ⟨Nat.le_of_ble_eq_true rfl, Nat.le_of_ble_eq_true rfl⟩ dX6_load_9 ?_
  refine lv_isub hx hb dX6_load_12 ?_
  have hE : (v_load vl pl ps v1) = ((v_pressWith vl pl v1 0 0) - (v_propped vl ps v1)) := by rw [v_load]
  exact W.iret (v := ((v_pressWith vl pl v1 0 0) - (v_propped vl ps v1))) hx hb hr (fun t ht hW => ⟨by rw [hE], ht⟩) (fun _ h => absurd h List.not_mem_nil) dX6_load_13 hlocks
-- X6_chances
def v_chances (vl : Nat → Nat → Int32) (pl : Nat → Nat → Int32) (v1 : Int32) : Int32 := (p_tenthsOf pl v1 (rg 8 (vl 2) v1))
set_option maxHeartbeats 4000000 in
set_option maxRecDepth 100000 in
theorem c_v_chances (hI : kInj ad 183) (hv : vn < 9) (hvl : VL vn = vl) (hvs : VS vn = vs) (hpl : PL 0 = pl) (hps : PS 0 = ps) (v1 : Int32) : Met l yX6_chances (.code yX6_chances cX6_chances 2 (some .int) :: kT) ({ frames := 2, cells := 0, slots := 0, locals := 45 } : Room) (va_Pc [.ref (ad (66 + 13 * vn)), .int v1] (kB (dC, dI) [(cI, .int)] (cws cI ad ML MS PL PS VL VS LL))) (kR (some (.int (v_chances vl pl v1)))) 0 0 (fun _ => False) := by
  refine kMet (by decide) (fun p e s m args below meth c ls hx hb hr hml hts hown hlocks hname hargs hB hl => ?_) (Nat.le_of_ble_eq_true rfl)
  obtain ⟨hP, hK, hN⟩ := hB
  have hl : lv_has ls 2 [(0, .ref (ad (66 + 13 * vn))), (1, .int v1)] := hl
  refine lv_aload_n hx hb dX6_chances_0 rfl (lv_at hl 0 rfl) ?_
  refine k_get (q0 := 66 + 13 * vn) (ci := 5) (v := .ref (ad 16)) hx hb hts inT_X6 hown hK hP (xV (v := vn) hv hvs) rfl 0 (by decide) rfl kX6_51 rfl dX6_chances_1 ?_
  refine lv_iload_n hx hb dX6_chances_4 rfl (lv_at hl 1 rfl) ?_
  refine lv_aload_n hx hb dX6_chances_5 rfl (lv_at hl 0 rfl) ?_
  refine k_get (q0 := 66 + 13 * vn) (ci := 5) (v := .ref (ad (66 + 13 * vn + 3))) hx hb hts inT_X6 hown hK hP (xV (v := vn) hv hvs) rfl 2 (by decide) rfl kX6_20 rfl dX6_chances_6 ?_
  refine lv_iload_n hx hb dX6_chances_9 rfl (lv_at hl 1 rfl) ?_
  refine k_rV (v := .int (rg 8 (vl 2) v1)) (As := [.int v1]) (rest := [.int v1, .ref (ad 16)]) hx hb hml hown hts hl.1 hP hK hN (c_rg (f := (vl 2)) (n := 8) (wVo (v := vn) hv 3 (by decide) (by decide)) (xVa (v := vn) hv hvl 3 (by decide) (by decide) rfl rfl) (by decide) v1) eX6_90 (ci := 2) (q0 := 66 + 13 * vn + 3) rfl rfl (wVo (v := vn) hv 3 (by decide) (by decide)) rfl rfl (Nat.le_of_ble_eq_true rfl) ⟨Nat.le_of_ble_eq_true rfl, Nat.le_of_ble_eq_true rfl⟩ ⟨rfl, rfl⟩ ⟨Nat.le_of_ble_eq_true rfl, Nat.le_of_ble_eq_true rfl⟩ dX6_chances_10 ?_
  refine k_rV (v := .int (p_tenthsOf pl v1 (rg 8 (vl 2) v1))) (As := [.int v1, .int (rg 8 (vl 2) v1)]) (rest := []) hx hb hml hown hts hl.1 hP hK hN (c_p_tenthsOf (pn := 0) (VL := VL) (VS := VS) (PL := PL) (PS := PS) (pl := pl) (ps := ps) hI (by decide) hpl hps v1 (rg 8 (vl 2) v1)) eX6_111 (ci := 0) (q0 := 16 + 25 * 0) rfl rfl (xP (p := 0) (by decide) hps) rfl rfl (Nat.le_of_ble_eq_true rfl) ⟨Nat.le_of_ble_eq_true rfl, Nat.le_of_ble_eq_true rfl⟩ ⟨rfl, rfl⟩ ⟨Nat.le_of_ble_eq_true rfl, Nat.le_of_ble_eq_true rfl⟩ dX6_chances_13 ?_
  have hE : (v_chances vl pl v1) = (p_tenthsOf pl v1 (rg 8 (vl 2) v1)) := by rw [v_chances]
  exact W.iret (v := (p_tenthsOf pl v1 (rg 8 (vl 2) v1))) hx hb hr (fun t ht hW => ⟨by rw [hE], ht⟩) (fun _ h => absurd h List.not_mem_nil) dX6_chances_16 hlocks
-- X6_chanceOf
def v_chanceOf (vl : Nat → Nat → Int32) (pl : Nat → Nat → Int32) (v1 : Int32) (v2 : Int32) : Int32 := (p_tenthsOf pl v1 ((rg 8 (vl 2) v1) &&& (1 <<< (v2 &&& 31))))
set_option maxHeartbeats 4000000 in
set_option maxRecDepth 100000 in
theorem c_v_chanceOf (hI : kInj ad 183) (hv : vn < 9) (hvl : VL vn = vl) (hvs : VS vn = vs) (hpl : PL 0 = pl) (hps : PS 0 = ps) (v1 : Int32) (v2 : Int32) : Met l yX6_chanceOf (.code yX6_chanceOf cX6_chanceOf 3 (some .int) :: kT) ({ frames := 2, cells := 0, slots := 0, locals := 45 } : Room) (va_Pc [.ref (ad (66 + 13 * vn)), .int v1, .int v2] (kB (dC, dI) [(cI, .int)] (cws cI ad ML MS PL PS VL VS LL))) (kR (some (.int (v_chanceOf vl pl v1 v2)))) 0 0 (fun _ => False) := by
  refine kMet (by decide) (fun p e s m args below meth c ls hx hb hr hml hts hown hlocks hname hargs hB hl => ?_) (Nat.le_of_ble_eq_true rfl)
  obtain ⟨hP, hK, hN⟩ := hB
  have hl : lv_has ls 3 [(0, .ref (ad (66 + 13 * vn))), (1, .int v1), (2, .int v2)] := hl
  refine lv_aload_n hx hb dX6_chanceOf_0 rfl (lv_at hl 0 rfl) ?_
  refine k_get (q0 := 66 + 13 * vn) (ci := 5) (v := .ref (ad 16)) hx hb hts inT_X6 hown hK hP (xV (v := vn) hv hvs) rfl 0 (by decide) rfl kX6_51 rfl dX6_chanceOf_1 ?_
  refine lv_iload_n hx hb dX6_chanceOf_4 rfl (lv_at hl 1 rfl) ?_
  refine lv_aload_n hx hb dX6_chanceOf_5 rfl (lv_at hl 0 rfl) ?_
  refine k_get (q0 := 66 + 13 * vn) (ci := 5) (v := .ref (ad (66 + 13 * vn + 3))) hx hb hts inT_X6 hown hK hP (xV (v := vn) hv hvs) rfl 2 (by decide) rfl kX6_20 rfl dX6_chanceOf_6 ?_
  refine lv_iload_n hx hb dX6_chanceOf_9 rfl (lv_at hl 1 rfl) ?_
  refine k_rV (v := .int (rg 8 (vl 2) v1)) (As := [.int v1]) (rest := [.int v1, .ref (ad 16)]) hx hb hml hown hts hl.1 hP hK hN (c_rg (f := (vl 2)) (n := 8) (wVo (v := vn) hv 3 (by decide) (by decide)) (xVa (v := vn) hv hvl 3 (by decide) (by decide) rfl rfl) (by decide) v1) eX6_90 (ci := 2) (q0 := 66 + 13 * vn + 3) rfl rfl (wVo (v := vn) hv 3 (by decide) (by decide)) rfl rfl (Nat.le_of_ble_eq_true rfl) ⟨Nat.le_of_ble_eq_true rfl, Nat.le_of_ble_eq_true rfl⟩ ⟨rfl, rfl⟩ ⟨Nat.le_of_ble_eq_true rfl, Nat.le_of_ble_eq_true rfl⟩ dX6_chanceOf_10 ?_
  refine lv_iconst (v := 1) hx hb dX6_chanceOf_13 (by decide) ?_
  refine lv_iload_n hx hb dX6_chanceOf_14 rfl (lv_at hl 2 rfl) ?_
  refine lv_ishl hx hb dX6_chanceOf_15 ?_
  refine lv_iand hx hb dX6_chanceOf_16 ?_
  refine k_rV (v := .int (p_tenthsOf pl v1 ((rg 8 (vl 2) v1) &&& (1 <<< (v2 &&& 31))))) (As := [.int v1, .int ((rg 8 (vl 2) v1) &&& (1 <<< (v2 &&& 31)))]) (rest := []) hx hb hml hown hts hl.1 hP hK hN (c_p_tenthsOf (pn := 0) (VL := VL) (VS := VS) (PL := PL) (PS := PS) (pl := pl) (ps := ps) hI (by decide) hpl hps v1 ((rg 8 (vl 2) v1) &&& (1 <<< (v2 &&& 31)))) eX6_111 (ci := 0) (q0 := 16 + 25 * 0) rfl rfl (xP (p := 0) (by decide) hps) rfl rfl (Nat.le_of_ble_eq_true rfl) ⟨Nat.le_of_ble_eq_true rfl, Nat.le_of_ble_eq_true rfl⟩ ⟨rfl, rfl⟩ ⟨Nat.le_of_ble_eq_true rfl, Nat.le_of_ble_eq_true rfl⟩ dX6_chanceOf_17 ?_
  have hE : (v_chanceOf vl pl v1 v2) = (p_tenthsOf pl v1 ((rg 8 (vl 2) v1) &&& (1 <<< (v2 &&& 31)))) := by rw [v_chanceOf]
  exact W.iret (v := (p_tenthsOf pl v1 ((rg 8 (vl 2) v1) &&& (1 <<< (v2 &&& 31))))) hx hb hr (fun t ht hW => ⟨by rw [hE], ht⟩) (fun _ h => absurd h List.not_mem_nil) dX6_chanceOf_20 hlocks
-- X6_staysBelow
def v_staysBelow_k5 (vl : Nat → Nat → Int32) (v1 : Int32) (v3 : Int32) : Int32 := ((rg 8 (vl 2) v1) &&& v3)
def v_staysBelow_L5 (pl : Nat → Nat → Int32) (v1 : Int32) (v2 : Int32) : Nat → Nat → Int32 → Int32
  | 0, i, v3 => v3
  | n + 1, i, v3 => if v2 ≤ (rg 32 (pl 8) ((v1 * 4) + (nI i))) then v_staysBelow_L5 pl v1 v2 n (i + 1) v3 else v_staysBelow_L5 pl v1 v2 n (i + 1) (v3 ||| (1 <<< ((nI i) &&& 31)))
def v_staysBelow (vl : Nat → Nat → Int32) (pl : Nat → Nat → Int32) (v1 : Int32) (v2 : Int32) : Int32 := v_staysBelow_k5 vl v1 (v_staysBelow_L5 pl v1 v2 4 0 0)
set_option maxHeartbeats 4000000 in
set_option maxRecDepth 100000 in
theorem c_v_staysBelow (hI : kInj ad 183) (hv : vn < 9) (hvl : VL vn = vl) (hvs : VS vn = vs) (hpl : PL 0 = pl) (hps : PS 0 = ps) (v1 : Int32) (v2 : Int32) : Met l yX6_staysBelow (.code yX6_staysBelow cX6_staysBelow 5 (some .int) :: kT) ({ frames := 1, cells := 0, slots := 0, locals := 21 } : Room) (va_Pc [.ref (ad (66 + 13 * vn)), .int v1, .int v2] (kB (dC, dI) [(cI, .int)] (cws cI ad ML MS PL PS VL VS LL))) (kR (some (.int (v_staysBelow vl pl v1 v2)))) 0 0 (fun _ => False) := by
  refine kMet (by decide) (fun p e s m args below meth c ls hx hb hr hml hts hown hlocks hname hargs hB hl => ?_) (Nat.le_of_ble_eq_true rfl)
  obtain ⟨hP, hK, hN⟩ := hB
  have hl : lv_has ls 5 [(0, .ref (ad (66 + 13 * vn))), (1, .int v1), (2, .int v2)] := hl
  refine lv_iconst (v := 0) hx hb dX6_staysBelow_0 (by decide) ?_
  refine lv_istore_n (lv' := [(3, .int 0), (0, .ref (ad (66 + 13 * vn))), (1, .int v1), (2, .int v2)]) hx hb dX6_staysBelow_1 rfl hl (by decide) rfl (fun ls hl => ?_)
  refine lv_iconst (v := 0) hx hb dX6_staysBelow_2 (by decide) ?_
  refine lv_istore (lv' := [(4, .int 0), (3, .int 0), (0, .ref (ad (66 + 13 * vn))), (1, .int v1), (2, .int v2)]) hx hb dX6_staysBelow_3 hl (by decide) rfl (fun ls hl => ?_)
  have rest_5 : ∀ (x3_5 : Int32), ∀ (ls : Array Slot), lv_has ls 5 [(0, .ref (ad (66 + 13 * vn))), (1, .int v1), (3, .int x3_5)] → (v_staysBelow vl pl v1 v2) = v_staysBelow_k5 vl v1 x3_5 → W p l e ({ frames := 1, cells := 0, slots := 0, locals := 21 } : Room) s m args below meth c s.heap [] 0 0 (MQ below (kR (some (.int (v_staysBelow vl pl v1 v2)))) args s 0 0 (fun _ => False)) (F0 m 44 ls []) := by
    intro x3_5 ls hl  hF_5
    refine lv_aload_n hx hb dX6_staysBelow_44 rfl (lv_at hl 0 rfl) ?_
    refine k_get (q0 := 66 + 13 * vn) (ci := 5) (v := .ref (ad (66 + 13 * vn + 3))) hx hb hts inT_X6 hown hK hP (xV (v := vn) hv hvs) rfl 2 (by decide) rfl kX6_20 rfl dX6_staysBelow_45 ?_
    refine lv_iload_n hx hb dX6_staysBelow_48 rfl (lv_at hl 1 rfl) ?_
    refine k_rV (v := .int (rg 8 (vl 2) v1)) (As := [.int v1]) (rest := []) hx hb hml hown hts hl.1 hP hK hN (c_rg (f := (vl 2)) (n := 8) (wVo (v := vn) hv 3 (by decide) (by decide)) (xVa (v := vn) hv hvl 3 (by decide) (by decide) rfl rfl) (by decide) v1) eX6_90 (ci := 2) (q0 := 66 + 13 * vn + 3) rfl rfl (wVo (v := vn) hv 3 (by decide) (by decide)) rfl rfl (Nat.le_of_ble_eq_true rfl) ⟨Nat.le_of_ble_eq_true rfl, Nat.le_of_ble_eq_true rfl⟩ ⟨rfl, rfl⟩ ⟨Nat.le_of_ble_eq_true rfl, Nat.le_of_ble_eq_true rfl⟩ dX6_staysBelow_49 ?_
    refine lv_iload_n hx hb dX6_staysBelow_52 rfl (lv_at hl 2 rfl) ?_
    refine lv_iand hx hb dX6_staysBelow_53 ?_
    have hE : (v_staysBelow vl pl v1 v2) = ((rg 8 (vl 2) v1) &&& x3_5) := hF_5.trans (by rw [v_staysBelow_k5])
    exact W.iret (v := ((rg 8 (vl 2) v1) &&& x3_5)) hx hb hr (fun t ht hW => ⟨by rw [hE], ht⟩) (fun _ h => absurd h List.not_mem_nil) dX6_staysBelow_54 hlocks
  have loop_5 : ∀ (n_5 i_5 : Nat) (x3_5 : Int32), i_5 + n_5 = 4 → ∀ (ls : Array Slot), lv_has ls 5 [(0, .ref (ad (66 + 13 * vn))), (1, .int v1), (2, .int v2), (3, .int x3_5), (4, .int (nI i_5))] → (∀ (ls : Array Slot), lv_has ls 5 [(0, .ref (ad (66 + 13 * vn))), (1, .int v1), (3, .int (v_staysBelow_L5 pl v1 v2 n_5 i_5 x3_5))] → W p l e ({ frames := 1, cells := 0, slots := 0, locals := 21 } : Room) s m args below meth c s.heap [] 0 0 (MQ below (kR (some (.int (v_staysBelow vl pl v1 v2)))) args s 0 0 (fun _ => False)) (F0 m 44 ls [])) → W p l e ({ frames := 1, cells := 0, slots := 0, locals := 21 } : Room) s m args below meth c s.heap [] 0 0 (MQ below (kR (some (.int (v_staysBelow vl pl v1 v2)))) args s 0 0 (fun _ => False)) (F0 m 5 ls []) := by
    intro n_5
    induction n_5 with
    | zero =>
      intro i_5 x3_5 hin_5 ls hl  hk_5
      refine lv_iload hx hb dX6_staysBelow_5 (lv_at hl 4 rfl) ?_
      refine lv_iconst (v := 4) hx hb dX6_staysBelow_7 (by decide) ?_
      refine lv_icmp_ge (tgt := 44) hx hb dX6_staysBelow_8 (by decide) (fun _ => ?_) (fun c_3 => absurd (kct_ge (N := 4) rfl (by omega) (by omega)) c_3)
      have hL_5 : (v_staysBelow_L5 pl v1 v2 0 i_5 x3_5) = x3_5 := by rw [v_staysBelow_L5.eq_1]
      try rw [hL_5] at hk_5
      exact hk_5 _ (lv_sub hl [0, 1, 3] rfl) 
    | succ n_5 ih_5 =>
      intro i_5 x3_5 hin_5 ls hl  hk_5
      refine lv_iload hx hb dX6_staysBelow_5 (lv_at hl 4 rfl) ?_
      refine lv_iconst (v := 4) hx hb dX6_staysBelow_7 (by decide) ?_
      refine lv_icmp_ge (tgt := 44) hx hb dX6_staysBelow_8 (by decide) (fun c_4 => absurd c_4 (kct_lt (N := 4) rfl (by omega))) (fun _ => ?_)
      refine lv_aload_n hx hb dX6_staysBelow_11 rfl (lv_at hl 0 rfl) ?_
      refine k_get (q0 := 66 + 13 * vn) (ci := 5) (v := .ref (ad 16)) hx hb hts inT_X6 hown hK hP (xV (v := vn) hv hvs) rfl 0 (by decide) rfl kX6_51 rfl dX6_staysBelow_12 ?_
      refine k_getN (q0 := 16 + 25 * 0) (ci := 0) (v := .ref (ad (16 + 25 * 0 + 15))) hx hb hts hN inT_X0 hown hK hP (xP (p := 0) (by decide) hps) rfl 8 (by decide) rfl kX6_115 rfl dX6_staysBelow_15 ?_
      refine lv_iload_n hx hb dX6_staysBelow_18 rfl (lv_at hl 1 rfl) ?_
      refine lv_iconst (v := 4) hx hb dX6_staysBelow_19 (by decide) ?_
      refine lv_imul hx hb dX6_staysBelow_20 ?_
      refine lv_iload hx hb dX6_staysBelow_21 (lv_at hl 4 rfl) ?_
      refine lv_iadd hx hb dX6_staysBelow_23 ?_
      refine k_rV (v := .int (rg 32 (pl 8) ((v1 * 4) + (nI i_5)))) (As := [.int ((v1 * 4) + (nI i_5))]) (rest := []) hx hb hml hown hts hl.1 hP hK hN (c_rg (f := (pl 8)) (n := 32) (wPo (p := 0) (by decide) 15 (by decide) (by decide)) (xPa (p := 0) (by decide) hpl 15 (by decide) (by decide) rfl rfl) (by decide) ((v1 * 4) + (nI i_5))) eX6_90 (ci := 2) (q0 := 16 + 25 * 0 + 15) rfl rfl (wPo (p := 0) (by decide) 15 (by decide) (by decide)) rfl rfl (Nat.le_of_ble_eq_true rfl) ⟨Nat.le_of_ble_eq_true rfl, Nat.le_of_ble_eq_true rfl⟩ ⟨rfl, rfl⟩ ⟨Nat.le_of_ble_eq_true rfl, Nat.le_of_ble_eq_true rfl⟩ dX6_staysBelow_24 ?_
      refine lv_iload_n hx hb dX6_staysBelow_27 rfl (lv_at hl 2 rfl) ?_
      refine lv_icmp_ge (tgt := 38) hx hb dX6_staysBelow_28 (by decide) (fun c_5 => ?_) (fun c_5 => ?_)
      · refine lv_iinc (v := (nI (i_5 + 1))) (lv' := [(4, .int (nI (i_5 + 1))), (0, .ref (ad (66 + 13 * vn))), (1, .int v1), (2, .int v2), (3, .int x3_5)]) hx hb dX6_staysBelow_38 hl (k := 4) rfl (nI_add _ _) (by decide) rfl (fun ls hl => ?_)
        refine lv_goto (tgt := 5) hx hb dX6_staysBelow_41 (by decide) ?_
        have hL_5 : (v_staysBelow_L5 pl v1 v2 (n_5 + 1) i_5 x3_5) = (v_staysBelow_L5 pl v1 v2 n_5 (i_5 + 1) x3_5) := by rw [v_staysBelow_L5.eq_2, if_pos c_5]
        try rw [hL_5] at hk_5
        exact ih_5 (i_5 + 1) x3_5 (by omega) _ (lv_sub hl [1, 2, 3, 4, 0] rfl)  hk_5
      · refine lv_iload_n hx hb dX6_staysBelow_31 rfl (lv_at hl 3 rfl) ?_
        refine lv_iconst (v := 1) hx hb dX6_staysBelow_32 (by decide) ?_
        refine lv_iload hx hb dX6_staysBelow_33 (lv_at hl 4 rfl) ?_
        refine lv_ishl hx hb dX6_staysBelow_35 ?_
        refine lv_ior hx hb dX6_staysBelow_36 ?_
        refine lv_istore_n (lv' := [(3, .int (x3_5 ||| (1 <<< ((nI i_5) &&& 31)))), (0, .ref (ad (66 + 13 * vn))), (1, .int v1), (2, .int v2), (4, .int (nI i_5))]) hx hb dX6_staysBelow_37 rfl hl (by decide) rfl (fun ls hl => ?_)
        refine lv_iinc (v := (nI (i_5 + 1))) (lv' := [(4, .int (nI (i_5 + 1))), (3, .int (x3_5 ||| (1 <<< ((nI i_5) &&& 31)))), (0, .ref (ad (66 + 13 * vn))), (1, .int v1), (2, .int v2)]) hx hb dX6_staysBelow_38 hl (k := 4) rfl (nI_add _ _) (by decide) rfl (fun ls hl => ?_)
        refine lv_goto (tgt := 5) hx hb dX6_staysBelow_41 (by decide) ?_
        have hL_5 : (v_staysBelow_L5 pl v1 v2 (n_5 + 1) i_5 x3_5) = (v_staysBelow_L5 pl v1 v2 n_5 (i_5 + 1) (x3_5 ||| (1 <<< ((nI i_5) &&& 31)))) := by rw [v_staysBelow_L5.eq_2, if_neg c_5]
        try rw [hL_5] at hk_5
        exact ih_5 (i_5 + 1) (x3_5 ||| (1 <<< ((nI i_5) &&& 31))) (by omega) _ (lv_sub hl [2, 3, 4, 1, 0] rfl)  hk_5
  exact loop_5 4 0 0 (by omega) _ (lv_sub hl [2, 3, 4, 1, 0] rfl)  (fun ls hl  => rest_5 (v_staysBelow_L5 pl v1 v2 4 0 0) _ hl  (by rw [v_staysBelow]))
-- X6_staysFrom
def v_staysFrom (vl : Nat → Nat → Int32) (pl : Nat → Nat → Int32) (v1 : Int32) (v2 : Int32) : Int32 := ((rg 8 (vl 2) v1) &&& ((v_staysBelow vl pl v1 v2) ^^^ (-1)))
set_option maxHeartbeats 4000000 in
set_option maxRecDepth 100000 in
theorem c_v_staysFrom (hI : kInj ad 183) (hv : vn < 9) (hvl : VL vn = vl) (hvs : VS vn = vs) (hpl : PL 0 = pl) (hps : PS 0 = ps) (v1 : Int32) (v2 : Int32) : Met l yX6_staysFrom (.code yX6_staysFrom cX6_staysFrom 3 (some .int) :: kT) ({ frames := 2, cells := 0, slots := 0, locals := 45 } : Room) (va_Pc [.ref (ad (66 + 13 * vn)), .int v1, .int v2] (kB (dC, dI) [(cI, .int)] (cws cI ad ML MS PL PS VL VS LL))) (kR (some (.int (v_staysFrom vl pl v1 v2)))) 0 0 (fun _ => False) := by
  refine kMet (by decide) (fun p e s m args below meth c ls hx hb hr hml hts hown hlocks hname hargs hB hl => ?_) (Nat.le_of_ble_eq_true rfl)
  obtain ⟨hP, hK, hN⟩ := hB
  have hl : lv_has ls 3 [(0, .ref (ad (66 + 13 * vn))), (1, .int v1), (2, .int v2)] := hl
  refine lv_aload_n hx hb dX6_staysFrom_0 rfl (lv_at hl 0 rfl) ?_
  refine k_get (q0 := 66 + 13 * vn) (ci := 5) (v := .ref (ad (66 + 13 * vn + 3))) hx hb hts inT_X6 hown hK hP (xV (v := vn) hv hvs) rfl 2 (by decide) rfl kX6_20 rfl dX6_staysFrom_1 ?_
  refine lv_iload_n hx hb dX6_staysFrom_4 rfl (lv_at hl 1 rfl) ?_
  refine k_rV (v := .int (rg 8 (vl 2) v1)) (As := [.int v1]) (rest := []) hx hb hml hown hts hl.1 hP hK hN (c_rg (f := (vl 2)) (n := 8) (wVo (v := vn) hv 3 (by decide) (by decide)) (xVa (v := vn) hv hvl 3 (by decide) (by decide) rfl rfl) (by decide) v1) eX6_90 (ci := 2) (q0 := 66 + 13 * vn + 3) rfl rfl (wVo (v := vn) hv 3 (by decide) (by decide)) rfl rfl (Nat.le_of_ble_eq_true rfl) ⟨Nat.le_of_ble_eq_true rfl, Nat.le_of_ble_eq_true rfl⟩ ⟨rfl, rfl⟩ ⟨Nat.le_of_ble_eq_true rfl, Nat.le_of_ble_eq_true rfl⟩ dX6_staysFrom_5 ?_
  refine lv_aload_n hx hb dX6_staysFrom_8 rfl (lv_at hl 0 rfl) ?_
  refine lv_iload_n hx hb dX6_staysFrom_9 rfl (lv_at hl 1 rfl) ?_
  refine lv_iload_n hx hb dX6_staysFrom_10 rfl (lv_at hl 2 rfl) ?_
  refine k_rV (v := .int (v_staysBelow vl pl v1 v2)) (As := [.int v1, .int v2]) (rest := [.int (rg 8 (vl 2) v1)]) hx hb hml hown hts hl.1 hP hK hN (c_v_staysBelow hI hv hvl hvs hpl hps v1 v2) eX6_118 (ci := 5) (q0 := 66 + 13 * vn) rfl rfl (xV (v := vn) hv hvs) rfl rfl (Nat.le_of_ble_eq_true rfl) ⟨Nat.le_of_ble_eq_true rfl, Nat.le_of_ble_eq_true rfl⟩ ⟨rfl, rfl⟩ ⟨Nat.le_of_ble_eq_true rfl, Nat.le_of_ble_eq_true rfl⟩ dX6_staysFrom_11 ?_
  refine lv_iconst (v := (-1)) hx hb dX6_staysFrom_14 (by decide) ?_
  refine lv_ixor hx hb dX6_staysFrom_15 ?_
  refine lv_iand hx hb dX6_staysFrom_16 ?_
  have hE : (v_staysFrom vl pl v1 v2) = ((rg 8 (vl 2) v1) &&& ((v_staysBelow vl pl v1 v2) ^^^ (-1))) := by rw [v_staysFrom]
  exact W.iret (v := ((rg 8 (vl 2) v1) &&& ((v_staysBelow vl pl v1 v2) ^^^ (-1)))) hx hb hr (fun t ht hW => ⟨by rw [hE], ht⟩) (fun _ h => absurd h List.not_mem_nil) dX6_staysFrom_17 hlocks
-- X6_chancesBelow
def v_chancesBelow (vl : Nat → Nat → Int32) (pl : Nat → Nat → Int32) (v1 : Int32) (v2 : Int32) : Int32 := (p_tenthsOf pl v1 (v_staysBelow vl pl v1 v2))
set_option maxHeartbeats 4000000 in
set_option maxRecDepth 100000 in
theorem c_v_chancesBelow (hI : kInj ad 183) (hv : vn < 9) (hvl : VL vn = vl) (hvs : VS vn = vs) (hpl : PL 0 = pl) (hps : PS 0 = ps) (v1 : Int32) (v2 : Int32) : Met l yX6_chancesBelow (.code yX6_chancesBelow cX6_chancesBelow 3 (some .int) :: kT) ({ frames := 2, cells := 0, slots := 0, locals := 45 } : Room) (va_Pc [.ref (ad (66 + 13 * vn)), .int v1, .int v2] (kB (dC, dI) [(cI, .int)] (cws cI ad ML MS PL PS VL VS LL))) (kR (some (.int (v_chancesBelow vl pl v1 v2)))) 0 0 (fun _ => False) := by
  refine kMet (by decide) (fun p e s m args below meth c ls hx hb hr hml hts hown hlocks hname hargs hB hl => ?_) (Nat.le_of_ble_eq_true rfl)
  obtain ⟨hP, hK, hN⟩ := hB
  have hl : lv_has ls 3 [(0, .ref (ad (66 + 13 * vn))), (1, .int v1), (2, .int v2)] := hl
  refine lv_aload_n hx hb dX6_chancesBelow_0 rfl (lv_at hl 0 rfl) ?_
  refine k_get (q0 := 66 + 13 * vn) (ci := 5) (v := .ref (ad 16)) hx hb hts inT_X6 hown hK hP (xV (v := vn) hv hvs) rfl 0 (by decide) rfl kX6_51 rfl dX6_chancesBelow_1 ?_
  refine lv_iload_n hx hb dX6_chancesBelow_4 rfl (lv_at hl 1 rfl) ?_
  refine lv_aload_n hx hb dX6_chancesBelow_5 rfl (lv_at hl 0 rfl) ?_
  refine lv_iload_n hx hb dX6_chancesBelow_6 rfl (lv_at hl 1 rfl) ?_
  refine lv_iload_n hx hb dX6_chancesBelow_7 rfl (lv_at hl 2 rfl) ?_
  refine k_rV (v := .int (v_staysBelow vl pl v1 v2)) (As := [.int v1, .int v2]) (rest := [.int v1, .ref (ad 16)]) hx hb hml hown hts hl.1 hP hK hN (c_v_staysBelow hI hv hvl hvs hpl hps v1 v2) eX6_118 (ci := 5) (q0 := 66 + 13 * vn) rfl rfl (xV (v := vn) hv hvs) rfl rfl (Nat.le_of_ble_eq_true rfl) ⟨Nat.le_of_ble_eq_true rfl, Nat.le_of_ble_eq_true rfl⟩ ⟨rfl, rfl⟩ ⟨Nat.le_of_ble_eq_true rfl, Nat.le_of_ble_eq_true rfl⟩ dX6_chancesBelow_8 ?_
  refine k_rV (v := .int (p_tenthsOf pl v1 (v_staysBelow vl pl v1 v2))) (As := [.int v1, .int (v_staysBelow vl pl v1 v2)]) (rest := []) hx hb hml hown hts hl.1 hP hK hN (c_p_tenthsOf (pn := 0) (VL := VL) (VS := VS) (PL := PL) (PS := PS) (pl := pl) (ps := ps) hI (by decide) hpl hps v1 (v_staysBelow vl pl v1 v2)) eX6_111 (ci := 0) (q0 := 16 + 25 * 0) rfl rfl (xP (p := 0) (by decide) hps) rfl rfl (Nat.le_of_ble_eq_true rfl) ⟨Nat.le_of_ble_eq_true rfl, Nat.le_of_ble_eq_true rfl⟩ ⟨rfl, rfl⟩ ⟨Nat.le_of_ble_eq_true rfl, Nat.le_of_ble_eq_true rfl⟩ dX6_chancesBelow_11 ?_
  have hE : (v_chancesBelow vl pl v1 v2) = (p_tenthsOf pl v1 (v_staysBelow vl pl v1 v2)) := by rw [v_chancesBelow]
  exact W.iret (v := (p_tenthsOf pl v1 (v_staysBelow vl pl v1 v2))) hx hb hr (fun t ht hW => ⟨by rw [hE], ht⟩) (fun _ h => absurd h List.not_mem_nil) dX6_chancesBelow_14 hlocks
-- X6_bearingAt
def v_bearingAt_k5  : Int32 := 0
def v_bearingAt_L5 (vl : Nat → Nat → Int32) (pl : Nat → Nat → Int32) (v1 : Int32) (v2 : Int32) : Nat → Nat → Int32 → Int32
  | 0, i, v3 => v_bearingAt_k5
  | n + 1, i, v3 => if (v3 + (v_chanceOf vl pl v1 (nI i))) ≤ v2 then v_bearingAt_L5 vl pl v1 v2 n (i + 1) (v3 + (v_chanceOf vl pl v1 (nI i))) else (rg 32 (pl 8) ((v1 * 4) + (nI i)))
def v_bearingAt (vl : Nat → Nat → Int32) (pl : Nat → Nat → Int32) (v1 : Int32) (v2 : Int32) : Int32 := (v_bearingAt_L5 vl pl v1 v2 4 0 0)
set_option maxHeartbeats 4000000 in
set_option maxRecDepth 100000 in
theorem c_v_bearingAt (hI : kInj ad 183) (hv : vn < 9) (hvl : VL vn = vl) (hvs : VS vn = vs) (hpl : PL 0 = pl) (hps : PS 0 = ps) (v1 : Int32) (v2 : Int32) : Met l yX6_bearingAt (.code yX6_bearingAt cX6_bearingAt 5 (some .int) :: kT) ({ frames := 3, cells := 0, slots := 0, locals := 67 } : Room) (va_Pc [.ref (ad (66 + 13 * vn)), .int v1, .int v2] (kB (dC, dI) [(cI, .int)] (cws cI ad ML MS PL PS VL VS LL))) (kR (some (.int (v_bearingAt vl pl v1 v2)))) 0 0 (fun _ => False) := by
  refine kMet (by decide) (fun p e s m args below meth c ls hx hb hr hml hts hown hlocks hname hargs hB hl => ?_) (Nat.le_of_ble_eq_true rfl)
  obtain ⟨hP, hK, hN⟩ := hB
  have hl : lv_has ls 5 [(0, .ref (ad (66 + 13 * vn))), (1, .int v1), (2, .int v2)] := hl
  refine lv_iconst (v := 0) hx hb dX6_bearingAt_0 (by decide) ?_
  refine lv_istore_n (lv' := [(3, .int 0), (0, .ref (ad (66 + 13 * vn))), (1, .int v1), (2, .int v2)]) hx hb dX6_bearingAt_1 rfl hl (by decide) rfl (fun ls hl => ?_)
  refine lv_iconst (v := 0) hx hb dX6_bearingAt_2 (by decide) ?_
  refine lv_istore (lv' := [(4, .int 0), (3, .int 0), (0, .ref (ad (66 + 13 * vn))), (1, .int v1), (2, .int v2)]) hx hb dX6_bearingAt_3 hl (by decide) rfl (fun ls hl => ?_)
  have rest_5 : ∀ (x3_5 : Int32), ∀ (ls : Array Slot), lv_has ls 5 [] → (v_bearingAt vl pl v1 v2) = v_bearingAt_k5 → W p l e ({ frames := 3, cells := 0, slots := 0, locals := 67 } : Room) s m args below meth c s.heap [] 0 0 (MQ below (kR (some (.int (v_bearingAt vl pl v1 v2)))) args s 0 0 (fun _ => False)) (F0 m 49 ls []) := by
    intro x3_5 ls hl  hF_5
    refine lv_iconst (v := 0) hx hb dX6_bearingAt_49 (by decide) ?_
    have hE : (v_bearingAt vl pl v1 v2) = 0 := hF_5.trans (by rw [v_bearingAt_k5])
    exact W.iret (v := 0) hx hb hr (fun t ht hW => ⟨by rw [hE], ht⟩) (fun _ h => absurd h List.not_mem_nil) dX6_bearingAt_50 hlocks
  have loop_5 : ∀ (n_5 i_5 : Nat) (x3_5 : Int32), i_5 + n_5 = 4 → ∀ (ls : Array Slot), lv_has ls 5 [(0, .ref (ad (66 + 13 * vn))), (1, .int v1), (2, .int v2), (3, .int x3_5), (4, .int (nI i_5))] → (v_bearingAt vl pl v1 v2) = (v_bearingAt_L5 vl pl v1 v2 n_5 i_5 x3_5) → W p l e ({ frames := 3, cells := 0, slots := 0, locals := 67 } : Room) s m args below meth c s.heap [] 0 0 (MQ below (kR (some (.int (v_bearingAt vl pl v1 v2)))) args s 0 0 (fun _ => False)) (F0 m 5 ls []) := by
    intro n_5
    induction n_5 with
    | zero =>
      intro i_5 x3_5 hin_5 ls hl  hk_5
      refine lv_iload hx hb dX6_bearingAt_5 (lv_at hl 4 rfl) ?_
      refine lv_iconst (v := 4) hx hb dX6_bearingAt_7 (by decide) ?_
      refine lv_icmp_ge (tgt := 49) hx hb dX6_bearingAt_8 (by decide) (fun _ => ?_) (fun c_3 => absurd (kct_ge (N := 4) rfl (by omega) (by omega)) c_3)
      exact rest_5 x3_5 _ (lv_sub hl [] rfl)  (hk_5.trans (by rw [v_bearingAt_L5.eq_1]))
    | succ n_5 ih_5 =>
      intro i_5 x3_5 hin_5 ls hl  hk_5
      refine lv_iload hx hb dX6_bearingAt_5 (lv_at hl 4 rfl) ?_
      refine lv_iconst (v := 4) hx hb dX6_bearingAt_7 (by decide) ?_
      refine lv_icmp_ge (tgt := 49) hx hb dX6_bearingAt_8 (by decide) (fun c_4 => absurd c_4 (kct_lt (N := 4) rfl (by omega))) (fun _ => ?_)
      refine lv_iload_n hx hb dX6_bearingAt_11 rfl (lv_at hl 3 rfl) ?_
      refine lv_aload_n hx hb dX6_bearingAt_12 rfl (lv_at hl 0 rfl) ?_
      refine lv_iload_n hx hb dX6_bearingAt_13 rfl (lv_at hl 1 rfl) ?_
      refine lv_iload hx hb dX6_bearingAt_14 (lv_at hl 4 rfl) ?_
      refine k_rV (v := .int (v_chanceOf vl pl v1 (nI i_5))) (As := [.int v1, .int (nI i_5)]) (rest := [.int x3_5]) hx hb hml hown hts hl.1 hP hK hN (c_v_chanceOf hI hv hvl hvs hpl hps v1 (nI i_5)) eX6_121 (ci := 5) (q0 := 66 + 13 * vn) rfl rfl (xV (v := vn) hv hvs) rfl rfl (Nat.le_of_ble_eq_true rfl) ⟨Nat.le_of_ble_eq_true rfl, Nat.le_of_ble_eq_true rfl⟩ ⟨rfl, rfl⟩ ⟨Nat.le_of_ble_eq_true rfl, Nat.le_of_ble_eq_true rfl⟩ dX6_bearingAt_16 ?_
      refine lv_iadd hx hb dX6_bearingAt_19 ?_
      refine lv_istore_n (lv' := [(3, .int (x3_5 + (v_chanceOf vl pl v1 (nI i_5)))), (0, .ref (ad (66 + 13 * vn))), (1, .int v1), (2, .int v2), (4, .int (nI i_5))]) hx hb dX6_bearingAt_20 rfl hl (by decide) rfl (fun ls hl => ?_)
      refine lv_iload_n hx hb dX6_bearingAt_21 rfl (lv_at hl 3 rfl) ?_
      refine lv_iload_n hx hb dX6_bearingAt_22 rfl (lv_at hl 0 rfl) ?_
      refine lv_icmp_ge (tgt := 43) hx hb dX6_bearingAt_23 (by decide) (fun c_5 => ?_) (fun c_5 => ?_)
      · refine lv_iinc (v := (nI (i_5 + 1))) (lv' := [(4, .int (nI (i_5 + 1))), (3, .int (x3_5 + (v_chanceOf vl pl v1 (nI i_5)))), (0, .ref (ad (66 + 13 * vn))), (1, .int v1), (2, .int v2)]) hx hb dX6_bearingAt_43 hl (k := 4) rfl (nI_add _ _) (by decide) rfl (fun ls hl => ?_)
        refine lv_goto (tgt := 5) hx hb dX6_bearingAt_46 (by decide) ?_
        exact ih_5 (i_5 + 1) (x3_5 + (v_chanceOf vl pl v1 (nI i_5))) (by omega) _ (lv_sub hl [2, 3, 4, 1, 0] rfl)  (hk_5.trans (by rw [v_bearingAt_L5.eq_2, if_pos c_5]))
      · refine lv_aload_n hx hb dX6_bearingAt_26 rfl (lv_at hl 1 rfl) ?_
        refine k_get (q0 := 66 + 13 * vn) (ci := 5) (v := .ref (ad 16)) hx hb hts inT_X6 hown hK hP (xV (v := vn) hv hvs) rfl 0 (by decide) rfl kX6_51 rfl dX6_bearingAt_27 ?_
        refine k_getN (q0 := 16 + 25 * 0) (ci := 0) (v := .ref (ad (16 + 25 * 0 + 15))) hx hb hts hN inT_X0 hown hK hP (xP (p := 0) (by decide) hps) rfl 8 (by decide) rfl kX6_115 rfl dX6_bearingAt_30 ?_
        refine lv_iload_n hx hb dX6_bearingAt_33 rfl (lv_at hl 2 rfl) ?_
        refine lv_iconst (v := 4) hx hb dX6_bearingAt_34 (by decide) ?_
        refine lv_imul hx hb dX6_bearingAt_35 ?_
        refine lv_iload hx hb dX6_bearingAt_36 (lv_at hl 4 rfl) ?_
        refine lv_iadd hx hb dX6_bearingAt_38 ?_
        refine k_rV (v := .int (rg 32 (pl 8) ((v1 * 4) + (nI i_5)))) (As := [.int ((v1 * 4) + (nI i_5))]) (rest := []) hx hb hml hown hts hl.1 hP hK hN (c_rg (f := (pl 8)) (n := 32) (wPo (p := 0) (by decide) 15 (by decide) (by decide)) (xPa (p := 0) (by decide) hpl 15 (by decide) (by decide) rfl rfl) (by decide) ((v1 * 4) + (nI i_5))) eX6_90 (ci := 2) (q0 := 16 + 25 * 0 + 15) rfl rfl (wPo (p := 0) (by decide) 15 (by decide) (by decide)) rfl rfl (Nat.le_of_ble_eq_true rfl) ⟨Nat.le_of_ble_eq_true rfl, Nat.le_of_ble_eq_true rfl⟩ ⟨rfl, rfl⟩ ⟨Nat.le_of_ble_eq_true rfl, Nat.le_of_ble_eq_true rfl⟩ dX6_bearingAt_39 ?_
        have hE : (v_bearingAt vl pl v1 v2) = (rg 32 (pl 8) ((v1 * 4) + (nI i_5))) := hk_5.trans (by rw [v_bearingAt_L5.eq_2, if_neg c_5])
        exact W.iret (v := (rg 32 (pl 8) ((v1 * 4) + (nI i_5)))) hx hb hr (fun t ht hW => ⟨by rw [hE], ht⟩) (fun _ h => absurd h List.not_mem_nil) dX6_bearingAt_42 hlocks
  exact loop_5 4 0 0 (by omega) _ (lv_sub hl [2, 3, 4, 1, 0] rfl)  (by rw [v_bearingAt])
-- X6_chancesGone
def v_chancesGone (vl : Nat → Nat → Int32) (pl : Nat → Nat → Int32) (v1 : Int32) : Int32 := (v_chancesBelow vl pl v1 (rg 8 (vl 6) v1))
set_option maxHeartbeats 4000000 in
set_option maxRecDepth 100000 in
theorem c_v_chancesGone (hI : kInj ad 183) (hv : vn < 9) (hvl : VL vn = vl) (hvs : VS vn = vs) (hpl : PL 0 = pl) (hps : PS 0 = ps) (v1 : Int32) : Met l yX6_chancesGone (.code yX6_chancesGone cX6_chancesGone 2 (some .int) :: kT) ({ frames := 3, cells := 0, slots := 0, locals := 67 } : Room) (va_Pc [.ref (ad (66 + 13 * vn)), .int v1] (kB (dC, dI) [(cI, .int)] (cws cI ad ML MS PL PS VL VS LL))) (kR (some (.int (v_chancesGone vl pl v1)))) 0 0 (fun _ => False) := by
  refine kMet (by decide) (fun p e s m args below meth c ls hx hb hr hml hts hown hlocks hname hargs hB hl => ?_) (Nat.le_of_ble_eq_true rfl)
  obtain ⟨hP, hK, hN⟩ := hB
  have hl : lv_has ls 2 [(0, .ref (ad (66 + 13 * vn))), (1, .int v1)] := hl
  refine lv_aload_n hx hb dX6_chancesGone_0 rfl (lv_at hl 0 rfl) ?_
  refine lv_iload_n hx hb dX6_chancesGone_1 rfl (lv_at hl 1 rfl) ?_
  refine lv_aload_n hx hb dX6_chancesGone_2 rfl (lv_at hl 0 rfl) ?_
  refine k_get (q0 := 66 + 13 * vn) (ci := 5) (v := .ref (ad (66 + 13 * vn + 11))) hx hb hts inT_X6 hown hK hP (xV (v := vn) hv hvs) rfl 6 (by decide) rfl kX6_32 rfl dX6_chancesGone_3 ?_
  refine lv_iload_n hx hb dX6_chancesGone_6 rfl (lv_at hl 1 rfl) ?_
  refine k_rV (v := .int (rg 8 (vl 6) v1)) (As := [.int v1]) (rest := [.int v1, .ref (ad (66 + 13 * vn))]) hx hb hml hown hts hl.1 hP hK hN (c_rg (f := (vl 6)) (n := 8) (wVo (v := vn) hv 11 (by decide) (by decide)) (xVa (v := vn) hv hvl 11 (by decide) (by decide) rfl rfl) (by decide) v1) eX6_90 (ci := 2) (q0 := 66 + 13 * vn + 11) rfl rfl (wVo (v := vn) hv 11 (by decide) (by decide)) rfl rfl (Nat.le_of_ble_eq_true rfl) ⟨Nat.le_of_ble_eq_true rfl, Nat.le_of_ble_eq_true rfl⟩ ⟨rfl, rfl⟩ ⟨Nat.le_of_ble_eq_true rfl, Nat.le_of_ble_eq_true rfl⟩ dX6_chancesGone_7 ?_
  refine k_rV (v := .int (v_chancesBelow vl pl v1 (rg 8 (vl 6) v1))) (As := [.int v1, .int (rg 8 (vl 6) v1)]) (rest := []) hx hb hml hown hts hl.1 hP hK hN (c_v_chancesBelow hI hv hvl hvs hpl hps v1 (rg 8 (vl 6) v1)) eX6_188 (ci := 5) (q0 := 66 + 13 * vn) rfl rfl (xV (v := vn) hv hvs) rfl rfl (Nat.le_of_ble_eq_true rfl) ⟨Nat.le_of_ble_eq_true rfl, Nat.le_of_ble_eq_true rfl⟩ ⟨rfl, rfl⟩ ⟨Nat.le_of_ble_eq_true rfl, Nat.le_of_ble_eq_true rfl⟩ dX6_chancesGone_10 ?_
  have hE : (v_chancesGone vl pl v1) = (v_chancesBelow vl pl v1 (rg 8 (vl 6) v1)) := by rw [v_chancesGone]
  exact W.iret (v := (v_chancesBelow vl pl v1 (rg 8 (vl 6) v1))) hx hb hr (fun t ht hW => ⟨by rw [hE], ht⟩) (fun _ h => absurd h List.not_mem_nil) dX6_chancesGone_13 hlocks

end CLS
