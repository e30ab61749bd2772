section CLS
variable {l : Launch} {dC : Nat → ClassId} {dI : Nat → Nat → Nat} {cI : ClassId} {ad : Nat → Nat} {ML : Nat → Nat → Int32} {MS : Nat → Int32} {PL : Nat → Nat → Nat → Int32} {PS : Nat → Nat → Int32} {VL : Nat → Nat → Nat → Int32} {VS : Nat → Nat → Int32} {LL : Int64} {vn wn pn : Nat} {vl wl pl : Nat → Nat → Int32} {vs wz ps : Nat → Int32}
-- X7_isRoof
def o_isRoof (PS : Nat → Nat → Int32) (v1 : Int32) : Int32 := if v1 < 0 then 0 else (if (PS 0 0) ≤ v1 then 0 else 1)
set_option maxHeartbeats 4000000 in
set_option maxRecDepth 100000 in
theorem c_o_isRoof (hI : kInj ad 183) (v1 : Int32) : Met l yX7_isRoof (.code yX7_isRoof cX7_isRoof 2 (some .boolean) :: kT) ({ frames := 0, cells := 0, slots := 0, locals := 0 } : Room) (va_Pc [.ref (ad 0), .int v1] (kB (dC, dI) [(cI, .int)] (cws cI ad ML MS PL PS VL VS LL))) (kR (some (.int (o_isRoof PS v1)))) 0 0 (fun _ => False) := by
  refine kMet (by decide) (fun p e s m args below meth c ls hx hb hr hml hts hown hlocks hname hargs hB hl => ?_) (Nat.le_of_ble_eq_true rfl)
  obtain ⟨hP, hK, hN⟩ := hB
  have hl : lv_has ls 2 [(0, .ref (ad 0)), (1, .int v1)] := hl
  refine lv_iload_n hx hb dX7_isRoof_0 rfl (lv_at hl 1 rfl) ?_
  refine lv_if_lt (tgt := 19) hx hb dX7_isRoof_1 (by decide) (fun c_3 => ?_) (fun c_3 => ?_)
  · refine lv_iconst (v := 0) hx hb dX7_isRoof_19 (by decide) ?_
    have hE : (o_isRoof PS v1) = 0 := by rw [o_isRoof, if_pos c_3]
    exact W.zret (v := 0) hx hb hr rfl (fun t ht hW => ⟨by rw [hE], ht⟩) (fun _ h => absurd h List.not_mem_nil) dX7_isRoof_20 hlocks
  · refine lv_iload_n hx hb dX7_isRoof_4 rfl (lv_at hl 1 rfl) ?_
    refine lv_aload_n hx hb dX7_isRoof_5 rfl (lv_at hl 0 rfl) ?_
    refine k_get (q0 := 0) (ci := 6) (v := .ref (ad 16)) hx hb hts inT_X7 hown hK hP (wM (k := 0) (by decide) rfl) rfl 2 (by decide) rfl kX7_28 rfl dX7_isRoof_6 ?_
    refine k_getN (q0 := 16 + 25 * 0) (ci := 0) (v := .int (PS 0 0)) hx hb hts hN inT_X0 hown hK hP (xP (p := 0) (by decide) rfl) rfl 0 (by decide) rfl kX7_114 rfl dX7_isRoof_9 ?_
    refine lv_icmp_ge (tgt := 19) hx hb dX7_isRoof_12 (by decide) (fun c_4 => ?_) (fun c_4 => ?_)
    · refine lv_iconst (v := 0) hx hb dX7_isRoof_19 (by decide) ?_
      have hE : (o_isRoof PS v1) = 0 := by rw [o_isRoof, if_neg c_3, if_pos c_4]
      exact W.zret (v := 0) hx hb hr rfl (fun t ht hW => ⟨by rw [hE], ht⟩) (fun _ h => absurd h List.not_mem_nil) dX7_isRoof_20 hlocks
    · refine lv_iconst (v := 1) hx hb dX7_isRoof_15 (by decide) ?_
      refine lv_goto (tgt := 20) hx hb dX7_isRoof_16 (by decide) ?_
      have hE : (o_isRoof PS v1) = 1 := by rw [o_isRoof, if_neg c_3, if_neg c_4]
      exact W.zret (v := 1) hx hb hr rfl (fun t ht hW => ⟨by rw [hE], ht⟩) (fun _ h => absurd h List.not_mem_nil) dX7_isRoof_20 hlocks
-- X7_isRule
def o_isRule (v0 : Int32) : Int32 := if v0 < 0 then 0 else (if 4 < v0 then 0 else 1)
set_option maxHeartbeats 4000000 in
set_option maxRecDepth 100000 in
theorem c_o_isRule (v0 : Int32) : Met l yX7_isRule (.code yX7_isRule cX7_isRule 1 (some .boolean) :: kT) ({ frames := 0, cells := 0, slots := 0, locals := 0 } : Room) (va_Pc [.int v0] (fun _ => True)) (kR (some (.int (o_isRule v0)))) 0 0 (fun _ => False) := by
  refine kMet (by decide) (fun p e s m args below meth c ls hx hb hr hml hts hown hlocks hname hargs hB hl => ?_) (Nat.le_of_ble_eq_true rfl)
  have hl : lv_has ls 1 [(0, .int v0)] := hl
  refine lv_iload_n hx hb dX7_isRule_0 rfl (lv_at hl 0 rfl) ?_
  refine lv_if_lt (tgt := 13) hx hb dX7_isRule_1 (by decide) (fun c_3 => ?_) (fun c_3 => ?_)
  · refine lv_iconst (v := 0) hx hb dX7_isRule_13 (by decide) ?_
    have hE : (o_isRule v0) = 0 := by rw [o_isRule, if_pos c_3]
    exact W.zret (v := 0) hx hb hr rfl (fun t ht hW => ⟨by rw [hE], ht⟩) (fun _ h => absurd h List.not_mem_nil) dX7_isRule_14 hlocks
  · refine lv_iload_n hx hb dX7_isRule_4 rfl (lv_at hl 0 rfl) ?_
    refine lv_iconst (v := 4) hx hb dX7_isRule_5 (by decide) ?_
    refine lv_icmp_gt (tgt := 13) hx hb dX7_isRule_6 (by decide) (fun c_4 => ?_) (fun c_4 => ?_)
    · refine lv_iconst (v := 0) hx hb dX7_isRule_13 (by decide) ?_
      have hE : (o_isRule v0) = 0 := by rw [o_isRule, if_neg c_3, if_pos c_4]
      exact W.zret (v := 0) hx hb hr rfl (fun t ht hW => ⟨by rw [hE], ht⟩) (fun _ h => absurd h List.not_mem_nil) dX7_isRule_14 hlocks
    · refine lv_iconst (v := 1) hx hb dX7_isRule_9 (by decide) ?_
      refine lv_goto (tgt := 14) hx hb dX7_isRule_10 (by decide) ?_
      have hE : (o_isRule v0) = 1 := by rw [o_isRule, if_neg c_3, if_neg c_4]
      exact W.zret (v := 1) hx hb hr rfl (fun t ht hW => ⟨by rw [hE], ht⟩) (fun _ h => absurd h List.not_mem_nil) dX7_isRule_14 hlocks
-- X7_isSky
def o_isSky (v0 : Int32) : Int32 := if v0 < 0 then 0 else (if 3 ≤ v0 then 0 else 1)
set_option maxHeartbeats 4000000 in
set_option maxRecDepth 100000 in
theorem c_o_isSky (v0 : Int32) : Met l yX7_isSky (.code yX7_isSky cX7_isSky 1 (some .boolean) :: kT) ({ frames := 0, cells := 0, slots := 0, locals := 0 } : Room) (va_Pc [.int v0] (fun _ => True)) (kR (some (.int (o_isSky v0)))) 0 0 (fun _ => False) := by
  refine kMet (by decide) (fun p e s m args below meth c ls hx hb hr hml hts hown hlocks hname hargs hB hl => ?_) (Nat.le_of_ble_eq_true rfl)
  have hl : lv_has ls 1 [(0, .int v0)] := hl
  refine lv_iload_n hx hb dX7_isSky_0 rfl (lv_at hl 0 rfl) ?_
  refine lv_if_lt (tgt := 13) hx hb dX7_isSky_1 (by decide) (fun c_3 => ?_) (fun c_3 => ?_)
  · refine lv_iconst (v := 0) hx hb dX7_isSky_13 (by decide) ?_
    have hE : (o_isSky v0) = 0 := by rw [o_isSky, if_pos c_3]
    exact W.zret (v := 0) hx hb hr rfl (fun t ht hW => ⟨by rw [hE], ht⟩) (fun _ h => absurd h List.not_mem_nil) dX7_isSky_14 hlocks
  · refine lv_iload_n hx hb dX7_isSky_4 rfl (lv_at hl 0 rfl) ?_
    refine lv_iconst (v := 3) hx hb dX7_isSky_5 (by decide) ?_
    refine lv_icmp_ge (tgt := 13) hx hb dX7_isSky_6 (by decide) (fun c_4 => ?_) (fun c_4 => ?_)
    · refine lv_iconst (v := 0) hx hb dX7_isSky_13 (by decide) ?_
      have hE : (o_isSky v0) = 0 := by rw [o_isSky, if_neg c_3, if_pos c_4]
      exact W.zret (v := 0) hx hb hr rfl (fun t ht hW => ⟨by rw [hE], ht⟩) (fun _ h => absurd h List.not_mem_nil) dX7_isSky_14 hlocks
    · refine lv_iconst (v := 1) hx hb dX7_isSky_9 (by decide) ?_
      refine lv_goto (tgt := 14) hx hb dX7_isSky_10 (by decide) ?_
      have hE : (o_isSky v0) = 1 := by rw [o_isSky, if_neg c_3, if_neg c_4]
      exact W.zret (v := 1) hx hb hr rfl (fun t ht hW => ⟨by rw [hE], ht⟩) (fun _ h => absurd h List.not_mem_nil) dX7_isSky_14 hlocks
-- X7_draw
def o_draw (v0 : Int32) (v1 : Int32) (v2 : Int32) : Int32 := ((((((((7919 * v0.toInt64) + (6151 * v1.toInt64)) + (3571 * v2.toInt64)) + 1) * ((((7919 * v0.toInt64) + (6151 * v1.toInt64)) + (3571 * v2.toInt64)) + 1)) - (((((7919 * v0.toInt64) + (6151 * v1.toInt64)) + (3571 * v2.toInt64)) + 1) * ((((7919 * v0.toInt64) + (6151 * v1.toInt64)) + (3571 * v2.toInt64)) + 1)) / 65521 * 65521) - ((((((7919 * v0.toInt64) + (6151 * v1.toInt64)) + (3571 * v2.toInt64)) + 1) * ((((7919 * v0.toInt64) + (6151 * v1.toInt64)) + (3571 * v2.toInt64)) + 1)) - (((((7919 * v0.toInt64) + (6151 * v1.toInt64)) + (3571 * v2.toInt64)) + 1) * ((((7919 * v0.toInt64) + (6151 * v1.toInt64)) + (3571 * v2.toInt64)) + 1)) / 65521 * 65521) / 10000 * 10000).toInt32)
set_option maxHeartbeats 4000000 in
set_option maxRecDepth 100000 in
theorem c_o_draw (v0 : Int32) (v1 : Int32) (v2 : Int32) : Met l yX7_draw (.code yX7_draw cX7_draw 5 (some .int) :: kT) ({ frames := 0, cells := 0, slots := 0, locals := 0 } : Room) (va_Pc [.int v0, .int v1, .int v2] (fun _ => True)) (kR (some (.int (o_draw v0 v1 v2)))) 0 0 (fun _ => False) := by
  refine kMet (by decide) (fun p e s m args below meth c ls hx hb hr hml hts hown hlocks hname hargs hB hl => ?_) (Nat.le_of_ble_eq_true rfl)
  have hl : lv_has ls 5 [(0, .int v0), (1, .int v1), (2, .int v2)] := hl
  refine lv_ldc2 (v := 7919) hx hb hown (hts _ kX7_297) dX7_draw_0 ?_
  refine lv_iload_n hx hb dX7_draw_3 rfl (lv_at hl 0 rfl) ?_
  refine lv_i2l (v := v0.toInt64) hx hb dX7_draw_4 rfl ?_
  refine lv_lmul hx hb dX7_draw_5 ?_
  refine lv_ldc2 (v := 6151) hx hb hown (hts _ kX7_299) dX7_draw_6 ?_
  refine lv_iload_n hx hb dX7_draw_9 rfl (lv_at hl 1 rfl) ?_
  refine lv_i2l (v := v1.toInt64) hx hb dX7_draw_10 rfl ?_
  refine lv_lmul hx hb dX7_draw_11 ?_
  refine lv_ladd hx hb dX7_draw_12 ?_
  refine lv_ldc2 (v := 3571) hx hb hown (hts _ kX7_301) dX7_draw_13 ?_
  refine lv_iload_n hx hb dX7_draw_16 rfl (lv_at hl 2 rfl) ?_
  refine lv_i2l (v := v2.toInt64) hx hb dX7_draw_17 rfl ?_
  refine lv_lmul hx hb dX7_draw_18 ?_
  refine lv_ladd hx hb dX7_draw_19 ?_
  refine lv_lconst (v := 1) hx hb dX7_draw_20 (by decide) ?_
  refine lv_ladd hx hb dX7_draw_21 ?_
  refine lv_lstore_n (lv' := [(3, .long ((((7919 * v0.toInt64) + (6151 * v1.toInt64)) + (3571 * v2.toInt64)) + 1)), (0, .int v0), (1, .int v1), (2, .int v2)]) hx hb dX7_draw_22 rfl hl (by decide) rfl (fun ls hl => ?_)
  refine lv_lload_n hx hb dX7_draw_23 rfl (lv_at hl 0 rfl) ?_
  refine lv_lload_n hx hb dX7_draw_24 rfl (lv_at hl 0 rfl) ?_
  refine lv_lmul hx hb dX7_draw_25 ?_
  refine lv_ldc2 (v := 65521) hx hb hown (hts _ kX7_303) dX7_draw_26 ?_
  refine lv_lrem hx hb dX7_draw_29 (by decide) ?_
  refine lv_ldc2 (v := 10000) hx hb hown (hts _ kX7_305) dX7_draw_30 ?_
  refine lv_lrem hx hb dX7_draw_33 (by decide) ?_
  refine lv_l2i (v := ((((((((7919 * v0.toInt64) + (6151 * v1.toInt64)) + (3571 * v2.toInt64)) + 1) * ((((7919 * v0.toInt64) + (6151 * v1.toInt64)) + (3571 * v2.toInt64)) + 1)) - (((((7919 * v0.toInt64) + (6151 * v1.toInt64)) + (3571 * v2.toInt64)) + 1) * ((((7919 * v0.toInt64) + (6151 * v1.toInt64)) + (3571 * v2.toInt64)) + 1)) / 65521 * 65521) - ((((((7919 * v0.toInt64) + (6151 * v1.toInt64)) + (3571 * v2.toInt64)) + 1) * ((((7919 * v0.toInt64) + (6151 * v1.toInt64)) + (3571 * v2.toInt64)) + 1)) - (((((7919 * v0.toInt64) + (6151 * v1.toInt64)) + (3571 * v2.toInt64)) + 1) * ((((7919 * v0.toInt64) + (6151 * v1.toInt64)) + (3571 * v2.toInt64)) + 1)) / 65521 * 65521) / 10000 * 10000).toInt32)) hx hb dX7_draw_34 rfl ?_
  have hE : (o_draw v0 v1 v2) = ((((((((7919 * v0.toInt64) + (6151 * v1.toInt64)) + (3571 * v2.toInt64)) + 1) * ((((7919 * v0.toInt64) + (6151 * v1.toInt64)) + (3571 * v2.toInt64)) + 1)) - (((((7919 * v0.toInt64) + (6151 * v1.toInt64)) + (3571 * v2.toInt64)) + 1) * ((((7919 * v0.toInt64) + (6151 * v1.toInt64)) + (3571 * v2.toInt64)) + 1)) / 65521 * 65521) - ((((((7919 * v0.toInt64) + (6151 * v1.toInt64)) + (3571 * v2.toInt64)) + 1) * ((((7919 * v0.toInt64) + (6151 * v1.toInt64)) + (3571 * v2.toInt64)) + 1)) - (((((7919 * v0.toInt64) + (6151 * v1.toInt64)) + (3571 * v2.toInt64)) + 1) * ((((7919 * v0.toInt64) + (6151 * v1.toInt64)) + (3571 * v2.toInt64)) + 1)) / 65521 * 65521) / 10000 * 10000).toInt32) := by rw [o_draw]
  exact W.iret (v := ((((((((7919 * v0.toInt64) + (6151 * v1.toInt64)) + (3571 * v2.toInt64)) + 1) * ((((7919 * v0.toInt64) + (6151 * v1.toInt64)) + (3571 * v2.toInt64)) + 1)) - (((((7919 * v0.toInt64) + (6151 * v1.toInt64)) + (3571 * v2.toInt64)) + 1) * ((((7919 * v0.toInt64) + (6151 * v1.toInt64)) + (3571 * v2.toInt64)) + 1)) / 65521 * 65521) - ((((((7919 * v0.toInt64) + (6151 * v1.toInt64)) + (3571 * v2.toInt64)) + 1) * ((((7919 * v0.toInt64) + (6151 * v1.toInt64)) + (3571 * v2.toInt64)) + 1)) - (((((7919 * v0.toInt64) + (6151 * v1.toInt64)) + (3571 * v2.toInt64)) + 1) * ((((7919 * v0.toInt64) + (6151 * v1.toInt64)) + (3571 * v2.toInt64)) + 1)) / 65521 * 65521) / 10000 * 10000).toInt32)) hx hb hr (fun t ht hW => ⟨by rw [hE], ht⟩) (fun _ h => absurd h List.not_mem_nil) dX7_draw_35 hlocks
-- X7_greatestCommon
def o_greatestCommon_k15 (v2 : Int32) : Int32 := v2
def o_greatestCommon_L15  : Nat → Nat → Int32 → Int32 → Int32 × Int32
  | 0, i, v2, v3 => (v2, v3)
  | n + 1, i, v2, v3 => if v3 ≤ 0 then (v2, v3) else o_greatestCommon_L15 n (i + 1) v3 (v2 - v2 / v3 * v3)
def o_greatestCommon (v0 : Int32) (v1 : Int32) : Int32 := o_greatestCommon_k15 (o_greatestCommon_L15 100 0 (jmax v0 v1) (jmin v0 v1)).1
set_option maxHeartbeats 4000000 in
set_option maxRecDepth 100000 in
theorem c_o_greatestCommon (v0 : Int32) (v1 : Int32) : Met l yX7_greatestCommon (.code yX7_greatestCommon cX7_greatestCommon 6 (some .int) :: kT) ({ frames := 1, cells := 0, slots := 0, locals := 21 } : Room) (va_Pc [.int v0, .int v1] (fun _ => True)) (kR (some (.int (o_greatestCommon v0 v1)))) 0 0 (fun _ => False) := by
  refine kMet (by decide) (fun p e s m args below meth c ls hx hb hr hml hts hown hlocks hname hargs hB hl => ?_) (Nat.le_of_ble_eq_true rfl)
  have hl : lv_has ls 6 [(0, .int v0), (1, .int v1)] := hl
  refine lv_iload_n hx hb dX7_greatestCommon_0 rfl (lv_at hl 0 rfl) ?_
  refine lv_iload_n hx hb dX7_greatestCommon_1 rfl (lv_at hl 1 rfl) ?_
  refine k_mmax (rest := []) hx hb hml hown hts hl.1 eX7_251 (Nat.le_of_ble_eq_true rfl) (Nat.le_of_ble_eq_true rfl) (Nat.le_of_ble_eq_true rfl) (Nat.le_of_ble_eq_true rfl) dX7_greatestCommon_2 ?_
  refine lv_istore_n (lv' := [(2, .int (jmax v0 v1)), (0, .int v0), (1, .int v1)]) hx hb dX7_greatestCommon_5 rfl hl (by decide) rfl (fun ls hl => ?_)
  refine lv_iload_n hx hb dX7_greatestCommon_6 rfl (lv_at hl 1 rfl) ?_
  refine lv_iload_n hx hb dX7_greatestCommon_7 rfl (lv_at hl 2 rfl) ?_
  refine k_mmin (rest := []) hx hb hml hown hts hl.1 eX7_310 (Nat.le_of_ble_eq_true rfl) (Nat.le_of_ble_eq_true rfl) (Nat.le_of_ble_eq_true rfl) (Nat.le_of_ble_eq_true rfl) dX7_greatestCommon_8 ?_
  refine lv_istore_n (lv' := [(3, .int (jmin v0 v1)), (2, .int (jmax v0 v1)), (0, .int v0), (1, .int v1)]) hx hb dX7_greatestCommon_11 rfl hl (by decide) rfl (fun ls hl => ?_)
  refine lv_iconst (v := 0) hx hb dX7_greatestCommon_12 (by decide) ?_
  refine lv_istore (lv' := [(4, .int 0), (3, .int (jmin v0 v1)), (2, .int (jmax v0 v1)), (0, .int v0), (1, .int v1)]) hx hb dX7_greatestCommon_13 hl (by decide) rfl (fun ls hl => ?_)
  have rest_15 : ∀ (x2_15 : Int32) (x3_15 : Int32), ∀ (ls : Array Slot), lv_has ls 6 [(2, .int x2_15)] → (o_greatestCommon v0 v1) = o_greatestCommon_k15 x2_15 → W p l e ({ frames := 1, cells := 0, slots := 0, locals := 21 } : Room) s m args below meth c s.heap [] 0 0 (MQ below (kR (some (.int (o_greatestCommon v0 v1)))) args s 0 0 (fun _ => False)) (F0 m 42 ls []) := by
    intro x2_15 x3_15 ls hl  hF_15
    refine lv_iload_n hx hb dX7_greatestCommon_42 rfl (lv_at hl 0 rfl) ?_
    have hE : (o_greatestCommon v0 v1) = x2_15 := hF_15.trans (by rw [o_greatestCommon_k15])
    exact W.iret (v := x2_15) hx hb hr (fun t ht hW => ⟨by rw [hE], ht⟩) (fun _ h => absurd h List.not_mem_nil) dX7_greatestCommon_43 hlocks
  have loop_15 : ∀ (n_15 i_15 : Nat) (x2_15 : Int32) (x3_15 : Int32), i_15 + n_15 = 100 → ∀ (ls : Array Slot), lv_has ls 6 [(2, .int x2_15), (3, .int x3_15), (4, .int (nI i_15))] → (∀ (ls : Array Slot), lv_has ls 6 [(2, .int ((o_greatestCommon_L15 n_15 i_15 x2_15 x3_15).1))] → W p l e ({ frames := 1, cells := 0, slots := 0, locals := 21 } : Room) s m args below meth c s.heap [] 0 0 (MQ below (kR (some (.int (o_greatestCommon v0 v1)))) args s 0 0 (fun _ => False)) (F0 m 42 ls [])) → W p l e ({ frames := 1, cells := 0, slots := 0, locals := 21 } : Room) s m args below meth c s.heap [] 0 0 (MQ below (kR (some (.int (o_greatestCommon v0 v1)))) args s 0 0 (fun _ => False)) (F0 m 15 ls []) := by
    intro n_15
    induction n_15 with
    | zero =>
      intro i_15 x2_15 x3_15 hin_15 ls hl  hk_15
      refine lv_iload hx hb dX7_greatestCommon_15 (lv_at hl 2 rfl) ?_
      refine lv_bipush (v := 100) hx hb dX7_greatestCommon_17 (by decide) ?_
      refine lv_icmp_ge (tgt := 42) hx hb dX7_greatestCommon_19 (by decide) (fun _ => ?_) (fun c_3 => absurd (kct_ge (N := 100) rfl (by omega) (by omega)) c_3)
      have hL_15 : (o_greatestCommon_L15 0 i_15 x2_15 x3_15) = (x2_15, x3_15) := by rw [o_greatestCommon_L15.eq_1]
      try rw [hL_15] at hk_15
      exact hk_15 _ (lv_sub hl [0] rfl) 
    | succ n_15 ih_15 =>
      intro i_15 x2_15 x3_15 hin_15 ls hl  hk_15
      refine lv_iload hx hb dX7_greatestCommon_15 (lv_at hl 2 rfl) ?_
      refine lv_bipush (v := 100) hx hb dX7_greatestCommon_17 (by decide) ?_
      refine lv_icmp_ge (tgt := 42) hx hb dX7_greatestCommon_19 (by decide) (fun c_4 => absurd c_4 (kct_lt (N := 100) rfl (by omega))) (fun _ => ?_)
      refine lv_iload_n hx hb dX7_greatestCommon_22 rfl (lv_at hl 1 rfl) ?_
      refine lv_if_le (tgt := 42) hx hb dX7_greatestCommon_23 (by decide) (fun c_5 => ?_) (fun c_5 => ?_)
      · have hL_15 : (o_greatestCommon_L15 (n_15 + 1) i_15 x2_15 x3_15) = (x2_15, x3_15) := by rw [o_greatestCommon_L15.eq_2, if_pos c_5]
        try rw [hL_15] at hk_15
        exact hk_15 _ (lv_sub hl [0] rfl) 
      · refine lv_iload_n hx hb dX7_greatestCommon_26 rfl (lv_at hl 0 rfl) ?_
        refine lv_iload_n hx hb dX7_greatestCommon_27 rfl (lv_at hl 1 rfl) ?_
        refine lv_irem hx hb dX7_greatestCommon_28 (ki_nz (by assumption)) ?_
        refine lv_istore (lv' := [(5, .int (x2_15 - x2_15 / x3_15 * x3_15)), (2, .int x2_15), (3, .int x3_15), (4, .int (nI i_15))]) hx hb dX7_greatestCommon_29 hl (by decide) rfl (fun ls hl => ?_)
        refine lv_iload_n hx hb dX7_greatestCommon_31 rfl (lv_at hl 2 rfl) ?_
        refine lv_istore_n (lv' := [(2, .int x3_15), (5, .int (x2_15 - x2_15 / x3_15 * x3_15)), (3, .int x3_15), (4, .int (nI i_15))]) hx hb dX7_greatestCommon_32 rfl hl (by decide) rfl (fun ls hl => ?_)
        refine lv_iload hx hb dX7_greatestCommon_33 (lv_at hl 1 rfl) ?_
        refine lv_istore_n (lv' := [(3, .int (x2_15 - x2_15 / x3_15 * x3_15)), (2, .int x3_15), (5, .int (x2_15 - x2_15 / x3_15 * x3_15)), (4, .int (nI i_15))]) hx hb dX7_greatestCommon_35 rfl hl (by decide) rfl (fun ls hl => ?_)
        refine lv_iinc (v := (nI (i_15 + 1))) (lv' := [(4, .int (nI (i_15 + 1))), (3, .int (x2_15 - x2_15 / x3_15 * x3_15)), (2, .int x3_15), (5, .int (x2_15 - x2_15 / x3_15 * x3_15))]) hx hb dX7_greatestCommon_36 hl (k := 3) rfl (nI_add _ _) (by decide) rfl (fun ls hl => ?_)
        refine lv_goto (tgt := 15) hx hb dX7_greatestCommon_39 (by decide) ?_
        have hL_15 : (o_greatestCommon_L15 (n_15 + 1) i_15 x2_15 x3_15) = (o_greatestCommon_L15 n_15 (i_15 + 1) x3_15 (x2_15 - x2_15 / x3_15 * x3_15)) := by rw [o_greatestCommon_L15.eq_2, if_neg c_5]
        try rw [hL_15] at hk_15
        exact ih_15 (i_15 + 1) x3_15 (x2_15 - x2_15 / x3_15 * x3_15) (by omega) _ (lv_sub hl [2, 1, 0] rfl)  hk_15
  exact loop_15 100 0 (jmax v0 v1) (jmin v0 v1) (by omega) _ (lv_sub hl [2, 1, 0] rfl)  (fun ls hl  => rest_15 (o_greatestCommon_L15 100 0 (jmax v0 v1) (jmin v0 v1)).1 (o_greatestCommon_L15 100 0 (jmax v0 v1) (jmin v0 v1)).2 _ hl  (by rw [o_greatestCommon]))
-- X7_refusalOfProp
def o_refusalOfProp (VL : Nat → Nat → Nat → Int32) (VS : Nat → Nat → Int32) (PS : Nat → Nat → Int32) (v1 : Int32) : Int32 := if (o_isRoof PS v1) = 0 then (-1) else (if (v_stands (VS 0) (PS 0) v1) = 0 then (-2) else (if (rg 8 (VL 0 4) v1) < 3 then 0 else (-3)))
set_option maxHeartbeats 4000000 in
set_option maxRecDepth 100000 in
theorem c_o_refusalOfProp (hI : kInj ad 183) (v1 : Int32) : Met l yX7_refusalOfProp (.code yX7_refusalOfProp cX7_refusalOfProp 2 (some .int) :: kT) ({ frames := 1, cells := 0, slots := 0, locals := 21 } : Room) (va_Pc [.ref (ad 0), .int v1] (kB (dC, dI) [(cI, .int)] (cws cI ad ML MS PL PS VL VS LL))) (kR (some (.int (o_refusalOfProp VL VS PS v1)))) 0 0 (fun _ => False) := by
  refine kMet (by decide) (fun p e s m args below meth c ls hx hb hr hml hts hown hlocks hname hargs hB hl => ?_) (Nat.le_of_ble_eq_true rfl)
  obtain ⟨hP, hK, hN⟩ := hB
  have hl : lv_has ls 2 [(0, .ref (ad 0)), (1, .int v1)] := hl
  refine lv_aload_n hx hb dX7_refusalOfProp_0 rfl (lv_at hl 0 rfl) ?_
  refine lv_iload_n hx hb dX7_refusalOfProp_1 rfl (lv_at hl 1 rfl) ?_
  refine k_rV (v := .int (o_isRoof PS v1)) (As := [.int v1]) (rest := []) hx hb hml hown hts hl.1 hP hK hN (c_o_isRoof hI v1) eX7_117 (ci := 6) (q0 := 0) rfl rfl (wM (k := 0) (by decide) rfl) rfl rfl (Nat.le_of_ble_eq_true rfl) ⟨Nat.le_of_ble_eq_true rfl, Nat.le_of_ble_eq_true rfl⟩ ⟨rfl, rfl⟩ ⟨Nat.le_of_ble_eq_true rfl, Nat.le_of_ble_eq_true rfl⟩ dX7_refusalOfProp_2 ?_
  refine lv_if_ne (tgt := 10) hx hb dX7_refusalOfProp_5 (by decide) (fun c_4 => ?_) (fun c_4 => ?_)
  · refine lv_aload_n hx hb dX7_refusalOfProp_10 rfl (lv_at hl 0 rfl) ?_
    refine k_get (q0 := 0) (ci := 6) (v := .ref (ad 66)) hx hb hts inT_X7 hown hK hP (wM (k := 0) (by decide) rfl) rfl 4 (by decide) rfl kX7_40 rfl dX7_refusalOfProp_11 ?_
    refine lv_iload_n hx hb dX7_refusalOfProp_14 rfl (lv_at hl 1 rfl) ?_
    refine k_rV (v := .int (v_stands (VS 0) (PS 0) v1)) (As := [.int v1]) (rest := []) hx hb hml hown hts hl.1 hP hK hN (c_v_stands (vn := 0) (VL := VL) (VS := VS) (PL := PL) (PS := PS) (vl := (VL 0)) (vs := (VS 0)) hI (by decide) rfl rfl rfl rfl v1) eX7_138 (ci := 5) (q0 := 66 + 13 * 0) rfl rfl (xV (v := 0) (by decide) rfl) rfl rfl (Nat.le_of_ble_eq_true rfl) ⟨Nat.le_of_ble_eq_true rfl, Nat.le_of_ble_eq_true rfl⟩ ⟨rfl, rfl⟩ ⟨Nat.le_of_ble_eq_true rfl, Nat.le_of_ble_eq_true rfl⟩ dX7_refusalOfProp_15 ?_
    refine lv_if_ne (tgt := 24) hx hb dX7_refusalOfProp_18 (by decide) (fun c_5 => ?_) (fun c_5 => ?_)
    · refine lv_aload_n hx hb dX7_refusalOfProp_24 rfl (lv_at hl 0 rfl) ?_
      refine k_get (q0 := 0) (ci := 6) (v := .ref (ad 66)) hx hb hts inT_X7 hown hK hP (wM (k := 0) (by decide) rfl) rfl 4 (by decide) rfl kX7_40 rfl dX7_refusalOfProp_25 ?_
      refine k_getN (q0 := 66 + 13 * 0) (ci := 5) (v := .ref (ad (66 + 13 * 0 + 7))) hx hb hts hN inT_X6 hown hK hP (xV (v := 0) (by decide) rfl) rfl 4 (by decide) rfl kX7_135 rfl dX7_refusalOfProp_28 ?_
      refine lv_iload_n hx hb dX7_refusalOfProp_31 rfl (lv_at hl 1 rfl) ?_
      refine k_rV (v := .int (rg 8 (VL 0 4) v1)) (As := [.int v1]) (rest := []) hx hb hml hown hts hl.1 hP hK hN (c_rg (f := (VL 0 4)) (n := 8) (wVo (v := 0) (by decide) 7 (by decide) (by decide)) (xVa (v := 0) (by decide) rfl 7 (by decide) (by decide) rfl rfl) (by decide) v1) eX7_124 (ci := 2) (q0 := 66 + 13 * 0 + 7) rfl rfl (wVo (v := 0) (by decide) 7 (by decide) (by decide)) rfl rfl (Nat.le_of_ble_eq_true rfl) ⟨Nat.le_of_ble_eq_true rfl, Nat.le_of_ble_eq_true rfl⟩ ⟨rfl, rfl⟩ ⟨Nat.le_of_ble_eq_true rfl, Nat.le_of_ble_eq_true rfl⟩ dX7_refusalOfProp_32 ?_
      refine lv_iconst (v := 3) hx hb dX7_refusalOfProp_35 (by decide) ?_
      refine lv_icmp_lt (tgt := 44) hx hb dX7_refusalOfProp_36 (by decide) (fun c_6 => ?_) (fun c_6 => ?_)
      · refine lv_iconst (v := 0) hx hb dX7_refusalOfProp_44 (by decide) ?_
        have hE : (o_refusalOfProp VL VS PS v1) = 0 := by rw [o_refusalOfProp, if_neg c_4, if_neg c_5, if_pos c_6]
        exact W.iret (v := 0) hx hb hr (fun t ht hW => ⟨by rw [hE], ht⟩) (fun _ h => absurd h List.not_mem_nil) dX7_refusalOfProp_45 hlocks
      · refine lv_bipush (v := (-3)) hx hb dX7_refusalOfProp_39 (by decide) ?_
        refine lv_goto (tgt := 45) hx hb dX7_refusalOfProp_41 (by decide) ?_
        have hE : (o_refusalOfProp VL VS PS v1) = (-3) := by rw [o_refusalOfProp, if_neg c_4, if_neg c_5, if_neg c_6]
        exact W.iret (v := (-3)) hx hb hr (fun t ht hW => ⟨by rw [hE], ht⟩) (fun _ h => absurd h List.not_mem_nil) dX7_refusalOfProp_45 hlocks
    · refine lv_bipush (v := (-2)) hx hb dX7_refusalOfProp_21 (by decide) ?_
      have hE : (o_refusalOfProp VL VS PS v1) = (-2) := by rw [o_refusalOfProp, if_neg c_4, if_pos c_5]
      exact W.iret (v := (-2)) hx hb hr (fun t ht hW => ⟨by rw [hE], ht⟩) (fun _ h => absurd h List.not_mem_nil) dX7_refusalOfProp_23 hlocks
  · refine lv_iconst (v := (-1)) hx hb dX7_refusalOfProp_8 (by decide) ?_
    have hE : (o_refusalOfProp VL VS PS v1) = (-1) := by rw [o_refusalOfProp, if_pos c_4]
    exact W.iret (v := (-1)) hx hb hr (fun t ht hW => ⟨by rw [hE], ht⟩) (fun _ h => absurd h List.not_mem_nil) dX7_refusalOfProp_9 hlocks
-- X7_lossByRow
def o_lossByRow_k3 (VL : Nat → Nat → Nat → Int32) (VS : Nat → Nat → Int32) (PL : Nat → Nat → Nat → Int32) (PS : Nat → Nat → Int32) (vl3_1 : Nat → Int32) (vl3_5 : Nat → Int32) (vl3_6 : Nat → Int32) (vs3_10 : Int32) (vs3_11 : Int32) : Int64 × (Nat → Int32) × (Nat → Int32) × (Nat → Int32) × Int32 × Int32 := ((v_lossSoFar (va_up (va_up (va_up (VL 3) 1 vl3_1) 5 vl3_5) 6 vl3_6) (va_up (va_up (VS 3) 10 vs3_10) 11 vs3_11) (PL 0) (PS 0)), vl3_1, vl3_5, vl3_6, vs3_10, vs3_11)
def o_lossByRow_L3 (ML : Nat → Nat → Int32) (VL : Nat → Nat → Nat → Int32) (VS : Nat → Nat → Int32) (PL : Nat → Nat → Nat → Int32) (PS : Nat → Nat → Int32) (v1 : Int32) (v2 : Int32) (v3 : Int32) (v4 : Int32) : Nat → Nat → (Nat → Int32) → (Nat → Int32) → (Nat → Int32) → Int32 → Int32 → (Nat → Int32) × (Nat → Int32) × (Nat → Int32) × Int32 × Int32
  | 0, i, vl3_1, vl3_5, vl3_6, vs3_10, vs3_11 => (vl3_1, vl3_5, vl3_6, vs3_10, vs3_11)
  | n + 1, i, vl3_1, vl3_5, vl3_6, vs3_10, vs3_11 => if (nI i) = 0 then o_lossByRow_L3 ML VL VS PL PS v1 v2 v3 v4 n (i + 1) ((v_passHour (va_up (va_up (va_up (VL 3) 1 vl3_1) 5 vl3_5) 6 vl3_6) (va_up (va_up (VS 3) 10 vs3_10) 11 vs3_11) (PL 0) (PS 0) v1 (rg 12 (ML 2) (nI i)) v3).1) ((v_passHour (va_up (va_up (va_up (VL 3) 1 vl3_1) 5 vl3_5) 6 vl3_6) (va_up (va_up (VS 3) 10 vs3_10) 11 vs3_11) (PL 0) (PS 0) v1 (rg 12 (ML 2) (nI i)) v3).2.1) ((v_passHour (va_up (va_up (va_up (VL 3) 1 vl3_1) 5 vl3_5) 6 vl3_6) (va_up (va_up (VS 3) 10 vs3_10) 11 vs3_11) (PL 0) (PS 0) v1 (rg 12 (ML 2) (nI i)) v3).2.2.1) ((v_passHour (va_up (va_up (va_up (VL 3) 1 vl3_1) 5 vl3_5) 6 vl3_6) (va_up (va_up (VS 3) 10 vs3_10) 11 vs3_11) (PL 0) (PS 0) v1 (rg 12 (ML 2) (nI i)) v3).2.2.2.1) ((v_passHour (va_up (va_up (va_up (VL 3) 1 vl3_1) 5 vl3_5) 6 vl3_6) (va_up (va_up (VS 3) 10 vs3_10) 11 vs3_11) (PL 0) (PS 0) v1 (rg 12 (ML 2) (nI i)) v3).2.2.2.2) else o_lossByRow_L3 ML VL VS PL PS v1 v2 v3 v4 n (i + 1) ((v_passHour (va_up (va_up (va_up (VL 3) 1 vl3_1) 5 vl3_5) 6 vl3_6) (va_up (va_up (VS 3) 10 vs3_10) 11 vs3_11) (PL 0) (PS 0) v2 (rg 12 (ML 2) (nI i)) v4).1) ((v_passHour (va_up (va_up (va_up (VL 3) 1 vl3_1) 5 vl3_5) 6 vl3_6) (va_up (va_up (VS 3) 10 vs3_10) 11 vs3_11) (PL 0) (PS 0) v2 (rg 12 (ML 2) (nI i)) v4).2.1) ((v_passHour (va_up (va_up (va_up (VL 3) 1 vl3_1) 5 vl3_5) 6 vl3_6) (va_up (va_up (VS 3) 10 vs3_10) 11 vs3_11) (PL 0) (PS 0) v2 (rg 12 (ML 2) (nI i)) v4).2.2.1) ((v_passHour (va_up (va_up (va_up (VL 3) 1 vl3_1) 5 vl3_5) 6 vl3_6) (va_up (va_up (VS 3) 10 vs3_10) 11 vs3_11) (PL 0) (PS 0) v2 (rg 12 (ML 2) (nI i)) v4).2.2.2.1) ((v_passHour (va_up (va_up (va_up (VL 3) 1 vl3_1) 5 vl3_5) 6 vl3_6) (va_up (va_up (VS 3) 10 vs3_10) 11 vs3_11) (PL 0) (PS 0) v2 (rg 12 (ML 2) (nI i)) v4).2.2.2.2)
def o_lossByRow (ML : Nat → Nat → Int32) (MS : Nat → Int32) (VL : Nat → Nat → Nat → Int32) (VS : Nat → Nat → Int32) (PL : Nat → Nat → Nat → Int32) (PS : Nat → Nat → Int32) (v1 : Int32) (v2 : Int32) (v3 : Int32) (v4 : Int32) : Int64 × (Nat → Int32) × (Nat → Int32) × (Nat → Int32) × Int32 × Int32 := o_lossByRow_k3 VL VS PL PS (o_lossByRow_L3 ML VL VS PL PS v1 v2 v3 v4 ((MS 1).toNatClampNeg) 0 (VL 3 1) (VL 3 5) (VL 3 6) (VS 3 10) (VS 3 11)).1 (o_lossByRow_L3 ML VL VS PL PS v1 v2 v3 v4 ((MS 1).toNatClampNeg) 0 (VL 3 1) (VL 3 5) (VL 3 6) (VS 3 10) (VS 3 11)).2.1 (o_lossByRow_L3 ML VL VS PL PS v1 v2 v3 v4 ((MS 1).toNatClampNeg) 0 (VL 3 1) (VL 3 5) (VL 3 6) (VS 3 10) (VS 3 11)).2.2.1 (o_lossByRow_L3 ML VL VS PL PS v1 v2 v3 v4 ((MS 1).toNatClampNeg) 0 (VL 3 1) (VL 3 5) (VL 3 6) (VS 3 10) (VS 3 11)).2.2.2.1 (o_lossByRow_L3 ML VL VS PL PS v1 v2 v3 v4 ((MS 1).toNatClampNeg) 0 (VL 3 1) (VL 3 5) (VL 3 6) (VS 3 10) (VS 3 11)).2.2.2.2
set_option maxHeartbeats 4000000 in
set_option maxRecDepth 100000 in
theorem c_o_lossByRow (hI : kInj ad 183) (v1 : Int32) (v2 : Int32) (v3 : Int32) (v4 : Int32) : Met l yX7_lossByRow (.code yX7_lossByRow cX7_lossByRow 6 (some .long) :: kT) ({ frames := 6, cells := 0, slots := 0, locals := 144 } : Room) (va_Pc [.ref (ad 0), .int v1, .int v2, .int v3, .int v4] (kB (dC, dI) [(cI, .int)] (cws cI ad ML MS PL PS VL VS LL))) (kQ (some (.long ((o_lossByRow ML MS VL VS PL PS v1 v2 v3 v4).1))) (kB (dC, dI) [(cI, .int)] (cws cI ad ML MS PL PS (va_up VL 3 (va_up (va_up (va_up (VL 3) 1 ((o_lossByRow ML MS VL VS PL PS v1 v2 v3 v4).2.1)) 5 ((o_lossByRow ML MS VL VS PL PS v1 v2 v3 v4).2.2.1)) 6 ((o_lossByRow ML MS VL VS PL PS v1 v2 v3 v4).2.2.2.1))) (va_up VS 3 (va_up (va_up (VS 3) 10 ((o_lossByRow ML MS VL VS PL PS v1 v2 v3 v4).2.2.2.2.1)) 11 ((o_lossByRow ML MS VL VS PL PS v1 v2 v3 v4).2.2.2.2.2))) LL)) (kAA ad 183)) 0 0 (kAA ad 183) := by
  refine kMet (by decide) (fun p e s m args below meth c ls hx hb hr hml hts hown hlocks hname hargs hB hl => ?_) (Nat.le_of_ble_eq_true rfl)
  obtain ⟨hP, hK, hN⟩ := hB
  have hl : lv_has ls 6 [(0, .ref (ad 0)), (1, .int v1), (2, .int v2), (3, .int v3), (4, .int v4)] := hl
  have hS : va_S (kAA ad 183) s.heap s.heap [] := va_S.rf
  refine lv_iconst (v := 0) hx hb dX7_lossByRow_0 (by decide) ?_
  refine lv_istore (lv' := [(5, .int 0), (0, .ref (ad 0)), (1, .int v1), (2, .int v2), (3, .int v3), (4, .int v4)]) hx hb dX7_lossByRow_1 hl (by decide) rfl (fun ls hl => ?_)
  have rest_3 : ∀ (vl3_1_3 : Nat → Int32) (vl3_5_3 : Nat → Int32) (vl3_6_3 : Nat → Int32) (vs3_10_3 : Int32) (vs3_11_3 : Int32), ∀ (H : Heap) (locs : List Loc) (ls : Array Slot), va_P (dC, dI) vwCl (cws cI ad ML MS PL PS (va_up VL 3 (va_up (va_up (va_up (VL 3) 1 vl3_1_3) 5 vl3_5_3) 6 vl3_6_3)) (va_up VS 3 (va_up (va_up (VS 3) 10 vs3_10_3) 11 vs3_11_3)) LL) H → va_S (kAA ad 183) s.heap H locs → lv_has ls 6 [(0, .ref (ad 0))] → (o_lossByRow ML MS VL VS PL PS v1 v2 v3 v4) = o_lossByRow_k3 VL VS PL PS vl3_1_3 vl3_5_3 vl3_6_3 vs3_10_3 vs3_11_3 → W p l e ({ frames := 6, cells := 0, slots := 0, locals := 144 } : Room) s m args below meth c H locs 0 0 (MQ below (kQ (some (.long ((o_lossByRow ML MS VL VS PL PS v1 v2 v3 v4).1))) (kB (dC, dI) [(cI, .int)] (cws cI ad ML MS PL PS (va_up VL 3 (va_up (va_up (va_up (VL 3) 1 ((o_lossByRow ML MS VL VS PL PS v1 v2 v3 v4).2.1)) 5 ((o_lossByRow ML MS VL VS PL PS v1 v2 v3 v4).2.2.1)) 6 ((o_lossByRow ML MS VL VS PL PS v1 v2 v3 v4).2.2.2.1))) (va_up VS 3 (va_up (va_up (VS 3) 10 ((o_lossByRow ML MS VL VS PL PS v1 v2 v3 v4).2.2.2.2.1)) 11 ((o_lossByRow ML MS VL VS PL PS v1 v2 v3 v4).2.2.2.2.2))) LL)) (kAA ad 183)) args s 0 0 (kAA ad 183)) (F0 m 55 ls []) := by
    intro vl3_1_3 vl3_5_3 vl3_6_3 vs3_10_3 vs3_11_3 H locs ls hP hS hl  hF_3
    refine lv_aload_n hx hb dX7_lossByRow_55 rfl (lv_at hl 0 rfl) ?_
    refine k_get (q0 := 0) (ci := 6) (v := .ref (ad 105)) hx hb hts inT_X7 hown hK hP (wM (k := 0) (by decide) rfl) rfl 10 (by decide) rfl kX7_70 rfl dX7_lossByRow_56 ?_
    refine k_rV (v := .long (v_lossSoFar (va_up (va_up (va_up (VL 3) 1 vl3_1_3) 5 vl3_5_3) 6 vl3_6_3) (va_up (va_up (VS 3) 10 vs3_10_3) 11 vs3_11_3) (PL 0) (PS 0))) (As := []) (rest := []) hx hb hml hown hts hl.1 hP hK hN (c_v_lossSoFar (vn := 3) (VL := (va_up VL 3 (va_up (va_up (va_up (VL 3) 1 vl3_1_3) 5 vl3_5_3) 6 vl3_6_3))) (VS := (va_up VS 3 (va_up (va_up (VS 3) 10 vs3_10_3) 11 vs3_11_3))) (PL := PL) (PS := PS) (vl := (va_up (va_up (va_up (VL 3) 1 vl3_1_3) 5 vl3_5_3) 6 vl3_6_3)) (vs := (va_up (va_up (VS 3) 10 vs3_10_3) 11 vs3_11_3)) hI (by decide) va_sf va_sf rfl rfl) eX7_283 (ci := 5) (q0 := 66 + 13 * 3) rfl rfl (xV (v := 3) (by decide) va_sf) rfl rfl (Nat.le_of_ble_eq_true rfl) ⟨Nat.le_of_ble_eq_true rfl, Nat.le_of_ble_eq_true rfl⟩ ⟨rfl, rfl⟩ ⟨Nat.le_of_ble_eq_true rfl, Nat.le_of_ble_eq_true rfl⟩ dX7_lossByRow_59 ?_
    have hE : (o_lossByRow ML MS VL VS PL PS v1 v2 v3 v4) = ((v_lossSoFar (va_up (va_up (va_up (VL 3) 1 vl3_1_3) 5 vl3_5_3) 6 vl3_6_3) (va_up (va_up (VS 3) 10 vs3_10_3) 11 vs3_11_3) (PL 0) (PS 0)), vl3_1_3, vl3_5_3, vl3_6_3, vs3_10_3, vs3_11_3) := hF_3.trans (by rw [o_lossByRow_k3])
    exact W.lret (v := (v_lossSoFar (va_up (va_up (va_up (VL 3) 1 vl3_1_3) 5 vl3_5_3) 6 vl3_6_3) (va_up (va_up (VS 3) 10 vs3_10_3) 11 vs3_11_3) (PL 0) (PS 0))) hx hb hr (fun t ht hW => ⟨by rw [hE], by rw [hE]; exact kB.of (ws := cws cI ad ML MS PL PS (va_up VL 3 (va_up (va_up (va_up (VL 3) 1 vl3_1_3) 5 vl3_5_3) 6 vl3_6_3)) (va_up VS 3 (va_up (va_up (VS 3) 10 vs3_10_3) 11 vs3_11_3)) LL) hP hK hN ht hW, hS.F ht⟩) hS.2.2 dX7_lossByRow_62 hlocks
  have hN_3 : ((MS 1).toNatClampNeg) < 2 ^ 31 := kcl_lt _
  have loop_3 : ∀ (n_3 i_3 : Nat) (vl3_1_3 : Nat → Int32) (vl3_5_3 : Nat → Int32) (vl3_6_3 : Nat → Int32) (vs3_10_3 : Int32) (vs3_11_3 : Int32), i_3 + n_3 = (MS 1).toNatClampNeg → ∀ (H : Heap) (locs : List Loc) (ls : Array Slot), va_P (dC, dI) vwCl (cws cI ad ML MS PL PS (va_up VL 3 (va_up (va_up (va_up (VL 3) 1 vl3_1_3) 5 vl3_5_3) 6 vl3_6_3)) (va_up VS 3 (va_up (va_up (VS 3) 10 vs3_10_3) 11 vs3_11_3)) LL) H → va_S (kAA ad 183) s.heap H locs → lv_has ls 6 [(0, .ref (ad 0)), (1, .int v1), (2, .int v2), (3, .int v3), (4, .int v4), (5, .int (nI i_3))] → (∀ (H : Heap) (locs : List Loc) (ls : Array Slot), va_P (dC, dI) vwCl (cws cI ad ML MS PL PS (va_up VL 3 (va_up (va_up (va_up (VL 3) 1 ((o_lossByRow_L3 ML VL VS PL PS v1 v2 v3 v4 n_3 i_3 vl3_1_3 vl3_5_3 vl3_6_3 vs3_10_3 vs3_11_3).1)) 5 ((o_lossByRow_L3 ML VL VS PL PS v1 v2 v3 v4 n_3 i_3 vl3_1_3 vl3_5_3 vl3_6_3 vs3_10_3 vs3_11_3).2.1)) 6 ((o_lossByRow_L3 ML VL VS PL PS v1 v2 v3 v4 n_3 i_3 vl3_1_3 vl3_5_3 vl3_6_3 vs3_10_3 vs3_11_3).2.2.1))) (va_up VS 3 (va_up (va_up (VS 3) 10 ((o_lossByRow_L3 ML VL VS PL PS v1 v2 v3 v4 n_3 i_3 vl3_1_3 vl3_5_3 vl3_6_3 vs3_10_3 vs3_11_3).2.2.2.1)) 11 ((o_lossByRow_L3 ML VL VS PL PS v1 v2 v3 v4 n_3 i_3 vl3_1_3 vl3_5_3 vl3_6_3 vs3_10_3 vs3_11_3).2.2.2.2))) LL) H → va_S (kAA ad 183) s.heap H locs → lv_has ls 6 [(0, .ref (ad 0))] → W p l e ({ frames := 6, cells := 0, slots := 0, locals := 144 } : Room) s m args below meth c H locs 0 0 (MQ below (kQ (some (.long ((o_lossByRow ML MS VL VS PL PS v1 v2 v3 v4).1))) (kB (dC, dI) [(cI, .int)] (cws cI ad ML MS PL PS (va_up VL 3 (va_up (va_up (va_up (VL 3) 1 ((o_lossByRow ML MS VL VS PL PS v1 v2 v3 v4).2.1)) 5 ((o_lossByRow ML MS VL VS PL PS v1 v2 v3 v4).2.2.1)) 6 ((o_lossByRow ML MS VL VS PL PS v1 v2 v3 v4).2.2.2.1))) (va_up VS 3 (va_up (va_up (VS 3) 10 ((o_lossByRow ML MS VL VS PL PS v1 v2 v3 v4).2.2.2.2.1)) 11 ((o_lossByRow ML MS VL VS PL PS v1 v2 v3 v4).2.2.2.2.2))) LL)) (kAA ad 183)) args s 0 0 (kAA ad 183)) (F0 m 55 ls [])) → W p l e ({ frames := 6, cells := 0, slots := 0, locals := 144 } : Room) s m args below meth c H locs 0 0 (MQ below (kQ (some (.long ((o_lossByRow ML MS VL VS PL PS v1 v2 v3 v4).1))) (kB (dC, dI) [(cI, .int)] (cws cI ad ML MS PL PS (va_up VL 3 (va_up (va_up (va_up (VL 3) 1 ((o_lossByRow ML MS VL VS PL PS v1 v2 v3 v4).2.1)) 5 ((o_lossByRow ML MS VL VS PL PS v1 v2 v3 v4).2.2.1)) 6 ((o_lossByRow ML MS VL VS PL PS v1 v2 v3 v4).2.2.2.1))) (va_up VS 3 (va_up (va_up (VS 3) 10 ((o_lossByRow ML MS VL VS PL PS v1 v2 v3 v4).2.2.2.2.1)) 11 ((o_lossByRow ML MS VL VS PL PS v1 v2 v3 v4).2.2.2.2.2))) LL)) (kAA ad 183)) args s 0 0 (kAA ad 183)) (F0 m 3 ls []) := by
    intro n_3
    induction n_3 with
    | zero =>
      intro i_3 vl3_1_3 vl3_5_3 vl3_6_3 vs3_10_3 vs3_11_3 hin_3 H locs ls hP hS hl  hk_3
      refine lv_iload hx hb dX7_lossByRow_3 (lv_at hl 5 rfl) ?_
      refine lv_aload_n hx hb dX7_lossByRow_5 rfl (lv_at hl 0 rfl) ?_
      refine k_get (q0 := 0) (ci := 6) (v := .int (MS 1)) hx hb hts inT_X7 hown hK hP (wM (k := 0) (by decide) rfl) rfl 9 (by decide) rfl kX7_63 rfl dX7_lossByRow_6 ?_
      refine lv_icmp_ge (tgt := 55) hx hb dX7_lossByRow_9 (by decide) (fun _ => ?_) (fun c_5 => absurd (kct_ge (N := (MS 1).toNatClampNeg) rfl (by omega) (by omega)) c_5)
      have hL_3 : (o_lossByRow_L3 ML VL VS PL PS v1 v2 v3 v4 0 i_3 vl3_1_3 vl3_5_3 vl3_6_3 vs3_10_3 vs3_11_3) = (vl3_1_3, vl3_5_3, vl3_6_3, vs3_10_3, vs3_11_3) := by rw [o_lossByRow_L3.eq_1]
      try rw [hL_3] at hk_3
      exact hk_3 _ _ _ hP hS (lv_sub hl [0] rfl) 
    | succ n_3 ih_3 =>
      intro i_3 vl3_1_3 vl3_5_3 vl3_6_3 vs3_10_3 vs3_11_3 hin_3 H locs ls hP hS hl  hk_3
      refine lv_iload hx hb dX7_lossByRow_3 (lv_at hl 5 rfl) ?_
      refine lv_aload_n hx hb dX7_lossByRow_5 rfl (lv_at hl 0 rfl) ?_
      refine k_get (q0 := 0) (ci := 6) (v := .int (MS 1)) hx hb hts inT_X7 hown hK hP (wM (k := 0) (by decide) rfl) rfl 9 (by decide) rfl kX7_63 rfl dX7_lossByRow_6 ?_
      refine lv_icmp_ge (tgt := 55) hx hb dX7_lossByRow_9 (by decide) (fun c_6 => absurd c_6 (kct_lt (N := (MS 1).toNatClampNeg) rfl (by omega))) (fun _ => ?_)
      refine lv_aload_n hx hb dX7_lossByRow_12 rfl (lv_at hl 0 rfl) ?_
      refine k_get (q0 := 0) (ci := 6) (v := .ref (ad 105)) hx hb hts inT_X7 hown hK hP (wM (k := 0) (by decide) rfl) rfl 10 (by decide) rfl kX7_70 rfl dX7_lossByRow_13 ?_
      refine lv_iload hx hb dX7_lossByRow_16 (lv_at hl 5 rfl) ?_
      refine lv_if_ne (tgt := 25) hx hb dX7_lossByRow_18 (by decide) (fun c_7 => ?_) (fun c_7 => ?_)
      · refine lv_iload_n hx hb dX7_lossByRow_25 rfl (lv_at hl 2 rfl) ?_
        refine lv_aload_n hx hb dX7_lossByRow_26 rfl (lv_at hl 0 rfl) ?_
        refine k_get (q0 := 0) (ci := 6) (v := .ref (ad 8)) hx hb hts inT_X7 hown hK hP (wM (k := 0) (by decide) rfl) rfl 8 (by decide) rfl kX7_59 rfl dX7_lossByRow_27 ?_
        refine lv_iload hx hb dX7_lossByRow_30 (lv_at hl 5 rfl) ?_
        refine k_rV (v := .int (rg 12 (ML 2) (nI i_3))) (As := [.int (nI i_3)]) (rest := [.int v2, .ref (ad 105)]) hx hb hml hown hts hl.1 hP hK hN (c_rg (f := (ML 2)) (n := 12) (wM (k := 8) (by decide) rfl) (xMa (m := 2) (by decide) rfl rfl) (by decide) (nI i_3)) eX7_124 (ci := 2) (q0 := 8) rfl rfl (wM (k := 8) (by decide) rfl) rfl rfl (Nat.le_of_ble_eq_true rfl) ⟨Nat.le_of_ble_eq_true rfl, Nat.le_of_ble_eq_true rfl⟩ ⟨rfl, rfl⟩ ⟨Nat.le_of_ble_eq_true rfl, Nat.le_of_ble_eq_true rfl⟩ dX7_lossByRow_32 ?_
        refine lv_iload hx hb dX7_lossByRow_35 (lv_at hl 5 rfl) ?_
        refine lv_if_ne (tgt := 44) hx hb dX7_lossByRow_37 (by decide) (fun _ => ?_) (fun c_8 => absurd c_8 c_7)
        refine lv_iload hx hb dX7_lossByRow_44 (lv_at hl 4 rfl) ?_
        refine k_wV (r := none) (As := [.int v2, .int (rg 12 (ML 2) (nI i_3)), .int v4]) (rest := []) hx hb hml hown hts hl.1 hP hK hN hS (c_v_passHour (vn := 3) (VL := (va_up VL 3 (va_up (va_up (va_up (VL 3) 1 vl3_1_3) 5 vl3_5_3) 6 vl3_6_3))) (VS := (va_up VS 3 (va_up (va_up (VS 3) 10 vs3_10_3) 11 vs3_11_3))) (PL := PL) (PS := PS) (vl := (va_up (va_up (va_up (VL 3) 1 vl3_1_3) 5 vl3_5_3) 6 vl3_6_3)) (vs := (va_up (va_up (VS 3) 10 vs3_10_3) 11 vs3_11_3)) hI (by decide) va_sf va_sf rfl rfl v2 (rg 12 (ML 2) (nI i_3)) v4) eX7_209 (ci := 5) (q0 := 66 + 13 * 3) rfl rfl (xV (v := 3) (by decide) va_sf) rfl rfl (Nat.le_of_ble_eq_true rfl) ⟨Nat.le_of_ble_eq_true rfl, Nat.le_of_ble_eq_true rfl⟩ ⟨rfl, rfl⟩ ⟨Nat.le_of_ble_eq_true rfl, Nat.le_of_ble_eq_true rfl⟩ dX7_lossByRow_46 (fun H locs hP hS => ?_)
        obtain ⟨r_9, hr_9⟩ : ∃ z, z = (v_passHour (va_up (va_up (va_up (VL 3) 1 vl3_1_3) 5 vl3_5_3) 6 vl3_6_3) (va_up (va_up (VS 3) 10 vs3_10_3) 11 vs3_11_3) (PL 0) (PS 0) v2 (rg 12 (ML 2) (nI i_3)) v4) := ⟨_, rfl⟩
        rw [← hr_9] at hP
        have hP : va_P (dC, dI) vwCl (cws cI ad ML MS PL PS (va_up VL 3 (va_up (va_up (va_up (VL 3) 1 r_9.1) 5 r_9.2.1) 6 r_9.2.2.1)) (va_up VS 3 (va_up (va_up (VS 3) 10 r_9.2.2.2.1) 11 r_9.2.2.2.2)) LL) H := (cws_cg rfl rfl rfl rfl (va_trf rfl (va_tr (va_tr (va_dn (by decide) (va_dn (by decide) (va_uu _ _ _ _))) (va_dn (by decide) (va_uu _ _ _ _))) (va_uu _ _ _ _)) (va_uu _ _ _ _)) (va_trf rfl (va_tr (va_dn (by decide) (va_uu _ _ _ _)) (va_uu _ _ _ _)) (va_uu _ _ _ _)) hP)
        refine lv_iinc (v := (nI (i_3 + 1))) (lv' := [(5, .int (nI (i_3 + 1))), (0, .ref (ad 0)), (1, .int v1), (2, .int v2), (3, .int v3), (4, .int v4)]) hx hb dX7_lossByRow_49 hl (k := 5) rfl (nI_add _ _) (by decide) rfl (fun ls hl => ?_)
        refine lv_goto (tgt := 3) hx hb dX7_lossByRow_52 (by decide) ?_
        have hL_3 : (o_lossByRow_L3 ML VL VS PL PS v1 v2 v3 v4 (n_3 + 1) i_3 vl3_1_3 vl3_5_3 vl3_6_3 vs3_10_3 vs3_11_3) = (o_lossByRow_L3 ML VL VS PL PS v1 v2 v3 v4 n_3 (i_3 + 1) r_9.1 r_9.2.1 r_9.2.2.1 r_9.2.2.2.1 r_9.2.2.2.2) := by subst hr_9; rw [o_lossByRow_L3.eq_2, if_neg c_7]
        try rw [hL_3] at hk_3
        exact ih_3 (i_3 + 1) r_9.1 r_9.2.1 r_9.2.2.1 r_9.2.2.2.1 r_9.2.2.2.2 (by omega) _ _ _ hP hS (lv_sub hl [1, 2, 3, 4, 5, 0] rfl)  hk_3
      · refine lv_iload_n hx hb dX7_lossByRow_21 rfl (lv_at hl 1 rfl) ?_
        refine lv_goto (tgt := 26) hx hb dX7_lossByRow_22 (by decide) ?_
        refine lv_aload_n hx hb dX7_lossByRow_26 rfl (lv_at hl 0 rfl) ?_
        refine k_get (q0 := 0) (ci := 6) (v := .ref (ad 8)) hx hb hts inT_X7 hown hK hP (wM (k := 0) (by decide) rfl) rfl 8 (by decide) rfl kX7_59 rfl dX7_lossByRow_27 ?_
        refine lv_iload hx hb dX7_lossByRow_30 (lv_at hl 5 rfl) ?_
        refine k_rV (v := .int (rg 12 (ML 2) (nI i_3))) (As := [.int (nI i_3)]) (rest := [.int v1, .ref (ad 105)]) hx hb hml hown hts hl.1 hP hK hN (c_rg (f := (ML 2)) (n := 12) (wM (k := 8) (by decide) rfl) (xMa (m := 2) (by decide) rfl rfl) (by decide) (nI i_3)) eX7_124 (ci := 2) (q0 := 8) rfl rfl (wM (k := 8) (by decide) rfl) rfl rfl (Nat.le_of_ble_eq_true rfl) ⟨Nat.le_of_ble_eq_true rfl, Nat.le_of_ble_eq_true rfl⟩ ⟨rfl, rfl⟩ ⟨Nat.le_of_ble_eq_true rfl, Nat.le_of_ble_eq_true rfl⟩ dX7_lossByRow_32 ?_
        refine lv_iload hx hb dX7_lossByRow_35 (lv_at hl 5 rfl) ?_
        refine lv_if_ne (tgt := 44) hx hb dX7_lossByRow_37 (by decide) (fun c_10 => absurd c_7 c_10) (fun _ => ?_)
        refine lv_iload_n hx hb dX7_lossByRow_40 rfl (lv_at hl 3 rfl) ?_
        refine lv_goto (tgt := 46) hx hb dX7_lossByRow_41 (by decide) ?_
        refine k_wV (r := none) (As := [.int v1, .int (rg 12 (ML 2) (nI i_3)), .int v3]) (rest := []) hx hb hml hown hts hl.1 hP hK hN hS (c_v_passHour (vn := 3) (VL := (va_up VL 3 (va_up (va_up (va_up (VL 3) 1 vl3_1_3) 5 vl3_5_3) 6 vl3_6_3))) (VS := (va_up VS 3 (va_up (va_up (VS 3) 10 vs3_10_3) 11 vs3_11_3))) (PL := PL) (PS := PS) (vl := (va_up (va_up (va_up (VL 3) 1 vl3_1_3) 5 vl3_5_3) 6 vl3_6_3)) (vs := (va_up (va_up (VS 3) 10 vs3_10_3) 11 vs3_11_3)) hI (by decide) va_sf va_sf rfl rfl v1 (rg 12 (ML 2) (nI i_3)) v3) eX7_209 (ci := 5) (q0 := 66 + 13 * 3) rfl rfl (xV (v := 3) (by decide) va_sf) rfl rfl (Nat.le_of_ble_eq_true rfl) ⟨Nat.le_of_ble_eq_true rfl, Nat.le_of_ble_eq_true rfl⟩ ⟨rfl, rfl⟩ ⟨Nat.le_of_ble_eq_true rfl, Nat.le_of_ble_eq_true rfl⟩ dX7_lossByRow_46 (fun H locs hP hS => ?_)
        obtain ⟨r_11, hr_11⟩ : ∃ z, z = (v_passHour (va_up (va_up (va_up (VL 3) 1 vl3_1_3) 5 vl3_5_3) 6 vl3_6_3) (va_up (va_up (VS 3) 10 vs3_10_3) 11 vs3_11_3) (PL 0) (PS 0) v1 (rg 12 (ML 2) (nI i_3)) v3) := ⟨_, rfl⟩
        rw [← hr_11] at hP
        have hP : va_P (dC, dI) vwCl (cws cI ad ML MS PL PS (va_up VL 3 (va_up (va_up (va_up (VL 3) 1 r_11.1) 5 r_11.2.1) 6 r_11.2.2.1)) (va_up VS 3 (va_up (va_up (VS 3) 10 r_11.2.2.2.1) 11 r_11.2.2.2.2)) LL) H := (cws_cg rfl rfl rfl rfl (va_trf rfl (va_tr (va_tr (va_dn (by decide) (va_dn (by decide) (va_uu _ _ _ _))) (va_dn (by decide) (va_uu _ _ _ _))) (va_uu _ _ _ _)) (va_uu _ _ _ _)) (va_trf rfl (va_tr (va_dn (by decide) (va_uu _ _ _ _)) (va_uu _ _ _ _)) (va_uu _ _ _ _)) hP)
        refine lv_iinc (v := (nI (i_3 + 1))) (lv' := [(5, .int (nI (i_3 + 1))), (0, .ref (ad 0)), (1, .int v1), (2, .int v2), (3, .int v3), (4, .int v4)]) hx hb dX7_lossByRow_49 hl (k := 5) rfl (nI_add _ _) (by decide) rfl (fun ls hl => ?_)
        refine lv_goto (tgt := 3) hx hb dX7_lossByRow_52 (by decide) ?_
        have hL_3 : (o_lossByRow_L3 ML VL VS PL PS v1 v2 v3 v4 (n_3 + 1) i_3 vl3_1_3 vl3_5_3 vl3_6_3 vs3_10_3 vs3_11_3) = (o_lossByRow_L3 ML VL VS PL PS v1 v2 v3 v4 n_3 (i_3 + 1) r_11.1 r_11.2.1 r_11.2.2.1 r_11.2.2.2.1 r_11.2.2.2.2) := by subst hr_11; rw [o_lossByRow_L3.eq_2, if_pos c_7]
        try rw [hL_3] at hk_3
        exact ih_3 (i_3 + 1) r_11.1 r_11.2.1 r_11.2.2.1 r_11.2.2.2.1 r_11.2.2.2.2 (by omega) _ _ _ hP hS (lv_sub hl [1, 2, 3, 4, 5, 0] rfl)  hk_3
  have hP : va_P (dC, dI) vwCl (cws cI ad ML MS PL PS (va_up VL 3 (va_up (va_up (va_up (VL 3) 1 (VL 3 1)) 5 (VL 3 5)) 6 (VL 3 6))) (va_up VS 3 (va_up (va_up (VS 3) 10 (VS 3 10)) 11 (VS 3 11))) LL) s.heap := (cws_cg rfl rfl rfl rfl (va_ad rfl (Eq.trans rfl (va_ad (va_ad (va_ad rfl rfl) (va_ne1 (by decide) rfl)) (va_ne1 (by decide) (va_ne1 (by decide) rfl))))) (va_ad rfl (Eq.trans rfl (va_ad (va_ad rfl rfl) (va_ne1 (by decide) rfl)))) hP)
  exact loop_3 ((MS 1).toNatClampNeg) 0 (VL 3 1) (VL 3 5) (VL 3 6) (VS 3 10) (VS 3 11) (by omega) _ _ _ hP hS (lv_sub hl [1, 2, 3, 4, 5, 0] rfl)  (fun H locs ls hP hS hl  => rest_3 (o_lossByRow_L3 ML VL VS PL PS v1 v2 v3 v4 ((MS 1).toNatClampNeg) 0 (VL 3 1) (VL 3 5) (VL 3 6) (VS 3 10) (VS 3 11)).1 (o_lossByRow_L3 ML VL VS PL PS v1 v2 v3 v4 ((MS 1).toNatClampNeg) 0 (VL 3 1) (VL 3 5) (VL 3 6) (VS 3 10) (VS 3 11)).2.1 (o_lossByRow_L3 ML VL VS PL PS v1 v2 v3 v4 ((MS 1).toNatClampNeg) 0 (VL 3 1) (VL 3 5) (VL 3 6) (VS 3 10) (VS 3 11)).2.2.1 (o_lossByRow_L3 ML VL VS PL PS v1 v2 v3 v4 ((MS 1).toNatClampNeg) 0 (VL 3 1) (VL 3 5) (VL 3 6) (VS 3 10) (VS 3 11)).2.2.2.1 (o_lossByRow_L3 ML VL VS PL PS v1 v2 v3 v4 ((MS 1).toNatClampNeg) 0 (VL 3 1) (VL 3 5) (VL 3 6) (VS 3 10) (VS 3 11)).2.2.2.2 _ _ _ hP hS hl  (by rw [o_lossByRow]))
-- X7_drawBearings
def o_drawBearings_k2 (ml5 : Nat → Int32) : (Nat → Int32) := ml5
def o_drawBearings_L2 (VL : Nat → Nat → Nat → Int32) (PL : Nat → Nat → Nat → Int32) (v1 : Int32) : Nat → Nat → (Nat → Int32) → (Nat → Int32)
  | 0, i, ml5 => ml5
  | n + 1, i, ml5 => if (v_chances (VL 0) (PL 0) (nI i)) = 0 then o_drawBearings_L2 VL PL v1 n (i + 1) (rs 8 ml5 (nI i) (v_bearingAt (VL 0) (PL 0) (nI i) 0)) else o_drawBearings_L2 VL PL v1 n (i + 1) (rs 8 ml5 (nI i) (v_bearingAt (VL 0) (PL 0) (nI i) ((o_draw v1 (nI i) 99) - (o_draw v1 (nI i) 99) / (v_chances (VL 0) (PL 0) (nI i)) * (v_chances (VL 0) (PL 0) (nI i)))))
def o_drawBearings (ML : Nat → Nat → Int32) (VL : Nat → Nat → Nat → Int32) (PL : Nat → Nat → Nat → Int32) (PS : Nat → Nat → Int32) (v1 : Int32) : (Nat → Int32) := o_drawBearings_k2 (o_drawBearings_L2 VL PL v1 ((PS 0 0).toNatClampNeg) 0 (ML 5))
set_option maxHeartbeats 4000000 in
set_option maxRecDepth 100000 in
theorem c_o_drawBearings (hI : kInj ad 183) (v1 : Int32) : Met l yX7_drawBearings (.code yX7_drawBearings cX7_drawBearings 5 none :: kT) ({ frames := 4, cells := 0, slots := 0, locals := 91 } : Room) (va_Pc [.ref (ad 0), .int v1] (kB (dC, dI) [(cI, .int)] (cws cI ad ML MS PL PS VL VS LL))) (kQ none (kB (dC, dI) [(cI, .int)] (cws cI ad (va_up ML 5 (o_drawBearings ML VL PL PS v1)) MS PL PS VL VS LL)) (kAA ad 183)) 0 0 (kAA ad 183) := by
  refine kMet (by decide) (fun p e s m args below meth c ls hx hb hr hml hts hown hlocks hname hargs hB hl => ?_) (Nat.le_of_ble_eq_true rfl)
  obtain ⟨hP, hK, hN⟩ := hB
  have hl : lv_has ls 5 [(0, .ref (ad 0)), (1, .int v1)] := hl
  have hS : va_S (kAA ad 183) s.heap s.heap [] := va_S.rf
  refine lv_iconst (v := 0) hx hb dX7_drawBearings_0 (by decide) ?_
  refine lv_istore_n (lv' := [(2, .int 0), (0, .ref (ad 0)), (1, .int v1)]) hx hb dX7_drawBearings_1 rfl hl (by decide) rfl (fun ls hl => ?_)
  have rest_2 : ∀ (ml5_2 : Nat → Int32), ∀ (H : Heap) (locs : List Loc) (ls : Array Slot), va_P (dC, dI) vwCl (cws cI ad (va_up ML 5 ml5_2) MS PL PS VL VS LL) H → va_S (kAA ad 183) s.heap H locs → lv_has ls 5 [] → (o_drawBearings ML VL PL PS v1) = o_drawBearings_k2 ml5_2 → W p l e ({ frames := 4, cells := 0, slots := 0, locals := 91 } : Room) s m args below meth c H locs 0 0 (MQ below (kQ none (kB (dC, dI) [(cI, .int)] (cws cI ad (va_up ML 5 (o_drawBearings ML VL PL PS v1)) MS PL PS VL VS LL)) (kAA ad 183)) args s 0 0 (kAA ad 183)) (F0 m 65 ls []) := by
    intro ml5_2 H locs ls hP hS hl  hF_2
    have hE : (o_drawBearings ML VL PL PS v1) = ml5_2 := hF_2.trans (by rw [o_drawBearings_k2])
    exact W.vret hx hb hr (fun t ht hW => ⟨rfl, by rw [hE]; exact kB.of (ws := cws cI ad (va_up ML 5 ml5_2) MS PL PS VL VS LL) hP hK hN ht hW, hS.F ht⟩) hS.2.2 dX7_drawBearings_65 hlocks
  have hN_2 : ((PS 0 0).toNatClampNeg) < 2 ^ 31 := kcl_lt _
  have loop_2 : ∀ (n_2 i_2 : Nat) (ml5_2 : Nat → Int32), i_2 + n_2 = (PS 0 0).toNatClampNeg → ∀ (H : Heap) (locs : List Loc) (ls : Array Slot), va_P (dC, dI) vwCl (cws cI ad (va_up ML 5 ml5_2) MS PL PS VL VS LL) H → va_S (kAA ad 183) s.heap H locs → lv_has ls 5 [(0, .ref (ad 0)), (1, .int v1), (2, .int (nI i_2))] → (∀ (H : Heap) (locs : List Loc) (ls : Array Slot), va_P (dC, dI) vwCl (cws cI ad (va_up ML 5 (o_drawBearings_L2 VL PL v1 n_2 i_2 ml5_2)) MS PL PS VL VS LL) H → va_S (kAA ad 183) s.heap H locs → lv_has ls 5 [] → W p l e ({ frames := 4, cells := 0, slots := 0, locals := 91 } : Room) s m args below meth c H locs 0 0 (MQ below (kQ none (kB (dC, dI) [(cI, .int)] (cws cI ad (va_up ML 5 (o_drawBearings ML VL PL PS v1)) MS PL PS VL VS LL)) (kAA ad 183)) args s 0 0 (kAA ad 183)) (F0 m 65 ls [])) → W p l e ({ frames := 4, cells := 0, slots := 0, locals := 91 } : Room) s m args below meth c H locs 0 0 (MQ below (kQ none (kB (dC, dI) [(cI, .int)] (cws cI ad (va_up ML 5 (o_drawBearings ML VL PL PS v1)) MS PL PS VL VS LL)) (kAA ad 183)) args s 0 0 (kAA ad 183)) (F0 m 2 ls []) := by
    intro n_2
    induction n_2 with
    | zero =>
      intro i_2 ml5_2 hin_2 H locs ls hP hS hl  hk_2
      refine lv_iload_n hx hb dX7_drawBearings_2 rfl (lv_at hl 2 rfl) ?_
      refine lv_aload_n hx hb dX7_drawBearings_3 rfl (lv_at hl 0 rfl) ?_
      refine k_get (q0 := 0) (ci := 6) (v := .ref (ad 16)) hx hb hts inT_X7 hown hK hP (wM (k := 0) (by decide) rfl) rfl 2 (by decide) rfl kX7_28 rfl dX7_drawBearings_4 ?_
      refine k_getN (q0 := 16 + 25 * 0) (ci := 0) (v := .int (PS 0 0)) hx hb hts hN inT_X0 hown hK hP (xP (p := 0) (by decide) rfl) rfl 0 (by decide) rfl kX7_114 rfl dX7_drawBearings_7 ?_
      refine lv_icmp_ge (tgt := 65) hx hb dX7_drawBearings_10 (by decide) (fun _ => ?_) (fun c_3 => absurd (kct_ge (N := (PS 0 0).toNatClampNeg) rfl (by omega) (by omega)) c_3)
      have hL_2 : (o_drawBearings_L2 VL PL v1 0 i_2 ml5_2) = ml5_2 := by rw [o_drawBearings_L2.eq_1]
      try rw [hL_2] at hk_2
      exact hk_2 _ _ _ hP hS (lv_sub hl [] rfl) 
    | succ n_2 ih_2 =>
      intro i_2 ml5_2 hin_2 H locs ls hP hS hl  hk_2
      refine lv_iload_n hx hb dX7_drawBearings_2 rfl (lv_at hl 2 rfl) ?_
      refine lv_aload_n hx hb dX7_drawBearings_3 rfl (lv_at hl 0 rfl) ?_
      refine k_get (q0 := 0) (ci := 6) (v := .ref (ad 16)) hx hb hts inT_X7 hown hK hP (wM (k := 0) (by decide) rfl) rfl 2 (by decide) rfl kX7_28 rfl dX7_drawBearings_4 ?_
      refine k_getN (q0 := 16 + 25 * 0) (ci := 0) (v := .int (PS 0 0)) hx hb hts hN inT_X0 hown hK hP (xP (p := 0) (by decide) rfl) rfl 0 (by decide) rfl kX7_114 rfl dX7_drawBearings_7 ?_
      refine lv_icmp_ge (tgt := 65) hx hb dX7_drawBearings_10 (by decide) (fun c_4 => absurd c_4 (kct_lt (N := (PS 0 0).toNatClampNeg) rfl (by omega))) (fun _ => ?_)
      refine lv_aload_n hx hb dX7_drawBearings_13 rfl (lv_at hl 0 rfl) ?_
      refine k_get (q0 := 0) (ci := 6) (v := .ref (ad 66)) hx hb hts inT_X7 hown hK hP (wM (k := 0) (by decide) rfl) rfl 4 (by decide) rfl kX7_40 rfl dX7_drawBearings_14 ?_
      refine lv_iload_n hx hb dX7_drawBearings_17 rfl (lv_at hl 2 rfl) ?_
      refine k_rV (v := .int (v_chances (VL 0) (PL 0) (nI i_2))) (As := [.int (nI i_2)]) (rest := []) hx hb hml hown hts hl.1 hP hK hN (c_v_chances (vn := 0) (VL := VL) (VS := VS) (PL := PL) (PS := PS) (vl := (VL 0)) (vs := (VS 0)) hI (by decide) rfl rfl rfl rfl (nI i_2)) eX7_147 (ci := 5) (q0 := 66 + 13 * 0) rfl rfl (xV (v := 0) (by decide) rfl) rfl rfl (Nat.le_of_ble_eq_true rfl) ⟨Nat.le_of_ble_eq_true rfl, Nat.le_of_ble_eq_true rfl⟩ ⟨rfl, rfl⟩ ⟨Nat.le_of_ble_eq_true rfl, Nat.le_of_ble_eq_true rfl⟩ dX7_drawBearings_18 ?_
      refine lv_istore_n (lv' := [(3, .int (v_chances (VL 0) (PL 0) (nI i_2))), (0, .ref (ad 0)), (1, .int v1), (2, .int (nI i_2))]) hx hb dX7_drawBearings_21 rfl hl (by decide) rfl (fun ls hl => ?_)
      refine lv_iload_n hx hb dX7_drawBearings_22 rfl (lv_at hl 0 rfl) ?_
      refine lv_if_ne (tgt := 30) hx hb dX7_drawBearings_23 (by decide) (fun c_5 => ?_) (fun c_5 => ?_)
      · refine lv_iload_n hx hb dX7_drawBearings_30 rfl (lv_at hl 2 rfl) ?_
        refine lv_iload_n hx hb dX7_drawBearings_31 rfl (lv_at hl 3 rfl) ?_
        refine lv_bipush (v := 99) hx hb dX7_drawBearings_32 (by decide) ?_
        refine k_rS (v := .int (o_draw v1 (nI i_2) 99)) (As := [.int v1, .int (nI i_2), .int 99]) (rest := []) hx hb hml hown hts hl.1 (B := fun _ => True) (fun _ _ _ _ q => q) (fun _ _ _ => trivial) (c_o_draw v1 (nI i_2) 99) eX7_291 rfl rfl (Nat.le_of_ble_eq_true rfl) ⟨Nat.le_of_ble_eq_true rfl, Nat.le_of_ble_eq_true rfl⟩ ⟨rfl, rfl⟩ ⟨Nat.le_of_ble_eq_true rfl, Nat.le_of_ble_eq_true rfl⟩ dX7_drawBearings_34 ?_
        refine lv_iload_n hx hb dX7_drawBearings_37 rfl (lv_at hl 0 rfl) ?_
        refine lv_irem hx hb dX7_drawBearings_38 (by first | assumption | omega) ?_
        refine lv_istore (lv' := [(4, .int ((o_draw v1 (nI i_2) 99) - (o_draw v1 (nI i_2) 99) / (v_chances (VL 0) (PL 0) (nI i_2)) * (v_chances (VL 0) (PL 0) (nI i_2)))), (3, .int (v_chances (VL 0) (PL 0) (nI i_2))), (0, .ref (ad 0)), (1, .int v1), (2, .int (nI i_2))]) hx hb dX7_drawBearings_39 hl (by decide) rfl (fun ls hl => ?_)
        refine lv_aload_n hx hb dX7_drawBearings_41 rfl (lv_at hl 2 rfl) ?_
        refine k_get (q0 := 0) (ci := 6) (v := .ref (ad 14)) hx hb hts inT_X7 hown hK hP (wM (k := 0) (by decide) rfl) rfl 12 (by decide) rfl kX7_82 rfl dX7_drawBearings_42 ?_
        refine lv_iload_n hx hb dX7_drawBearings_45 rfl (lv_at hl 4 rfl) ?_
        refine lv_aload_n hx hb dX7_drawBearings_46 rfl (lv_at hl 2 rfl) ?_
        refine k_get (q0 := 0) (ci := 6) (v := .ref (ad 66)) hx hb hts inT_X7 hown hK hP (wM (k := 0) (by decide) rfl) rfl 4 (by decide) rfl kX7_40 rfl dX7_drawBearings_47 ?_
        refine lv_iload_n hx hb dX7_drawBearings_50 rfl (lv_at hl 4 rfl) ?_
        refine lv_iload hx hb dX7_drawBearings_51 (lv_at hl 0 rfl) ?_
        refine k_rV (v := .int (v_bearingAt (VL 0) (PL 0) (nI i_2) ((o_draw v1 (nI i_2) 99) - (o_draw v1 (nI i_2) 99) / (v_chances (VL 0) (PL 0) (nI i_2)) * (v_chances (VL 0) (PL 0) (nI i_2))))) (As := [.int (nI i_2), .int ((o_draw v1 (nI i_2) 99) - (o_draw v1 (nI i_2) 99) / (v_chances (VL 0) (PL 0) (nI i_2)) * (v_chances (VL 0) (PL 0) (nI i_2)))]) (rest := [.int (nI i_2), .ref (ad 14)]) hx hb hml hown hts hl.1 hP hK hN (c_v_bearingAt (vn := 0) (VL := VL) (VS := VS) (PL := PL) (PS := PS) (vl := (VL 0)) (vs := (VS 0)) hI (by decide) rfl rfl rfl rfl (nI i_2) ((o_draw v1 (nI i_2) 99) - (o_draw v1 (nI i_2) 99) / (v_chances (VL 0) (PL 0) (nI i_2)) * (v_chances (VL 0) (PL 0) (nI i_2)))) eX7_294 (ci := 5) (q0 := 66 + 13 * 0) rfl rfl (xV (v := 0) (by decide) rfl) rfl rfl (Nat.le_of_ble_eq_true rfl) ⟨Nat.le_of_ble_eq_true rfl, Nat.le_of_ble_eq_true rfl⟩ ⟨rfl, rfl⟩ ⟨Nat.le_of_ble_eq_true rfl, Nat.le_of_ble_eq_true rfl⟩ dX7_drawBearings_53 ?_
        refine k_wV (ws' := cws cI ad (va_up ML 5 (rs 8 ml5_2 (nI i_2) (v_bearingAt (VL 0) (PL 0) (nI i_2) ((o_draw v1 (nI i_2) 99) - (o_draw v1 (nI i_2) 99) / (v_chances (VL 0) (PL 0) (nI i_2)) * (v_chances (VL 0) (PL 0) (nI i_2)))))) MS PL PS VL VS LL) (r := none) (As := [.int (nI i_2), .int (v_bearingAt (VL 0) (PL 0) (nI i_2) ((o_draw v1 (nI i_2) 99) - (o_draw v1 (nI i_2) 99) / (v_chances (VL 0) (PL 0) (nI i_2)) * (v_chances (VL 0) (PL 0) (nI i_2))))]) (rest := []) hx hb hml hown hts hl.1 hP hK hN hS (c_rs (f := ml5_2) (n := 8) (wM (k := 14) (by decide) rfl) (xMa (m := 5) (by decide) rfl va_sf) (by decide) (cwsD hI) (nI i_2) (v_bearingAt (VL 0) (PL 0) (nI i_2) ((o_draw v1 (nI i_2) 99) - (o_draw v1 (nI i_2) 99) / (v_chances (VL 0) (PL 0) (nI i_2)) * (v_chances (VL 0) (PL 0) (nI i_2)))) (yMl (m := 5) (by decide) rfl (va_uu _ _ _ _))) eX7_187 (ci := 2) (q0 := 14) rfl rfl (wM (k := 14) (by decide) rfl) rfl rfl (Nat.le_of_ble_eq_true rfl) ⟨Nat.le_of_ble_eq_true rfl, Nat.le_of_ble_eq_true rfl⟩ ⟨rfl, rfl⟩ ⟨Nat.le_of_ble_eq_true rfl, Nat.le_of_ble_eq_true rfl⟩ dX7_drawBearings_56 (fun H locs hP hS => ?_)
        refine lv_iinc (v := (nI (i_2 + 1))) (lv' := [(2, .int (nI (i_2 + 1))), (4, .int ((o_draw v1 (nI i_2) 99) - (o_draw v1 (nI i_2) 99) / (v_chances (VL 0) (PL 0) (nI i_2)) * (v_chances (VL 0) (PL 0) (nI i_2)))), (3, .int (v_chances (VL 0) (PL 0) (nI i_2))), (0, .ref (ad 0)), (1, .int v1)]) hx hb dX7_drawBearings_59 hl (k := 4) rfl (nI_add _ _) (by decide) rfl (fun ls hl => ?_)
        refine lv_goto (tgt := 2) hx hb dX7_drawBearings_62 (by decide) ?_
        have hL_2 : (o_drawBearings_L2 VL PL v1 (n_2 + 1) i_2 ml5_2) = (o_drawBearings_L2 VL PL v1 n_2 (i_2 + 1) (rs 8 ml5_2 (nI i_2) (v_bearingAt (VL 0) (PL 0) (nI i_2) ((o_draw v1 (nI i_2) 99) - (o_draw v1 (nI i_2) 99) / (v_chances (VL 0) (PL 0) (nI i_2)) * (v_chances (VL 0) (PL 0) (nI i_2)))))) := by rw [o_drawBearings_L2.eq_2, if_neg c_5]
        try rw [hL_2] at hk_2
        exact ih_2 (i_2 + 1) (rs 8 ml5_2 (nI i_2) (v_bearingAt (VL 0) (PL 0) (nI i_2) ((o_draw v1 (nI i_2) 99) - (o_draw v1 (nI i_2) 99) / (v_chances (VL 0) (PL 0) (nI i_2)) * (v_chances (VL 0) (PL 0) (nI i_2))))) (by omega) _ _ _ hP hS (lv_sub hl [3, 4, 0] rfl)  hk_2
      · refine lv_iconst (v := 0) hx hb dX7_drawBearings_26 (by decide) ?_
        refine lv_goto (tgt := 39) hx hb dX7_drawBearings_27 (by decide) ?_
        refine lv_istore (lv' := [(4, .int 0), (3, .int (v_chances (VL 0) (PL 0) (nI i_2))), (0, .ref (ad 0)), (1, .int v1), (2, .int (nI i_2))]) hx hb dX7_drawBearings_39 hl (by decide) rfl (fun ls hl => ?_)
        refine lv_aload_n hx hb dX7_drawBearings_41 rfl (lv_at hl 2 rfl) ?_
        refine k_get (q0 := 0) (ci := 6) (v := .ref (ad 14)) hx hb hts inT_X7 hown hK hP (wM (k := 0) (by decide) rfl) rfl 12 (by decide) rfl kX7_82 rfl dX7_drawBearings_42 ?_
        refine lv_iload_n hx hb dX7_drawBearings_45 rfl (lv_at hl 4 rfl) ?_
        refine lv_aload_n hx hb dX7_drawBearings_46 rfl (lv_at hl 2 rfl) ?_
        refine k_get (q0 := 0) (ci := 6) (v := .ref (ad 66)) hx hb hts inT_X7 hown hK hP (wM (k := 0) (by decide) rfl) rfl 4 (by decide) rfl kX7_40 rfl dX7_drawBearings_47 ?_
        refine lv_iload_n hx hb dX7_drawBearings_50 rfl (lv_at hl 4 rfl) ?_
        refine lv_iload hx hb dX7_drawBearings_51 (lv_at hl 0 rfl) ?_
        refine k_rV (v := .int (v_bearingAt (VL 0) (PL 0) (nI i_2) 0)) (As := [.int (nI i_2), .int 0]) (rest := [.int (nI i_2), .ref (ad 14)]) hx hb hml hown hts hl.1 hP hK hN (c_v_bearingAt (vn := 0) (VL := VL) (VS := VS) (PL := PL) (PS := PS) (vl := (VL 0)) (vs := (VS 0)) hI (by decide) rfl rfl rfl rfl (nI i_2) 0) eX7_294 (ci := 5) (q0 := 66 + 13 * 0) rfl rfl (xV (v := 0) (by decide) rfl) rfl rfl (Nat.le_of_ble_eq_true rfl) ⟨Nat.le_of_ble_eq_true rfl, Nat.le_of_ble_eq_true rfl⟩ ⟨rfl, rfl⟩ ⟨Nat.le_of_ble_eq_true rfl, Nat.le_of_ble_eq_true rfl⟩ dX7_drawBearings_53 ?_
        refine k_wV (ws' := cws cI ad (va_up ML 5 (rs 8 ml5_2 (nI i_2) (v_bearingAt (VL 0) (PL 0) (nI i_2) 0))) MS PL PS VL VS LL) (r := none) (As := [.int (nI i_2), .int (v_bearingAt (VL 0) (PL 0) (nI i_2) 0)]) (rest := []) hx hb hml hown hts hl.1 hP hK hN hS (c_rs (f := ml5_2) (n := 8) (wM (k := 14) (by decide) rfl) (xMa (m := 5) (by decide) rfl va_sf) (by decide) (cwsD hI) (nI i_2) (v_bearingAt (VL 0) (PL 0) (nI i_2) 0) (yMl (m := 5) (by decide) rfl (va_uu _ _ _ _))) eX7_187 (ci := 2) (q0 := 14) rfl rfl (wM (k := 14) (by decide) rfl) rfl rfl (Nat.le_of_ble_eq_true rfl) ⟨Nat.le_of_ble_eq_true rfl, Nat.le_of_ble_eq_true rfl⟩ ⟨rfl, rfl⟩ ⟨Nat.le_of_ble_eq_true rfl, Nat.le_of_ble_eq_true rfl⟩ dX7_drawBearings_56 (fun H locs hP hS => ?_)
        refine lv_iinc (v := (nI (i_2 + 1))) (lv' := [(2, .int (nI (i_2 + 1))), (4, .int 0), (3, .int (v_chances (VL 0) (PL 0) (nI i_2))), (0, .ref (ad 0)), (1, .int v1)]) hx hb dX7_drawBearings_59 hl (k := 4) rfl (nI_add _ _) (by decide) rfl (fun ls hl => ?_)
        refine lv_goto (tgt := 2) hx hb dX7_drawBearings_62 (by decide) ?_
        have hL_2 : (o_drawBearings_L2 VL PL v1 (n_2 + 1) i_2 ml5_2) = (o_drawBearings_L2 VL PL v1 n_2 (i_2 + 1) (rs 8 ml5_2 (nI i_2) (v_bearingAt (VL 0) (PL 0) (nI i_2) 0))) := by rw [o_drawBearings_L2.eq_2, if_pos c_5]
        try rw [hL_2] at hk_2
        exact ih_2 (i_2 + 1) (rs 8 ml5_2 (nI i_2) (v_bearingAt (VL 0) (PL 0) (nI i_2) 0)) (by omega) _ _ _ hP hS (lv_sub hl [3, 4, 0] rfl)  hk_2
  have hP : va_P (dC, dI) vwCl (cws cI ad (va_up ML 5 (ML 5)) MS PL PS VL VS LL) s.heap := (cws_cg (va_ad rfl rfl) rfl rfl rfl rfl rfl hP)
  exact loop_2 ((PS 0 0).toNatClampNeg) 0 (ML 5) (by omega) _ _ _ hP hS (lv_sub hl [1, 2, 0] rfl)  (fun H locs ls hP hS hl  => rest_2 (o_drawBearings_L2 VL PL v1 ((PS 0 0).toNatClampNeg) 0 (ML 5)) _ _ _ hP hS hl  (by rw [o_drawBearings]))
-- X7_drawSky
def o_drawSky_k20  : Int32 := 2
def o_drawSky_L20 (vs : Nat → Int32) (pl : Nat → Nat → Int32) (v3 : Int32) : Nat → Nat → Int32 → Int32
  | 0, i, v4 => o_drawSky_k20
  | n + 1, i, v4 => if (v4 + (p_tenthsOfNext pl (vs 11) (nI i))) ≤ v3 then o_drawSky_L20 vs pl v3 n (i + 1) (v4 + (p_tenthsOfNext pl (vs 11) (nI i))) else (nI i)
def o_drawSky (vs : Nat → Int32) (pl : Nat → Nat → Int32) (v1 : Int32) : Int32 := (o_drawSky_L20 vs pl ((o_draw v1 (vs 10) 98) - (o_draw v1 (vs 10) 98) / 10 * 10) 3 0 0)
set_option maxHeartbeats 4000000 in
set_option maxRecDepth 100000 in
theorem c_o_drawSky (hI : kInj ad 183) (hv : vn < 9) (hvl : VL vn = vl) (hvs : VS vn = vs) (hpl : PL 0 = pl) (hps : PS 0 = ps) (v1 : Int32) : Met l yX7_drawSky (.code yX7_drawSky cX7_drawSky 6 (some .int) :: kT) ({ frames := 2, cells := 0, slots := 0, locals := 43 } : Room) (va_Pc [.ref (ad 0), .int v1, .ref (ad (66 + 13 * vn))] (kB (dC, dI) [(cI, .int)] (cws cI ad ML MS PL PS VL VS LL))) (kR (some (.int (o_drawSky vs pl v1)))) 0 0 (fun _ => False) := by
  refine kMet (by decide) (fun p e s m args below meth c ls hx hb hr hml hts hown hlocks hname hargs hB hl => ?_) (Nat.le_of_ble_eq_true rfl)
  obtain ⟨hP, hK, hN⟩ := hB
  have hl : lv_has ls 6 [(0, .ref (ad 0)), (1, .int v1), (2, .ref (ad (66 + 13 * vn)))] := hl
  refine lv_iload_n hx hb dX7_drawSky_0 rfl (lv_at hl 1 rfl) ?_
  refine lv_aload_n hx hb dX7_drawSky_1 rfl (lv_at hl 2 rfl) ?_
  refine k_getN (q0 := 66 + 13 * vn) (ci := 5) (v := .int (vs 10)) hx hb hts hN inT_X6 hown hK hP (xV (v := vn) hv hvs) rfl 10 (by decide) rfl kX7_154 rfl dX7_drawSky_2 ?_
  refine lv_bipush (v := 98) hx hb dX7_drawSky_5 (by decide) ?_
  refine k_rS (v := .int (o_draw v1 (vs 10) 98)) (As := [.int v1, .int (vs 10), .int 98]) (rest := []) hx hb hml hown hts hl.1 (B := fun _ => True) (fun _ _ _ _ q => q) (fun _ _ _ => trivial) (c_o_draw v1 (vs 10) 98) eX7_291 rfl rfl (Nat.le_of_ble_eq_true rfl) ⟨Nat.le_of_ble_eq_true rfl, Nat.le_of_ble_eq_true rfl⟩ ⟨rfl, rfl⟩ ⟨Nat.le_of_ble_eq_true rfl, Nat.le_of_ble_eq_true rfl⟩ dX7_drawSky_7 ?_
  refine lv_bipush (v := 10) hx hb dX7_drawSky_10 (by decide) ?_
  refine lv_irem hx hb dX7_drawSky_12 (by decide) ?_
  refine lv_istore_n (lv' := [(3, .int ((o_draw v1 (vs 10) 98) - (o_draw v1 (vs 10) 98) / 10 * 10)), (0, .ref (ad 0)), (1, .int v1), (2, .ref (ad (66 + 13 * vn)))]) hx hb dX7_drawSky_13 rfl hl (by decide) rfl (fun ls hl => ?_)
  refine lv_iconst (v := 0) hx hb dX7_drawSky_14 (by decide) ?_
  refine lv_istore (lv' := [(4, .int 0), (3, .int ((o_draw v1 (vs 10) 98) - (o_draw v1 (vs 10) 98) / 10 * 10)), (0, .ref (ad 0)), (1, .int v1), (2, .ref (ad (66 + 13 * vn)))]) hx hb dX7_drawSky_15 hl (by decide) rfl (fun ls hl => ?_)
  refine lv_iconst (v := 0) hx hb dX7_drawSky_17 (by decide) ?_
  refine lv_istore (lv' := [(5, .int 0), (4, .int 0), (3, .int ((o_draw v1 (vs 10) 98) - (o_draw v1 (vs 10) 98) / 10 * 10)), (0, .ref (ad 0)), (1, .int v1), (2, .ref (ad (66 + 13 * vn)))]) hx hb dX7_drawSky_18 hl (by decide) rfl (fun ls hl => ?_)
  have rest_20 : ∀ (x4_20 : Int32), ∀ (ls : Array Slot), lv_has ls 6 [] → (o_drawSky vs pl v1) = o_drawSky_k20 → W p l e ({ frames := 2, cells := 0, slots := 0, locals := 43 } : Room) s m args below meth c s.heap [] 0 0 (MQ below (kR (some (.int (o_drawSky vs pl v1)))) args s 0 0 (fun _ => False)) (F0 m 59 ls []) := by
    intro x4_20 ls hl  hF_20
    refine lv_iconst (v := 2) hx hb dX7_drawSky_59 (by decide) ?_
    have hE : (o_drawSky vs pl v1) = 2 := hF_20.trans (by rw [o_drawSky_k20])
    exact W.iret (v := 2) hx hb hr (fun t ht hW => ⟨by rw [hE], ht⟩) (fun _ h => absurd h List.not_mem_nil) dX7_drawSky_60 hlocks
  have loop_20 : ∀ (n_20 i_20 : Nat) (x4_20 : Int32), i_20 + n_20 = 3 → ∀ (ls : Array Slot), lv_has ls 6 [(0, .ref (ad 0)), (2, .ref (ad (66 + 13 * vn))), (3, .int ((o_draw v1 (vs 10) 98) - (o_draw v1 (vs 10) 98) / 10 * 10)), (4, .int x4_20), (5, .int (nI i_20))] → (o_drawSky vs pl v1) = (o_drawSky_L20 vs pl ((o_draw v1 (vs 10) 98) - (o_draw v1 (vs 10) 98) / 10 * 10) n_20 i_20 x4_20) → W p l e ({ frames := 2, cells := 0, slots := 0, locals := 43 } : Room) s m args below meth c s.heap [] 0 0 (MQ below (kR (some (.int (o_drawSky vs pl v1)))) args s 0 0 (fun _ => False)) (F0 m 20 ls []) := by
    intro n_20
    induction n_20 with
    | zero =>
      intro i_20 x4_20 hin_20 ls hl  hk_20
      refine lv_iload hx hb dX7_drawSky_20 (lv_at hl 4 rfl) ?_
      refine lv_iconst (v := 3) hx hb dX7_drawSky_22 (by decide) ?_
      refine lv_icmp_ge (tgt := 59) hx hb dX7_drawSky_23 (by decide) (fun _ => ?_) (fun c_3 => absurd (kct_ge (N := 3) rfl (by omega) (by omega)) c_3)
      exact rest_20 x4_20 _ (lv_sub hl [] rfl)  (hk_20.trans (by rw [o_drawSky_L20.eq_1]))
    | succ n_20 ih_20 =>
      intro i_20 x4_20 hin_20 ls hl  hk_20
      refine lv_iload hx hb dX7_drawSky_20 (lv_at hl 4 rfl) ?_
      refine lv_iconst (v := 3) hx hb dX7_drawSky_22 (by decide) ?_
      refine lv_icmp_ge (tgt := 59) hx hb dX7_drawSky_23 (by decide) (fun c_4 => absurd c_4 (kct_lt (N := 3) rfl (by omega))) (fun _ => ?_)
      refine lv_iload hx hb dX7_drawSky_26 (lv_at hl 3 rfl) ?_
      refine lv_aload_n hx hb dX7_drawSky_28 rfl (lv_at hl 0 rfl) ?_
      refine k_get (q0 := 0) (ci := 6) (v := .ref (ad 16)) hx hb hts inT_X7 hown hK hP (wM (k := 0) (by decide) rfl) rfl 2 (by decide) rfl kX7_28 rfl dX7_drawSky_29 ?_
      refine lv_aload_n hx hb dX7_drawSky_32 rfl (lv_at hl 1 rfl) ?_
      refine k_getN (q0 := 66 + 13 * vn) (ci := 5) (v := .int (vs 11)) hx hb hts hN inT_X6 hown hK hP (xV (v := vn) hv hvs) rfl 11 (by decide) rfl kX7_157 rfl dX7_drawSky_33 ?_
      refine lv_iload hx hb dX7_drawSky_36 (lv_at hl 4 rfl) ?_
      refine k_rV (v := .int (p_tenthsOfNext pl (vs 11) (nI i_20))) (As := [.int (vs 11), .int (nI i_20)]) (rest := [.int x4_20]) hx hb hml hown hts hl.1 hP hK hN (c_p_tenthsOfNext (pn := 0) (VL := VL) (VS := VS) (PL := PL) (PS := PS) (pl := pl) (ps := ps) hI (by decide) hpl hps (vs 11) (nI i_20)) eX7_288 (ci := 0) (q0 := 16 + 25 * 0) rfl rfl (xP (p := 0) (by decide) hps) rfl rfl (Nat.le_of_ble_eq_true rfl) ⟨Nat.le_of_ble_eq_true rfl, Nat.le_of_ble_eq_true rfl⟩ ⟨rfl, rfl⟩ ⟨Nat.le_of_ble_eq_true rfl, Nat.le_of_ble_eq_true rfl⟩ dX7_drawSky_38 ?_
      refine lv_iadd hx hb dX7_drawSky_41 ?_
      refine lv_istore (lv' := [(4, .int (x4_20 + (p_tenthsOfNext pl (vs 11) (nI i_20)))), (0, .ref (ad 0)), (2, .ref (ad (66 + 13 * vn))), (3, .int ((o_draw v1 (vs 10) 98) - (o_draw v1 (vs 10) 98) / 10 * 10)), (5, .int (nI i_20))]) hx hb dX7_drawSky_42 hl (by decide) rfl (fun ls hl => ?_)
      refine lv_iload_n hx hb dX7_drawSky_44 rfl (lv_at hl 3 rfl) ?_
      refine lv_iload hx hb dX7_drawSky_45 (lv_at hl 0 rfl) ?_
      refine lv_icmp_ge (tgt := 53) hx hb dX7_drawSky_47 (by decide) (fun c_5 => ?_) (fun c_5 => ?_)
      · refine lv_iinc (v := (nI (i_20 + 1))) (lv' := [(5, .int (nI (i_20 + 1))), (4, .int (x4_20 + (p_tenthsOfNext pl (vs 11) (nI i_20)))), (0, .ref (ad 0)), (2, .ref (ad (66 + 13 * vn))), (3, .int ((o_draw v1 (vs 10) 98) - (o_draw v1 (vs 10) 98) / 10 * 10))]) hx hb dX7_drawSky_53 hl (k := 4) rfl (nI_add _ _) (by decide) rfl (fun ls hl => ?_)
        refine lv_goto (tgt := 20) hx hb dX7_drawSky_56 (by decide) ?_
        exact ih_20 (i_20 + 1) (x4_20 + (p_tenthsOfNext pl (vs 11) (nI i_20))) (by omega) _ (lv_sub hl [2, 3, 4, 1, 0] rfl)  (hk_20.trans (by rw [o_drawSky_L20.eq_2, if_pos c_5]))
      · refine lv_iload hx hb dX7_drawSky_50 (lv_at hl 4 rfl) ?_
        have hE : (o_drawSky vs pl v1) = (nI i_20) := hk_20.trans (by rw [o_drawSky_L20.eq_2, if_neg c_5])
        exact W.iret (v := (nI i_20)) hx hb hr (fun t ht hW => ⟨by rw [hE], ht⟩) (fun _ h => absurd h List.not_mem_nil) dX7_drawSky_52 hlocks
  exact loop_20 3 0 0 (by omega) _ (lv_sub hl [3, 5, 2, 1, 0] rfl)  (by rw [o_drawSky])
-- X7_worthOf
def o_worthOf_k4 (v2 : Int32) : Int32 := v2
def o_worthOf_L4 (PL : Nat → Nat → Nat → Int32) (PS : Nat → Nat → Int32) (v1 : Int32) : Nat → Nat → Int32 → Int32
  | 0, i, v2 => v2
  | n + 1, i, v2 => if ((v1 >>> ((nI i) &&& 31)) &&& 1) = 1 then o_worthOf_L4 PL PS v1 n (i + 1) (v2 + (p_worthWithLives (PL 0) (PS 0) (nI i))) else o_worthOf_L4 PL PS v1 n (i + 1) v2
def o_worthOf (PL : Nat → Nat → Nat → Int32) (PS : Nat → Nat → Int32) (v1 : Int32) : Int32 := o_worthOf_k4 (o_worthOf_L4 PL PS v1 ((PS 0 0).toNatClampNeg) 0 0)
set_option maxHeartbeats 4000000 in
set_option maxRecDepth 100000 in
theorem c_o_worthOf (hI : kInj ad 183) (v1 : Int32) : Met l yX7_worthOf (.code yX7_worthOf cX7_worthOf 4 (some .int) :: kT) ({ frames := 2, cells := 0, slots := 0, locals := 42 } : Room) (va_Pc [.ref (ad 0), .int v1] (kB (dC, dI) [(cI, .int)] (cws cI ad ML MS PL PS VL VS LL))) (kR (some (.int (o_worthOf PL PS v1)))) 0 0 (fun _ => False) := by
  refine kMet (by decide) (fun p e s m args below meth c ls hx hb hr hml hts hown hlocks hname hargs hB hl => ?_) (Nat.le_of_ble_eq_true rfl)
  obtain ⟨hP, hK, hN⟩ := hB
  have hl : lv_has ls 4 [(0, .ref (ad 0)), (1, .int v1)] := hl
  refine lv_iconst (v := 0) hx hb dX7_worthOf_0 (by decide) ?_
  refine lv_istore_n (lv' := [(2, .int 0), (0, .ref (ad 0)), (1, .int v1)]) hx hb dX7_worthOf_1 rfl hl (by decide) rfl (fun ls hl => ?_)
  refine lv_iconst (v := 0) hx hb dX7_worthOf_2 (by decide) ?_
  refine lv_istore_n (lv' := [(3, .int 0), (2, .int 0), (0, .ref (ad 0)), (1, .int v1)]) hx hb dX7_worthOf_3 rfl hl (by decide) rfl (fun ls hl => ?_)
  have rest_4 : ∀ (x2_4 : Int32), ∀ (ls : Array Slot), lv_has ls 4 [(2, .int x2_4)] → (o_worthOf PL PS v1) = o_worthOf_k4 x2_4 → W p l e ({ frames := 2, cells := 0, slots := 0, locals := 42 } : Room) s m args below meth c s.heap [] 0 0 (MQ below (kR (some (.int (o_worthOf PL PS v1)))) args s 0 0 (fun _ => False)) (F0 m 41 ls []) := by
    intro x2_4 ls hl  hF_4
    refine lv_iload_n hx hb dX7_worthOf_41 rfl (lv_at hl 0 rfl) ?_
    have hE : (o_worthOf PL PS v1) = x2_4 := hF_4.trans (by rw [o_worthOf_k4])
    exact W.iret (v := x2_4) hx hb hr (fun t ht hW => ⟨by rw [hE], ht⟩) (fun _ h => absurd h List.not_mem_nil) dX7_worthOf_42 hlocks
  have hN_4 : ((PS 0 0).toNatClampNeg) < 2 ^ 31 := kcl_lt _
  have loop_4 : ∀ (n_4 i_4 : Nat) (x2_4 : Int32), i_4 + n_4 = (PS 0 0).toNatClampNeg → ∀ (ls : Array Slot), lv_has ls 4 [(0, .ref (ad 0)), (1, .int v1), (2, .int x2_4), (3, .int (nI i_4))] → (∀ (ls : Array Slot), lv_has ls 4 [(2, .int (o_worthOf_L4 PL PS v1 n_4 i_4 x2_4))] → W p l e ({ frames := 2, cells := 0, slots := 0, locals := 42 } : Room) s m args below meth c s.heap [] 0 0 (MQ below (kR (some (.int (o_worthOf PL PS v1)))) args s 0 0 (fun _ => False)) (F0 m 41 ls [])) → W p l e ({ frames := 2, cells := 0, slots := 0, locals := 42 } : Room) s m args below meth c s.heap [] 0 0 (MQ below (kR (some (.int (o_worthOf PL PS v1)))) args s 0 0 (fun _ => False)) (F0 m 4 ls []) := by
    intro n_4
    induction n_4 with
    | zero =>
      intro i_4 x2_4 hin_4 ls hl  hk_4
      refine lv_iload_n hx hb dX7_worthOf_4 rfl (lv_at hl 3 rfl) ?_
      refine lv_aload_n hx hb dX7_worthOf_5 rfl (lv_at hl 0 rfl) ?_
      refine k_get (q0 := 0) (ci := 6) (v := .ref (ad 16)) hx hb hts inT_X7 hown hK hP (wM (k := 0) (by decide) rfl) rfl 2 (by decide) rfl kX7_28 rfl dX7_worthOf_6 ?_
      refine k_getN (q0 := 16 + 25 * 0) (ci := 0) (v := .int (PS 0 0)) hx hb hts hN inT_X0 hown hK hP (xP (p := 0) (by decide) rfl) rfl 0 (by decide) rfl kX7_114 rfl dX7_worthOf_9 ?_
      refine lv_icmp_ge (tgt := 41) hx hb dX7_worthOf_12 (by decide) (fun _ => ?_) (fun c_3 => absurd (kct_ge (N := (PS 0 0).toNatClampNeg) rfl (by omega) (by omega)) c_3)
      have hL_4 : (o_worthOf_L4 PL PS v1 0 i_4 x2_4) = x2_4 := by rw [o_worthOf_L4.eq_1]
      try rw [hL_4] at hk_4
      exact hk_4 _ (lv_sub hl [2] rfl) 
    | succ n_4 ih_4 =>
      intro i_4 x2_4 hin_4 ls hl  hk_4
      refine lv_iload_n hx hb dX7_worthOf_4 rfl (lv_at hl 3 rfl) ?_
      refine lv_aload_n hx hb dX7_worthOf_5 rfl (lv_at hl 0 rfl) ?_
      refine k_get (q0 := 0) (ci := 6) (v := .ref (ad 16)) hx hb hts inT_X7 hown hK hP (wM (k := 0) (by decide) rfl) rfl 2 (by decide) rfl kX7_28 rfl dX7_worthOf_6 ?_
      refine k_getN (q0 := 16 + 25 * 0) (ci := 0) (v := .int (PS 0 0)) hx hb hts hN inT_X0 hown hK hP (xP (p := 0) (by decide) rfl) rfl 0 (by decide) rfl kX7_114 rfl dX7_worthOf_9 ?_
      refine lv_icmp_ge (tgt := 41) hx hb dX7_worthOf_12 (by decide) (fun c_4 => absurd c_4 (kct_lt (N := (PS 0 0).toNatClampNeg) rfl (by omega))) (fun _ => ?_)
      refine lv_iload_n hx hb dX7_worthOf_15 rfl (lv_at hl 1 rfl) ?_
      refine lv_iload_n hx hb dX7_worthOf_16 rfl (lv_at hl 3 rfl) ?_
      refine lv_ishr hx hb dX7_worthOf_17 ?_
      refine lv_iconst (v := 1) hx hb dX7_worthOf_18 (by decide) ?_
      refine lv_iand hx hb dX7_worthOf_19 ?_
      refine lv_iconst (v := 1) hx hb dX7_worthOf_20 (by decide) ?_
      refine lv_icmp_ne (tgt := 35) hx hb dX7_worthOf_21 (by decide) (fun c_5 => ?_) (fun c_5 => ?_)
      · refine lv_iinc (v := (nI (i_4 + 1))) (lv' := [(3, .int (nI (i_4 + 1))), (0, .ref (ad 0)), (1, .int v1), (2, .int x2_4)]) hx hb dX7_worthOf_35 hl (k := 3) rfl (nI_add _ _) (by decide) rfl (fun ls hl => ?_)
        refine lv_goto (tgt := 4) hx hb dX7_worthOf_38 (by decide) ?_
        have hL_4 : (o_worthOf_L4 PL PS v1 (n_4 + 1) i_4 x2_4) = (o_worthOf_L4 PL PS v1 n_4 (i_4 + 1) x2_4) := by rw [o_worthOf_L4.eq_2, if_neg c_5]
        try rw [hL_4] at hk_4
        exact ih_4 (i_4 + 1) x2_4 (by omega) _ (lv_sub hl [1, 2, 3, 0] rfl)  hk_4
      · refine lv_iload_n hx hb dX7_worthOf_24 rfl (lv_at hl 2 rfl) ?_
        refine lv_aload_n hx hb dX7_worthOf_25 rfl (lv_at hl 0 rfl) ?_
        refine k_get (q0 := 0) (ci := 6) (v := .ref (ad 16)) hx hb hts inT_X7 hown hK hP (wM (k := 0) (by decide) rfl) rfl 2 (by decide) rfl kX7_28 rfl dX7_worthOf_26 ?_
        refine lv_iload_n hx hb dX7_worthOf_29 rfl (lv_at hl 3 rfl) ?_
        refine k_rV (v := .int (p_worthWithLives (PL 0) (PS 0) (nI i_4))) (As := [.int (nI i_4)]) (rest := [.int x2_4]) hx hb hml hown hts hl.1 hP hK hN (c_p_worthWithLives (pn := 0) (VL := VL) (VS := VS) (PL := PL) (PS := PS) (pl := (PL 0)) (ps := (PS 0)) hI (by decide) rfl rfl (nI i_4)) eX7_307 (ci := 0) (q0 := 16 + 25 * 0) rfl rfl (xP (p := 0) (by decide) rfl) rfl rfl (Nat.le_of_ble_eq_true rfl) ⟨Nat.le_of_ble_eq_true rfl, Nat.le_of_ble_eq_true rfl⟩ ⟨rfl, rfl⟩ ⟨Nat.le_of_ble_eq_true rfl, Nat.le_of_ble_eq_true rfl⟩ dX7_worthOf_30 ?_
        refine lv_iadd hx hb dX7_worthOf_33 ?_
        refine lv_istore_n (lv' := [(2, .int (x2_4 + (p_worthWithLives (PL 0) (PS 0) (nI i_4)))), (0, .ref (ad 0)), (1, .int v1), (3, .int (nI i_4))]) hx hb dX7_worthOf_34 rfl hl (by decide) rfl (fun ls hl => ?_)
        refine lv_iinc (v := (nI (i_4 + 1))) (lv' := [(3, .int (nI (i_4 + 1))), (2, .int (x2_4 + (p_worthWithLives (PL 0) (PS 0) (nI i_4)))), (0, .ref (ad 0)), (1, .int v1)]) hx hb dX7_worthOf_35 hl (k := 3) rfl (nI_add _ _) (by decide) rfl (fun ls hl => ?_)
        refine lv_goto (tgt := 4) hx hb dX7_worthOf_38 (by decide) ?_
        have hL_4 : (o_worthOf_L4 PL PS v1 (n_4 + 1) i_4 x2_4) = (o_worthOf_L4 PL PS v1 n_4 (i_4 + 1) (x2_4 + (p_worthWithLives (PL 0) (PS 0) (nI i_4)))) := by rw [o_worthOf_L4.eq_2, if_pos c_5]
        try rw [hL_4] at hk_4
        exact ih_4 (i_4 + 1) (x2_4 + (p_worthWithLives (PL 0) (PS 0) (nI i_4))) (by omega) _ (lv_sub hl [2, 3, 1, 0] rfl)  hk_4
  exact loop_4 ((PS 0 0).toNatClampNeg) 0 0 (by omega) _ (lv_sub hl [2, 3, 1, 0] rfl)  (fun ls hl  => rest_4 (o_worthOf_L4 PL PS v1 ((PS 0 0).toNatClampNeg) 0 0) _ hl  (by rw [o_worthOf]))

end CLS
