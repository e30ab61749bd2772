section CLS
variable {l : Launch} {dC : Nat → ClassId} {dI : Nat → Nat → Nat} {cI : ClassId} {ad : Nat → Nat} {ML : Nat → Nat → Int32} {MS : Nat → Int32} {PL : Nat → Nat → Nat → Int32} {PS : Nat → Nat → Int32} {VL : Nat → Nat → Nat → Int32} {VS : Nat → Nat → Int32} {LL : Int64} {vn wn pn : Nat} {vl wl pl : Nat → Nat → Int32} {vs wz ps : Nat → Int32}
-- X5_length
def t_length (MS : Nat → Int32) : Int32 := (MS 2)
set_option maxHeartbeats 4000000 in
set_option maxRecDepth 100000 in
theorem c_t_length (hI : kInj ad 183)  : Met l yX5_length (.code yX5_length cX5_length 1 (some .int) :: kT) ({ frames := 0, cells := 0, slots := 0, locals := 0 } : Room) (va_Pc [.ref (ad 1)] (kB (dC, dI) [(cI, .int)] (cws cI ad ML MS PL PS VL VS LL))) (kR (some (.int (t_length MS)))) 0 0 (fun _ => False) := by
  refine kMet (by decide) (fun p e s m args below meth c ls hx hb hr hml hts hown hlocks hname hargs hB hl => ?_) (Nat.le_of_ble_eq_true rfl)
  obtain ⟨hP, hK, hN⟩ := hB
  have hl : lv_has ls 1 [(0, .ref (ad 1))] := hl
  refine lv_aload_n hx hb dX5_length_0 rfl (lv_at hl 0 rfl) ?_
  refine k_get (q0 := 1) (ci := 4) (v := .int (MS 2)) hx hb hts inT_X5 hown hK hP (wM (k := 1) (by decide) rfl) rfl 1 (by decide) rfl kX5_20 rfl dX5_length_1 ?_
  have hE : (t_length MS) = (MS 2) := by rw [t_length]
  exact W.iret (v := (MS 2)) hx hb hr (fun t ht hW => ⟨by rw [hE], ht⟩) (fun _ h => absurd h List.not_mem_nil) dX5_length_4 hlocks
-- X5_append
def t_append (ML : Nat → Nat → Int32) (MS : Nat → Int32) (v1 : Int32) : (Nat → Int32) × Int32 := if 500 ≤ (MS 2) then ((ML 0), (MS 2)) else ((rs 500 (ML 0) (MS 2) v1), ((MS 2) + 1))
set_option maxHeartbeats 4000000 in
set_option maxRecDepth 100000 in
theorem c_t_append (hI : kInj ad 183) (v1 : Int32) : Met l yX5_append (.code yX5_append cX5_append 2 none :: kT) ({ frames := 1, cells := 0, slots := 0, locals := 22 } : Room) (va_Pc [.ref (ad 1), .int v1] (kB (dC, dI) [(cI, .int)] (cws cI ad ML MS PL PS VL VS LL))) (kQ none (kB (dC, dI) [(cI, .int)] (cws cI ad (va_up ML 0 ((t_append ML MS v1).1)) (va_up MS 2 ((t_append ML MS v1).2)) PL PS VL VS LL)) (kAA ad 183)) 0 0 (kAA ad 183) := by
  refine kMet (by decide) (fun p e s m args below meth c ls hx hb hr hml hts hown hlocks hname hargs hB hl => ?_) (Nat.le_of_ble_eq_true rfl)
  obtain ⟨hP, hK, hN⟩ := hB
  have hl : lv_has ls 2 [(0, .ref (ad 1)), (1, .int v1)] := hl
  have hS : va_S (kAA ad 183) s.heap s.heap [] := va_S.rf
  refine lv_aload_n hx hb dX5_append_0 rfl (lv_at hl 0 rfl) ?_
  refine k_get (q0 := 1) (ci := 4) (v := .int (MS 2)) hx hb hts inT_X5 hown hK hP (wM (k := 1) (by decide) rfl) rfl 1 (by decide) rfl kX5_20 rfl dX5_append_1 ?_
  refine lv_sipush (v := 500) hx hb dX5_append_4 (by decide) ?_
  refine lv_icmp_ge (tgt := 32) hx hb dX5_append_7 (by decide) (fun c_2 => ?_) (fun c_2 => ?_)
  · have hE : (t_append ML MS v1) = ((ML 0), (MS 2)) := by rw [t_append, if_pos c_2]
    exact W.vret hx hb hr (fun t ht hW => ⟨rfl, by rw [hE]; exact kB.of (ws := cws cI ad (va_up ML 0 (ML 0)) (va_up MS 2 (MS 2)) PL PS VL VS LL) (cws_cg (va_ad rfl rfl) (va_ad rfl rfl) rfl rfl rfl rfl hP) hK hN ht hW, hS.F ht⟩) hS.2.2 dX5_append_32 hlocks
  · refine lv_aload_n hx hb dX5_append_10 rfl (lv_at hl 0 rfl) ?_
    refine k_get (q0 := 1) (ci := 4) (v := .ref (ad 4)) hx hb hts inT_X5 hown hK hP (wM (k := 1) (by decide) rfl) rfl 0 (by decide) rfl kX5_14 rfl dX5_append_11 ?_
    refine lv_aload_n hx hb dX5_append_14 rfl (lv_at hl 0 rfl) ?_
    refine k_get (q0 := 1) (ci := 4) (v := .int (MS 2)) hx hb hts inT_X5 hown hK hP (wM (k := 1) (by decide) rfl) rfl 1 (by decide) rfl kX5_20 rfl dX5_append_15 ?_
    refine lv_iload_n hx hb dX5_append_18 rfl (lv_at hl 1 rfl) ?_
    refine k_wV (ws' := cws cI ad (va_up ML 0 (rs 500 (ML 0) (MS 2) v1)) MS PL PS VL VS LL) (r := none) (As := [.int (MS 2), .int v1]) (rest := []) hx hb hml hown hts hl.1 hP hK hN hS (c_rs (f := (ML 0)) (n := 500) (wM (k := 4) (by decide) rfl) (xMa (m := 0) (by decide) rfl rfl) (by decide) (cwsD hI) (MS 2) v1 (yMl (m := 0) (by decide) rfl rfl)) eX5_24 (ci := 2) (q0 := 4) rfl rfl (wM (k := 4) (by decide) rfl) rfl rfl (Nat.le_of_ble_eq_true rfl) ⟨Nat.le_of_ble_eq_true rfl, Nat.le_of_ble_eq_true rfl⟩ ⟨rfl, rfl⟩ ⟨Nat.le_of_ble_eq_true rfl, Nat.le_of_ble_eq_true rfl⟩ dX5_append_19 (fun H locs hP hS => ?_)
    refine lv_aload_n hx hb dX5_append_22 rfl (lv_at hl 0 rfl) ?_
    refine lv_dup hx hb dX5_append_23 rfl ?_
    refine k_get (q0 := 1) (ci := 4) (v := .int (MS 2)) hx hb hts inT_X5 hown hK hP (wM (k := 1) (by decide) rfl) rfl 1 (by decide) rfl kX5_20 rfl dX5_append_24 ?_
    refine lv_iconst (v := 1) hx hb dX5_append_27 (by decide) ?_
    refine lv_iadd hx hb dX5_append_28 ?_
    refine k_put (q0 := 1) (ci := 4) (ty := .int) (ws' := cws cI ad (va_up ML 0 (rs 500 (ML 0) (MS 2) v1)) (va_up MS 2 ((MS 2) + 1)) PL PS VL VS LL) hx hb hts inT_X5 tyX5 tyX5_ok nmX5 hown hK hP (cwsD hI) hS (wM (k := 1) (by decide) rfl) rfl 1 (by decide) rfl kX5_20 rfl (by decide +kernel) rfl rfl (Nat.le_of_ble_eq_true rfl) (yMs2 rfl) dX5_append_29 (fun H locs hP hS => ?_)
    have hE : (t_append ML MS v1) = ((rs 500 (ML 0) (MS 2) v1), ((MS 2) + 1)) := by rw [t_append, if_neg c_2]
    exact W.vret hx hb hr (fun t ht hW => ⟨rfl, by rw [hE]; exact kB.of (ws := cws cI ad (va_up ML 0 (rs 500 (ML 0) (MS 2) v1)) (va_up MS 2 ((MS 2) + 1)) PL PS VL VS LL) hP hK hN ht hW, hS.F ht⟩) hS.2.2 dX5_append_32 hlocks
-- X5_clear
def t_clear  : Int32 := 0
set_option maxHeartbeats 4000000 in
set_option maxRecDepth 100000 in
theorem c_t_clear (hI : kInj ad 183)  : Met l yX5_clear (.code yX5_clear cX5_clear 1 none :: kT) ({ frames := 0, cells := 0, slots := 0, locals := 0 } : Room) (va_Pc [.ref (ad 1)] (kB (dC, dI) [(cI, .int)] (cws cI ad ML MS PL PS VL VS LL))) (kQ none (kB (dC, dI) [(cI, .int)] (cws cI ad ML (va_up MS 2 t_clear) PL PS VL VS LL)) (kAA ad 183)) 0 0 (kAA ad 183) := by
  refine kMet (by decide) (fun p e s m args below meth c ls hx hb hr hml hts hown hlocks hname hargs hB hl => ?_) (Nat.le_of_ble_eq_true rfl)
  obtain ⟨hP, hK, hN⟩ := hB
  have hl : lv_has ls 1 [(0, .ref (ad 1))] := hl
  have hS : va_S (kAA ad 183) s.heap s.heap [] := va_S.rf
  refine lv_aload_n hx hb dX5_clear_0 rfl (lv_at hl 0 rfl) ?_
  refine lv_iconst (v := 0) hx hb dX5_clear_1 (by decide) ?_
  refine k_put (q0 := 1) (ci := 4) (ty := .int) (ws' := cws cI ad ML (va_up MS 2 0) PL PS VL VS LL) hx hb hts inT_X5 tyX5 tyX5_ok nmX5 hown hK hP (cwsD hI) hS (wM (k := 1) (by decide) rfl) rfl 1 (by decide) rfl kX5_20 rfl (by decide +kernel) rfl rfl (Nat.le_of_ble_eq_true rfl) (yMs2 rfl) dX5_clear_2 (fun H locs hP hS => ?_)
  have hE : t_clear = 0 := by rw [t_clear]
  exact W.vret hx hb hr (fun t ht hW => ⟨rfl, by rw [hE]; exact kB.of (ws := cws cI ad ML (va_up MS 2 0) PL PS VL VS LL) hP hK hN ht hW, hS.F ht⟩) hS.2.2 dX5_clear_5 hlocks
-- X5_byteAt
def t_byteAt (ML : Nat → Nat → Int32) (MS : Nat → Int32) (v1 : Int32) : Int32 := if v1 < 0 then (-1) else (if (MS 2) ≤ v1 then (-1) else (rg 500 (ML 0) v1))
set_option maxHeartbeats 4000000 in
set_option maxRecDepth 100000 in
theorem c_t_byteAt (hI : kInj ad 183) (v1 : Int32) : Met l yX5_byteAt (.code yX5_byteAt cX5_byteAt 2 (some .int) :: kT) ({ frames := 1, cells := 0, slots := 0, locals := 21 } : Room) (va_Pc [.ref (ad 1), .int v1] (kB (dC, dI) [(cI, .int)] (cws cI ad ML MS PL PS VL VS LL))) (kR (some (.int (t_byteAt ML MS v1)))) 0 0 (fun _ => False) := by
  refine kMet (by decide) (fun p e s m args below meth c ls hx hb hr hml hts hown hlocks hname hargs hB hl => ?_) (Nat.le_of_ble_eq_true rfl)
  obtain ⟨hP, hK, hN⟩ := hB
  have hl : lv_has ls 2 [(0, .ref (ad 1)), (1, .int v1)] := hl
  refine lv_iload_n hx hb dX5_byteAt_0 rfl (lv_at hl 1 rfl) ?_
  refine lv_if_lt (tgt := 23) hx hb dX5_byteAt_1 (by decide) (fun c_3 => ?_) (fun c_3 => ?_)
  · refine lv_iconst (v := (-1)) hx hb dX5_byteAt_23 (by decide) ?_
    have hE : (t_byteAt ML MS v1) = (-1) := by rw [t_byteAt, if_pos c_3]
    exact W.iret (v := (-1)) hx hb hr (fun t ht hW => ⟨by rw [hE], ht⟩) (fun _ h => absurd h List.not_mem_nil) dX5_byteAt_24 hlocks
  · refine lv_iload_n hx hb dX5_byteAt_4 rfl (lv_at hl 1 rfl) ?_
    refine lv_aload_n hx hb dX5_byteAt_5 rfl (lv_at hl 0 rfl) ?_
    refine k_get (q0 := 1) (ci := 4) (v := .int (MS 2)) hx hb hts inT_X5 hown hK hP (wM (k := 1) (by decide) rfl) rfl 1 (by decide) rfl kX5_20 rfl dX5_byteAt_6 ?_
    refine lv_icmp_ge (tgt := 23) hx hb dX5_byteAt_9 (by decide) (fun c_4 => ?_) (fun c_4 => ?_)
    · refine lv_iconst (v := (-1)) hx hb dX5_byteAt_23 (by decide) ?_
      have hE : (t_byteAt ML MS v1) = (-1) := by rw [t_byteAt, if_neg c_3, if_pos c_4]
      exact W.iret (v := (-1)) hx hb hr (fun t ht hW => ⟨by rw [hE], ht⟩) (fun _ h => absurd h List.not_mem_nil) dX5_byteAt_24 hlocks
    · refine lv_aload_n hx hb dX5_byteAt_12 rfl (lv_at hl 0 rfl) ?_
      refine k_get (q0 := 1) (ci := 4) (v := .ref (ad 4)) hx hb hts inT_X5 hown hK hP (wM (k := 1) (by decide) rfl) rfl 0 (by decide) rfl kX5_14 rfl dX5_byteAt_13 ?_
      refine lv_iload_n hx hb dX5_byteAt_16 rfl (lv_at hl 1 rfl) ?_
      refine k_rV (v := .int (rg 500 (ML 0) v1)) (As := [.int v1]) (rest := []) hx hb hml hown hts hl.1 hP hK hN (c_rg (f := (ML 0)) (n := 500) (wM (k := 4) (by decide) rfl) (xMa (m := 0) (by decide) rfl rfl) (by decide) v1) eX5_28 (ci := 2) (q0 := 4) rfl rfl (wM (k := 4) (by decide) rfl) rfl rfl (Nat.le_of_ble_eq_true rfl) ⟨Nat.le_of_ble_eq_true rfl, Nat.le_of_ble_eq_true rfl⟩ ⟨rfl, rfl⟩ ⟨Nat.le_of_ble_eq_true rfl, Nat.le_of_ble_eq_true rfl⟩ dX5_byteAt_17 ?_
      refine lv_goto (tgt := 24) hx hb dX5_byteAt_20 (by decide) ?_
      have hE : (t_byteAt ML MS v1) = (rg 500 (ML 0) v1) := by rw [t_byteAt, if_neg c_3, if_neg c_4]
      exact W.iret (v := (rg 500 (ML 0) v1)) hx hb hr (fun t ht hW => ⟨by rw [hE], ht⟩) (fun _ h => absurd h List.not_mem_nil) dX5_byteAt_24 hlocks

end CLS
