section CLS
variable {l : Launch} {dC : Nat → ClassId} {dI : Nat → Nat → Nat} {cI : ClassId} {ad : Nat → Nat} {ML : Nat → Nat → Int32} {MS : Nat → Int32} {PL : Nat → Nat → Nat → Int32} {PS : Nat → Nat → Int32} {VL : Nat → Nat → Nat → Int32} {VS : Nat → Nat → Int32} {LL : Int64} {vn wn pn : Nat} {vl wl pl : Nat → Nat → Int32} {vs wz ps : Nat → Int32}
-- X0_allBearings
def p_allBearings (pl : Nat → Nat → Int32) (v1 : Int32) : Int32 := ((1 <<< ((rg 8 (pl 7) v1) &&& 31)) - 1)
set_option maxHeartbeats 4000000 in
set_option maxRecDepth 100000 in
theorem c_p_allBearings (hI : kInj ad 183) (hp : pn < 2) (hpl : PL pn = pl) (hps : PS pn = ps) (v1 : Int32) : Met l yX0_allBearings (.code yX0_allBearings cX0_allBearings 2 (some .int) :: kT) ({ frames := 1, cells := 0, slots := 0, locals := 21 } : Room) (va_Pc [.ref (ad (16 + 25 * pn)), .int v1] (kB (dC, dI) [(cI, .int)] (cws cI ad ML MS PL PS VL VS LL))) (kR (some (.int (p_allBearings pl v1)))) 0 0 (fun _ => False) := by
  refine kMet (by decide) (fun p e s m args below meth c ls hx hb hr hml hts hown hlocks hname hargs hB hl => ?_) (Nat.le_of_ble_eq_true rfl)
  obtain ⟨hP, hK, hN⟩ := hB
  have hl : lv_has ls 2 [(0, .ref (ad (16 + 25 * pn))), (1, .int v1)] := hl
  refine lv_iconst (v := 1) hx hb dX0_allBearings_0 (by decide) ?_
  refine lv_aload_n hx hb dX0_allBearings_1 rfl (lv_at hl 0 rfl) ?_
  refine k_get (q0 := 16 + 25 * pn) (ci := 0) (v := .ref (ad (16 + 25 * pn + 13))) hx hb hts inT_X0 hown hK hP (xP (p := pn) hp hps) rfl 7 (by decide) rfl kX0_35 rfl dX0_allBearings_2 ?_
  refine lv_iload_n hx hb dX0_allBearings_5 rfl (lv_at hl 1 rfl) ?_
  refine k_rV (v := .int (rg 8 (pl 7) v1)) (As := [.int v1]) (rest := [.int 1]) hx hb hml hown hts hl.1 hP hK hN (c_rg (f := (pl 7)) (n := 8) (wPo (p := pn) hp 13 (by decide) (by decide)) (xPa (p := pn) hp hpl 13 (by decide) (by decide) rfl rfl) (by decide) v1) eX0_95 (ci := 2) (q0 := 16 + 25 * pn + 13) rfl rfl (wPo (p := pn) hp 13 (by decide) (by decide)) rfl rfl (Nat.le_of_ble_eq_true rfl) ⟨Nat.le_of_ble_eq_true rfl, Nat.le_of_ble_eq_true rfl⟩ ⟨rfl, rfl⟩ ⟨Nat.le_of_ble_eq_true rfl, Nat.le_of_ble_eq_true rfl⟩ dX0_allBearings_6 ?_
  refine lv_ishl hx hb dX0_allBearings_9 ?_
  refine lv_iconst (v := 1) hx hb dX0_allBearings_10 (by decide) ?_
  refine lv_isub hx hb dX0_allBearings_11 ?_
  have hE : (p_allBearings pl v1) = ((1 <<< ((rg 8 (pl 7) v1) &&& 31)) - 1) := by rw [p_allBearings]
  exact W.iret (v := ((1 <<< ((rg 8 (pl 7) v1) &&& 31)) - 1)) hx hb hr (fun t ht hW => ⟨by rw [hE], ht⟩) (fun _ h => absurd h List.not_mem_nil) dX0_allBearings_12 hlocks
-- X0_tenthsOf
def p_tenthsOf_k5 (v3 : Int32) : Int32 := v3
def p_tenthsOf_L5 (pl : Nat → Nat → Int32) (v1 : Int32) (v2 : Int32) : Nat → Nat → Int32 → Int32
  | 0, i, v3 => v3
  | n + 1, i, v3 => if ((v2 >>> ((nI i) &&& 31)) &&& 1) = 1 then p_tenthsOf_L5 pl v1 v2 n (i + 1) (v3 + (rg 32 (pl 9) ((v1 * 4) + (nI i)))) else p_tenthsOf_L5 pl v1 v2 n (i + 1) v3
def p_tenthsOf (pl : Nat → Nat → Int32) (v1 : Int32) (v2 : Int32) : Int32 := p_tenthsOf_k5 (p_tenthsOf_L5 pl v1 v2 4 0 0)
set_option maxHeartbeats 4000000 in
set_option maxRecDepth 100000 in
theorem c_p_tenthsOf (hI : kInj ad 183) (hp : pn < 2) (hpl : PL pn = pl) (hps : PS pn = ps) (v1 : Int32) (v2 : Int32) : Met l yX0_tenthsOf (.code yX0_tenthsOf cX0_tenthsOf 5 (some .int) :: kT) ({ frames := 1, cells := 0, slots := 0, locals := 21 } : Room) (va_Pc [.ref (ad (16 + 25 * pn)), .int v1, .int v2] (kB (dC, dI) [(cI, .int)] (cws cI ad ML MS PL PS VL VS LL))) (kR (some (.int (p_tenthsOf pl v1 v2)))) 0 0 (fun _ => False) := by
  refine kMet (by decide) (fun p e s m args below meth c ls hx hb hr hml hts hown hlocks hname hargs hB hl => ?_) (Nat.le_of_ble_eq_true rfl)
  obtain ⟨hP, hK, hN⟩ := hB
  have hl : lv_has ls 5 [(0, .ref (ad (16 + 25 * pn))), (1, .int v1), (2, .int v2)] := hl
  refine lv_iconst (v := 0) hx hb dX0_tenthsOf_0 (by decide) ?_
  refine lv_istore_n (lv' := [(3, .int 0), (0, .ref (ad (16 + 25 * pn))), (1, .int v1), (2, .int v2)]) hx hb dX0_tenthsOf_1 rfl hl (by decide) rfl (fun ls hl => ?_)
  refine lv_iconst (v := 0) hx hb dX0_tenthsOf_2 (by decide) ?_
  refine lv_istore (lv' := [(4, .int 0), (3, .int 0), (0, .ref (ad (16 + 25 * pn))), (1, .int v1), (2, .int v2)]) hx hb dX0_tenthsOf_3 hl (by decide) rfl (fun ls hl => ?_)
  have rest_5 : ∀ (x3_5 : Int32), ∀ (ls : Array Slot), lv_has ls 5 [(3, .int x3_5)] → (p_tenthsOf pl v1 v2) = p_tenthsOf_k5 x3_5 → W p l e ({ frames := 1, cells := 0, slots := 0, locals := 21 } : Room) s m args below meth c s.heap [] 0 0 (MQ below (kR (some (.int (p_tenthsOf pl v1 v2)))) args s 0 0 (fun _ => False)) (F0 m 43 ls []) := by
    intro x3_5 ls hl  hF_5
    refine lv_iload_n hx hb dX0_tenthsOf_43 rfl (lv_at hl 0 rfl) ?_
    have hE : (p_tenthsOf pl v1 v2) = x3_5 := hF_5.trans (by rw [p_tenthsOf_k5])
    exact W.iret (v := x3_5) hx hb hr (fun t ht hW => ⟨by rw [hE], ht⟩) (fun _ h => absurd h List.not_mem_nil) dX0_tenthsOf_44 hlocks
  have loop_5 : ∀ (n_5 i_5 : Nat) (x3_5 : Int32), i_5 + n_5 = 4 → ∀ (ls : Array Slot), lv_has ls 5 [(0, .ref (ad (16 + 25 * pn))), (1, .int v1), (2, .int v2), (3, .int x3_5), (4, .int (nI i_5))] → (∀ (ls : Array Slot), lv_has ls 5 [(3, .int (p_tenthsOf_L5 pl v1 v2 n_5 i_5 x3_5))] → W p l e ({ frames := 1, cells := 0, slots := 0, locals := 21 } : Room) s m args below meth c s.heap [] 0 0 (MQ below (kR (some (.int (p_tenthsOf pl v1 v2)))) args s 0 0 (fun _ => False)) (F0 m 43 ls [])) → W p l e ({ frames := 1, cells := 0, slots := 0, locals := 21 } : Room) s m args below meth c s.heap [] 0 0 (MQ below (kR (some (.int (p_tenthsOf pl v1 v2)))) args s 0 0 (fun _ => False)) (F0 m 5 ls []) := by
    intro n_5
    induction n_5 with
    | zero =>
      intro i_5 x3_5 hin_5 ls hl  hk_5
      refine lv_iload hx hb dX0_tenthsOf_5 (lv_at hl 4 rfl) ?_
      refine lv_iconst (v := 4) hx hb dX0_tenthsOf_7 (by decide) ?_
      refine lv_icmp_ge (tgt := 43) hx hb dX0_tenthsOf_8 (by decide) (fun _ => ?_) (fun c_3 => absurd (kct_ge (N := 4) rfl (by omega) (by omega)) c_3)
      have hL_5 : (p_tenthsOf_L5 pl v1 v2 0 i_5 x3_5) = x3_5 := by rw [p_tenthsOf_L5.eq_1]
      try rw [hL_5] at hk_5
      exact hk_5 _ (lv_sub hl [3] rfl) 
    | succ n_5 ih_5 =>
      intro i_5 x3_5 hin_5 ls hl  hk_5
      refine lv_iload hx hb dX0_tenthsOf_5 (lv_at hl 4 rfl) ?_
      refine lv_iconst (v := 4) hx hb dX0_tenthsOf_7 (by decide) ?_
      refine lv_icmp_ge (tgt := 43) hx hb dX0_tenthsOf_8 (by decide) (fun c_4 => absurd c_4 (kct_lt (N := 4) rfl (by omega))) (fun _ => ?_)
      refine lv_iload_n hx hb dX0_tenthsOf_11 rfl (lv_at hl 2 rfl) ?_
      refine lv_iload hx hb dX0_tenthsOf_12 (lv_at hl 4 rfl) ?_
      refine lv_ishr hx hb dX0_tenthsOf_14 ?_
      refine lv_iconst (v := 1) hx hb dX0_tenthsOf_15 (by decide) ?_
      refine lv_iand hx hb dX0_tenthsOf_16 ?_
      refine lv_iconst (v := 1) hx hb dX0_tenthsOf_17 (by decide) ?_
      refine lv_icmp_ne (tgt := 37) hx hb dX0_tenthsOf_18 (by decide) (fun c_5 => ?_) (fun c_5 => ?_)
      · refine lv_iinc (v := (nI (i_5 + 1))) (lv' := [(4, .int (nI (i_5 + 1))), (0, .ref (ad (16 + 25 * pn))), (1, .int v1), (2, .int v2), (3, .int x3_5)]) hx hb dX0_tenthsOf_37 hl (k := 4) rfl (nI_add _ _) (by decide) rfl (fun ls hl => ?_)
        refine lv_goto (tgt := 5) hx hb dX0_tenthsOf_40 (by decide) ?_
        have hL_5 : (p_tenthsOf_L5 pl v1 v2 (n_5 + 1) i_5 x3_5) = (p_tenthsOf_L5 pl v1 v2 n_5 (i_5 + 1) x3_5) := by rw [p_tenthsOf_L5.eq_2, if_neg c_5]
        try rw [hL_5] at hk_5
        exact ih_5 (i_5 + 1) x3_5 (by omega) _ (lv_sub hl [1, 2, 3, 4, 0] rfl)  hk_5
      · refine lv_iload_n hx hb dX0_tenthsOf_21 rfl (lv_at hl 3 rfl) ?_
        refine lv_aload_n hx hb dX0_tenthsOf_22 rfl (lv_at hl 0 rfl) ?_
        refine k_get (q0 := 16 + 25 * pn) (ci := 0) (v := .ref (ad (16 + 25 * pn + 17))) hx hb hts inT_X0 hown hK hP (xP (p := pn) hp hps) rfl 9 (by decide) rfl kX0_41 rfl dX0_tenthsOf_23 ?_
        refine lv_iload_n hx hb dX0_tenthsOf_26 rfl (lv_at hl 1 rfl) ?_
        refine lv_iconst (v := 4) hx hb dX0_tenthsOf_27 (by decide) ?_
        refine lv_imul hx hb dX0_tenthsOf_28 ?_
        refine lv_iload hx hb dX0_tenthsOf_29 (lv_at hl 4 rfl) ?_
        refine lv_iadd hx hb dX0_tenthsOf_31 ?_
        refine k_rV (v := .int (rg 32 (pl 9) ((v1 * 4) + (nI i_5)))) (As := [.int ((v1 * 4) + (nI i_5))]) (rest := [.int x3_5]) hx hb hml hown hts hl.1 hP hK hN (c_rg (f := (pl 9)) (n := 32) (wPo (p := pn) hp 17 (by decide) (by decide)) (xPa (p := pn) hp hpl 17 (by decide) (by decide) rfl rfl) (by decide) ((v1 * 4) + (nI i_5))) eX0_95 (ci := 2) (q0 := 16 + 25 * pn + 17) rfl rfl (wPo (p := pn) hp 17 (by decide) (by decide)) rfl rfl (Nat.le_of_ble_eq_true rfl) ⟨Nat.le_of_ble_eq_true rfl, Nat.le_of_ble_eq_true rfl⟩ ⟨rfl, rfl⟩ ⟨Nat.le_of_ble_eq_true rfl, Nat.le_of_ble_eq_true rfl⟩ dX0_tenthsOf_32 ?_
        refine lv_iadd hx hb dX0_tenthsOf_35 ?_
        refine lv_istore_n (lv' := [(3, .int (x3_5 + (rg 32 (pl 9) ((v1 * 4) + (nI i_5))))), (0, .ref (ad (16 + 25 * pn))), (1, .int v1), (2, .int v2), (4, .int (nI i_5))]) hx hb dX0_tenthsOf_36 rfl hl (by decide) rfl (fun ls hl => ?_)
        refine lv_iinc (v := (nI (i_5 + 1))) (lv' := [(4, .int (nI (i_5 + 1))), (3, .int (x3_5 + (rg 32 (pl 9) ((v1 * 4) + (nI i_5))))), (0, .ref (ad (16 + 25 * pn))), (1, .int v1), (2, .int v2)]) hx hb dX0_tenthsOf_37 hl (k := 4) rfl (nI_add _ _) (by decide) rfl (fun ls hl => ?_)
        refine lv_goto (tgt := 5) hx hb dX0_tenthsOf_40 (by decide) ?_
        have hL_5 : (p_tenthsOf_L5 pl v1 v2 (n_5 + 1) i_5 x3_5) = (p_tenthsOf_L5 pl v1 v2 n_5 (i_5 + 1) (x3_5 + (rg 32 (pl 9) ((v1 * 4) + (nI i_5))))) := by rw [p_tenthsOf_L5.eq_2, if_pos c_5]
        try rw [hL_5] at hk_5
        exact ih_5 (i_5 + 1) (x3_5 + (rg 32 (pl 9) ((v1 * 4) + (nI i_5)))) (by omega) _ (lv_sub hl [2, 3, 4, 1, 0] rfl)  hk_5
  exact loop_5 4 0 0 (by omega) _ (lv_sub hl [2, 3, 4, 1, 0] rfl)  (fun ls hl  => rest_5 (p_tenthsOf_L5 pl v1 v2 4 0 0) _ hl  (by rw [p_tenthsOf]))
-- X0_tenthsOfNext
def p_tenthsOfNext (pl : Nat → Nat → Int32) (v1 : Int32) (v2 : Int32) : Int32 := (rg 9 (pl 12) ((3 * v1) + v2))
set_option maxHeartbeats 4000000 in
set_option maxRecDepth 100000 in
theorem c_p_tenthsOfNext (hI : kInj ad 183) (hp : pn < 2) (hpl : PL pn = pl) (hps : PS pn = ps) (v1 : Int32) (v2 : Int32) : Met l yX0_tenthsOfNext (.code yX0_tenthsOfNext cX0_tenthsOfNext 3 (some .int) :: kT) ({ frames := 1, cells := 0, slots := 0, locals := 21 } : Room) (va_Pc [.ref (ad (16 + 25 * pn)), .int v1, .int v2] (kB (dC, dI) [(cI, .int)] (cws cI ad ML MS PL PS VL VS LL))) (kR (some (.int (p_tenthsOfNext pl v1 v2)))) 0 0 (fun _ => False) := by
  refine kMet (by decide) (fun p e s m args below meth c ls hx hb hr hml hts hown hlocks hname hargs hB hl => ?_) (Nat.le_of_ble_eq_true rfl)
  obtain ⟨hP, hK, hN⟩ := hB
  have hl : lv_has ls 3 [(0, .ref (ad (16 + 25 * pn))), (1, .int v1), (2, .int v2)] := hl
  refine lv_aload_n hx hb dX0_tenthsOfNext_0 rfl (lv_at hl 0 rfl) ?_
  refine k_get (q0 := 16 + 25 * pn) (ci := 0) (v := .ref (ad (16 + 25 * pn + 23))) hx hb hts inT_X0 hown hK hP (xP (p := pn) hp hps) rfl 12 (by decide) rfl kX0_50 rfl dX0_tenthsOfNext_1 ?_
  refine lv_iconst (v := 3) hx hb dX0_tenthsOfNext_4 (by decide) ?_
  refine lv_iload_n hx hb dX0_tenthsOfNext_5 rfl (lv_at hl 1 rfl) ?_
  refine lv_imul hx hb dX0_tenthsOfNext_6 ?_
  refine lv_iload_n hx hb dX0_tenthsOfNext_7 rfl (lv_at hl 2 rfl) ?_
  refine lv_iadd hx hb dX0_tenthsOfNext_8 ?_
  refine k_rV (v := .int (rg 9 (pl 12) ((3 * v1) + v2))) (As := [.int ((3 * v1) + v2)]) (rest := []) hx hb hml hown hts hl.1 hP hK hN (c_rg (f := (pl 12)) (n := 9) (wPo (p := pn) hp 23 (by decide) (by decide)) (xPa (p := pn) hp hpl 23 (by decide) (by decide) rfl rfl) (by decide) ((3 * v1) + v2)) eX0_95 (ci := 2) (q0 := 16 + 25 * pn + 23) rfl rfl (wPo (p := pn) hp 23 (by decide) (by decide)) rfl rfl (Nat.le_of_ble_eq_true rfl) ⟨Nat.le_of_ble_eq_true rfl, Nat.le_of_ble_eq_true rfl⟩ ⟨rfl, rfl⟩ ⟨Nat.le_of_ble_eq_true rfl, Nat.le_of_ble_eq_true rfl⟩ dX0_tenthsOfNext_9 ?_
  have hE : (p_tenthsOfNext pl v1 v2) = (rg 9 (pl 12) ((3 * v1) + v2)) := by rw [p_tenthsOfNext]
  exact W.iret (v := (rg 9 (pl 12) ((3 * v1) + v2))) hx hb hr (fun t ht hW => ⟨by rw [hE], ht⟩) (fun _ h => absurd h List.not_mem_nil) dX0_tenthsOfNext_12 hlocks
-- X0_worthWithLives
def p_worthWithLives (pl : Nat → Nat → Int32) (ps : Nat → Int32) (v1 : Int32) : Int32 := ((rg 8 (pl 4) v1) + ((ps 19) * (rg 8 (pl 6) v1)))
set_option maxHeartbeats 4000000 in
set_option maxRecDepth 100000 in
theorem c_p_worthWithLives (hI : kInj ad 183) (hp : pn < 2) (hpl : PL pn = pl) (hps : PS pn = ps) (v1 : Int32) : Met l yX0_worthWithLives (.code yX0_worthWithLives cX0_worthWithLives 2 (some .int) :: kT) ({ frames := 1, cells := 0, slots := 0, locals := 21 } : Room) (va_Pc [.ref (ad (16 + 25 * pn)), .int v1] (kB (dC, dI) [(cI, .int)] (cws cI ad ML MS PL PS VL VS LL))) (kR (some (.int (p_worthWithLives pl ps v1)))) 0 0 (fun _ => False) := by
  refine kMet (by decide) (fun p e s m args below meth c ls hx hb hr hml hts hown hlocks hname hargs hB hl => ?_) (Nat.le_of_ble_eq_true rfl)
  obtain ⟨hP, hK, hN⟩ := hB
  have hl : lv_has ls 2 [(0, .ref (ad (16 + 25 * pn))), (1, .int v1)] := hl
  refine lv_aload_n hx hb dX0_worthWithLives_0 rfl (lv_at hl 0 rfl) ?_
  refine k_get (q0 := 16 + 25 * pn) (ci := 0) (v := .ref (ad (16 + 25 * pn + 7))) hx hb hts inT_X0 hown hK hP (xP (p := pn) hp hps) rfl 4 (by decide) rfl kX0_26 rfl dX0_worthWithLives_1 ?_
  refine lv_iload_n hx hb dX0_worthWithLives_4 rfl (lv_at hl 1 rfl) ?_
  refine k_rV (v := .int (rg 8 (pl 4) v1)) (As := [.int v1]) (rest := []) hx hb hml hown hts hl.1 hP hK hN (c_rg (f := (pl 4)) (n := 8) (wPo (p := pn) hp 7 (by decide) (by decide)) (xPa (p := pn) hp hpl 7 (by decide) (by decide) rfl rfl) (by decide) v1) eX0_95 (ci := 2) (q0 := 16 + 25 * pn + 7) rfl rfl (wPo (p := pn) hp 7 (by decide) (by decide)) rfl rfl (Nat.le_of_ble_eq_true rfl) ⟨Nat.le_of_ble_eq_true rfl, Nat.le_of_ble_eq_true rfl⟩ ⟨rfl, rfl⟩ ⟨Nat.le_of_ble_eq_true rfl, Nat.le_of_ble_eq_true rfl⟩ dX0_worthWithLives_5 ?_
  refine lv_aload_n hx hb dX0_worthWithLives_8 rfl (lv_at hl 0 rfl) ?_
  refine k_get (q0 := 16 + 25 * pn) (ci := 0) (v := .int (ps 19)) hx hb hts inT_X0 hown hK hP (xP (p := pn) hp hps) rfl 19 (by decide) rfl kX0_82 rfl dX0_worthWithLives_9 ?_
  refine lv_aload_n hx hb dX0_worthWithLives_12 rfl (lv_at hl 0 rfl) ?_
  refine k_get (q0 := 16 + 25 * pn) (ci := 0) (v := .ref (ad (16 + 25 * pn + 11))) hx hb hts inT_X0 hown hK hP (xP (p := pn) hp hps) rfl 6 (by decide) rfl kX0_32 rfl dX0_worthWithLives_13 ?_
  refine lv_iload_n hx hb dX0_worthWithLives_16 rfl (lv_at hl 1 rfl) ?_
  refine k_rV (v := .int (rg 8 (pl 6) v1)) (As := [.int v1]) (rest := [.int (ps 19), .int (rg 8 (pl 4) v1)]) hx hb hml hown hts hl.1 hP hK hN (c_rg (f := (pl 6)) (n := 8) (wPo (p := pn) hp 11 (by decide) (by decide)) (xPa (p := pn) hp hpl 11 (by decide) (by decide) rfl rfl) (by decide) v1) eX0_95 (ci := 2) (q0 := 16 + 25 * pn + 11) rfl rfl (wPo (p := pn) hp 11 (by decide) (by decide)) rfl rfl (Nat.le_of_ble_eq_true rfl) ⟨Nat.le_of_ble_eq_true rfl, Nat.le_of_ble_eq_true rfl⟩ ⟨rfl, rfl⟩ ⟨Nat.le_of_ble_eq_true rfl, Nat.le_of_ble_eq_true rfl⟩ dX0_worthWithLives_17 ?_
  refine lv_imul hx hb dX0_worthWithLives_20 ?_
  refine lv_iadd hx hb dX0_worthWithLives_21 ?_
  have hE : (p_worthWithLives pl ps v1) = ((rg 8 (pl 4) v1) + ((ps 19) * (rg 8 (pl 6) v1))) := by rw [p_worthWithLives]
  exact W.iret (v := ((rg 8 (pl 4) v1) + ((ps 19) * (rg 8 (pl 6) v1)))) hx hb hr (fun t ht hW => ⟨by rw [hE], ht⟩) (fun _ h => absurd h List.not_mem_nil) dX0_worthWithLives_22 hlocks

end CLS
