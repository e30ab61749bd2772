section CLS
variable {l : Launch} {dC : Nat → ClassId} {dI : Nat → Nat → Nat} {cI : ClassId} {ad : Nat → Nat} {ML : Nat → Nat → Int32} {MS : Nat → Int32} {PL : Nat → Nat → Nat → Int32} {PS : Nat → Nat → Int32} {VL : Nat → Nat → Nat → Int32} {VS : Nat → Nat → Int32} {LL : Int64} {vn pn : Nat} {vl pl : Nat → Nat → Int32} {vs ps : Nat → Int32}
-- X0_setChain
def p_setChain (pl : Nat → Nat → Int32) (v1 : Int32) (v2 : Int32) (v3 : Int32) (v4 : Int32) : (Nat → Int32) := (rs 9 (rs 9 (rs 9 (pl 12) (3 * v1) v2) ((3 * v1) + 1) v3) ((3 * v1) + 2) v4)
set_option maxHeartbeats 4000000 in
set_option maxRecDepth 100000 in
theorem c_p_setChain (hI : kInj ad 183) (hp : pn < 2) (hpl : PL pn = pl) (hps : PS pn = ps) (v1 : Int32) (v2 : Int32) (v3 : Int32) (v4 : Int32) : Met l yX0_setChain (.code yX0_setChain cX0_setChain 5 none :: kT) ({ frames := 1, cells := 0, slots := 0, locals := 22 } : Room) (va_Pc [.ref (ad (16 + 25 * pn)), .int v1, .int v2, .int v3, .int v4] (kB (dC, dI) [(cI, .int)] (cws cI ad ML MS PL PS VL VS LL))) (kQ none (kB (dC, dI) [(cI, .int)] (cws cI ad ML MS (va_up PL pn (va_up pl 12 (p_setChain pl v1 v2 v3 v4))) PS VL VS LL)) (kAA ad 183)) 0 0 (kAA ad 183) := by
  refine kMet (by decide) (fun p e s m args below meth c ls hx hb hr hml hts hown hlocks hname hargs hB hl => ?_) (Nat.le_of_ble_eq_true rfl)
  obtain ⟨hP, hK, hN⟩ := hB
  have hl : lv_has ls 5 [(0, .ref (ad (16 + 25 * pn))), (1, .int v1), (2, .int v2), (3, .int v3), (4, .int v4)] := hl
  have hS : va_S (kAA ad 183) s.heap s.heap [] := va_S.rf
  refine lv_aload_n hx hb dX0_setChain_0 rfl (lv_at hl 0 rfl) ?_
  refine k_get (q0 := 16 + 25 * pn) (ci := 0) (v := .ref (ad (16 + 25 * pn + 23))) hx hb hts inT_X0 hown hK hP (xP hp hps) rfl 12 (by decide) rfl kX0_50 rfl dX0_setChain_1 ?_
  refine lv_iconst (v := 3) hx hb dX0_setChain_4 (by decide) ?_
  refine lv_iload_n hx hb dX0_setChain_5 rfl (lv_at hl 1 rfl) ?_
  refine lv_imul hx hb dX0_setChain_6 ?_
  refine lv_iload_n hx hb dX0_setChain_7 rfl (lv_at hl 2 rfl) ?_
  refine k_wV (ws' := cws cI ad ML MS (va_up PL pn (va_up pl 12 (rs 9 (pl 12) (3 * v1) v2))) PS VL VS LL) (r := none) (As := [.int (3 * v1), .int v2]) (rest := []) hx hb hml hown hts hl.1 hP hK hN hS (c_rs (f := (pl 12)) (n := 9) (wPo hp 23 (by decide) (by decide)) (xPa hp hpl 23 (by decide) (by decide) rfl rfl) (by decide) (cwsD hI) (3 * v1) v2 (yPl hp 23 (by decide) (by decide) hpl (fun _ => rfl) rfl)) eX0_103 (ci := 2) (q0 := 16 + 25 * pn + 23) rfl rfl (wPo hp 23 (by decide) (by decide)) rfl rfl (Nat.le_of_ble_eq_true rfl) ⟨Nat.le_of_ble_eq_true rfl, Nat.le_of_ble_eq_true rfl⟩ ⟨rfl, rfl⟩ ⟨Nat.le_of_ble_eq_true rfl, Nat.le_of_ble_eq_true rfl⟩ dX0_setChain_8 (fun H locs hP hS => ?_)
  refine lv_aload_n hx hb dX0_setChain_11 rfl (lv_at hl 0 rfl) ?_
  refine k_get (q0 := 16 + 25 * pn) (ci := 0) (v := .ref (ad (16 + 25 * pn + 23))) hx hb hts inT_X0 hown hK hP (xP hp hps) rfl 12 (by decide) rfl kX0_50 rfl dX0_setChain_12 ?_
  refine lv_iconst (v := 3) hx hb dX0_setChain_15 (by decide) ?_
  refine lv_iload_n hx hb dX0_setChain_16 rfl (lv_at hl 1 rfl) ?_
  refine lv_imul hx hb dX0_setChain_17 ?_
  refine lv_iconst (v := 1) hx hb dX0_setChain_18 (by decide) ?_
  refine lv_iadd hx hb dX0_setChain_19 ?_
  refine lv_iload_n hx hb dX0_setChain_20 rfl (lv_at hl 3 rfl) ?_
  refine k_wV (ws' := cws cI ad ML MS (va_up PL pn (va_up (va_up pl 12 (rs 9 (pl 12) (3 * v1) v2)) 12 (rs 9 (rs 9 (pl 12) (3 * v1) v2) ((3 * v1) + 1) v3))) PS VL VS LL) (r := none) (As := [.int ((3 * v1) + 1), .int v3]) (rest := []) hx hb hml hown hts hl.1 hP hK hN hS (c_rs (f := (rs 9 (pl 12) (3 * v1) v2)) (n := 9) (wPo hp 23 (by decide) (by decide)) (xPa hp (va_up_self _ _ _) 23 (by decide) (by decide) rfl rfl) (by decide) (cwsD hI) ((3 * v1) + 1) v3 (yPl hp 23 (by decide) (by decide) (va_up_self _ _ _) (fun _ => va_uu _ _ _ _) rfl)) eX0_103 (ci := 2) (q0 := 16 + 25 * pn + 23) rfl rfl (wPo hp 23 (by decide) (by decide)) rfl rfl (Nat.le_of_ble_eq_true rfl) ⟨Nat.le_of_ble_eq_true rfl, Nat.le_of_ble_eq_true rfl⟩ ⟨rfl, rfl⟩ ⟨Nat.le_of_ble_eq_true rfl, Nat.le_of_ble_eq_true rfl⟩ dX0_setChain_21 (fun H locs hP hS => ?_)
  have hP : va_P (dC, dI) vwCl (cws cI ad ML MS (va_up PL pn (va_up pl 12 (rs 9 (rs 9 (pl 12) (3 * v1) v2) ((3 * v1) + 1) v3))) PS VL VS LL) H := (cP_conv hp (by first | exact hpl | exact va_up_self _ _ _) (by first | exact hpl | exact va_up_self _ _ _) (by first | exact hps | exact va_up_self _ _ _) (by first | exact hps | exact va_up_self _ _ _) (by intro u hu; first | rfl | simp only [va_up_ne _ _ hu]) (by intro u hu; first | rfl | simp only [va_up_ne _ _ hu]) (by rfl) (by rfl) (by rfl) (by rfl) (by rfl) (by rfl) (by rfl) (by rfl) (by rfl) (by rfl) (by rfl) (by rfl) (by rfl) (by rfl) (by rfl) (by rfl) (by rfl) (by rfl) (by rfl) (by rfl) hP)
  refine lv_aload_n hx hb dX0_setChain_24 rfl (lv_at hl 0 rfl) ?_
  refine k_get (q0 := 16 + 25 * pn) (ci := 0) (v := .ref (ad (16 + 25 * pn + 23))) hx hb hts inT_X0 hown hK hP (xP hp hps) rfl 12 (by decide) rfl kX0_50 rfl dX0_setChain_25 ?_
  refine lv_iconst (v := 3) hx hb dX0_setChain_28 (by decide) ?_
  refine lv_iload_n hx hb dX0_setChain_29 rfl (lv_at hl 1 rfl) ?_
  refine lv_imul hx hb dX0_setChain_30 ?_
  refine lv_iconst (v := 2) hx hb dX0_setChain_31 (by decide) ?_
  refine lv_iadd hx hb dX0_setChain_32 ?_
  refine lv_iload hx hb dX0_setChain_33 (lv_at hl 4 rfl) ?_
  refine k_wV (ws' := cws cI ad ML MS (va_up PL pn (va_up (va_up pl 12 (rs 9 (rs 9 (pl 12) (3 * v1) v2) ((3 * v1) + 1) v3)) 12 (rs 9 (rs 9 (rs 9 (pl 12) (3 * v1) v2) ((3 * v1) + 1) v3) ((3 * v1) + 2) v4))) PS VL VS LL) (r := none) (As := [.int ((3 * v1) + 2), .int v4]) (rest := []) hx hb hml hown hts hl.1 hP hK hN hS (c_rs (f := (rs 9 (rs 9 (pl 12) (3 * v1) v2) ((3 * v1) + 1) v3)) (n := 9) (wPo hp 23 (by decide) (by decide)) (xPa hp (va_up_self _ _ _) 23 (by decide) (by decide) rfl rfl) (by decide) (cwsD hI) ((3 * v1) + 2) v4 (yPl hp 23 (by decide) (by decide) (va_up_self _ _ _) (fun _ => va_uu _ _ _ _) rfl)) eX0_103 (ci := 2) (q0 := 16 + 25 * pn + 23) rfl rfl (wPo hp 23 (by decide) (by decide)) rfl rfl (Nat.le_of_ble_eq_true rfl) ⟨Nat.le_of_ble_eq_true rfl, Nat.le_of_ble_eq_true rfl⟩ ⟨rfl, rfl⟩ ⟨Nat.le_of_ble_eq_true rfl, Nat.le_of_ble_eq_true rfl⟩ dX0_setChain_35 (fun H locs hP hS => ?_)
  have hP : va_P (dC, dI) vwCl (cws cI ad ML MS (va_up PL pn (va_up pl 12 (rs 9 (rs 9 (rs 9 (pl 12) (3 * v1) v2) ((3 * v1) + 1) v3) ((3 * v1) + 2) v4))) PS VL VS LL) H := (cP_conv hp (by first | exact hpl | exact va_up_self _ _ _) (by first | exact hpl | exact va_up_self _ _ _) (by first | exact hps | exact va_up_self _ _ _) (by first | exact hps | exact va_up_self _ _ _) (by intro u hu; first | rfl | simp only [va_up_ne _ _ hu]) (by intro u hu; first | rfl | simp only [va_up_ne _ _ hu]) (by rfl) (by rfl) (by rfl) (by rfl) (by rfl) (by rfl) (by rfl) (by rfl) (by rfl) (by rfl) (by rfl) (by rfl) (by rfl) (by rfl) (by rfl) (by rfl) (by rfl) (by rfl) (by rfl) (by rfl) hP)
  have hE : (p_setChain pl v1 v2 v3 v4) = (rs 9 (rs 9 (rs 9 (pl 12) (3 * v1) v2) ((3 * v1) + 1) v3) ((3 * v1) + 2) v4) := by rw [p_setChain]
  exact W.vret hx hb hr (fun t ht hW => ⟨rfl, by rw [hE]; exact kB.of (ws := cws cI ad ML MS (va_up PL pn (va_up pl 12 (rs 9 (rs 9 (rs 9 (pl 12) (3 * v1) v2) ((3 * v1) + 1) v3) ((3 * v1) + 2) v4))) PS VL VS LL) hP hK hN ht hW, hS.F ht⟩) hS.2.2 dX0_setChain_38 hlocks
end CLS
