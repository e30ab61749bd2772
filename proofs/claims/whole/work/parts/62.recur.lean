/-! the two recursions along the chain of villages 3 .. 8 -/
def s_goR (PL : Nat → Nat → Nat → Int32) (PS : Nat → Nat → Int32) : Nat → Nat → (Nat → Nat → Int32) → (Nat → Nat → Nat → Int32) → (Nat → Nat → Int32) → Int64 → Int32 → Int32 → Int64 × (Nat → Nat → Int32) × (Nat → Nat → Nat → Int32) × (Nat → Nat → Int32)
  | 0, _ => fun ML VL VS LL _ _ => (LL, ML, VL, VS)
  | k + 1, v => fun ML VL VS LL v2 v3 => s_goOn (s_goR PL PS k (v + 1)) v (v + 1) ML VL VS PL PS LL v2 v3
def o_loR (PL : Nat → Nat → Nat → Int32) (PS : Nat → Nat → Int32) : Nat → Nat → (Nat → Nat → Nat → Int32) → (Nat → Nat → Int32) → Int32 → Int32 → Int64 × (Nat → Nat → Nat → Int32) × (Nat → Nat → Int32)
  | 0, v => fun VL VS _ _ => (v_lossSoFar (VL v) (VS v) (PL 0) (PS 0), VL, VS)
  | k + 1, v => fun VL VS v1 v2 => o_lossOverAll (o_loR PL PS k (v + 1)) v (v + 1) VL VS PL PS v1 v2
section RECUR
variable {l : Launch} {dC : Nat → ClassId} {dI : Nat → Nat → Nat} {cI : ClassId} {ad : Nat → Nat} {MS : Nat → Int32} {PL : Nat → Nat → Nat → Int32} {PS : Nat → Nat → Int32}
set_option maxHeartbeats 1000000 in
theorem c_goR (hI : kInj ad 183) : ∀ (k v : Nat), v + k = 8 → 3 ≤ v → ∀ (ML : Nat → Nat → Int32) (VL : Nat → Nat → Nat → Int32) (VS : Nat → Nat → Int32) (LL : Int64) (v2 v3 : Int32), Met l yX4_goOn (.code yX4_goOn cX4_goOn 8 none :: kT) ({ frames := 5 + k, cells := 0, slots := 0, locals := 113 + 27 * k } : Room) (va_Pc [.ref (ad 3), .ref (ad (66 + 13 * v)), .int v2, .int v3] (kB (dC, dI) [(cI, .int)] (cws cI ad ML MS PL PS VL VS LL))) (kQ none (kB (dC, dI) [(cI, .int)] (cws cI ad (s_goR PL PS k v ML VL VS LL v2 v3).2.1 MS PL PS (s_goR PL PS k v ML VL VS LL v2 v3).2.2.1 (s_goR PL PS k v ML VL VS LL v2 v3).2.2.2 (s_goR PL PS k v ML VL VS LL v2 v3).1)) (kAA ad 183)) 0 0 (kAA ad 183) := by
  intro k
  induction k with
  | zero =>
    intro v hv h3 ML VL VS LL v2 v3
    obtain rfl : v = 8 := by omega
    refine kMet (by decide) (fun p e s m args below meth c ls hx hb hr hml hts hown hlocks hname hargs hB hl => ?_) (Nat.le_of_ble_eq_true rfl)
    obtain ⟨hP, hK, hN⟩ := hB
    have hl : lv_has ls 8 [(0, .ref (ad 3)), (1, .ref (ad (66 + 13 * 8))), (2, .int v2), (3, .int v3)] := hl
    have hS : va_S (kAA ad 183) s.heap s.heap [] := va_S.rf
    refine lv_aload_n hx hb dX4_goOn_0 rfl (lv_at hl 1 rfl) ?_
    refine k_getN (q0 := 66 + 13 * 8) (ci := 5) (v := .null) hx hb hts hN inT_X6 hown hK hP (xV (v := 8) (by decide) rfl) rfl 7 (by decide) rfl kX4_38 (vf7 vnextN) dX4_goOn_1 ?_
    refine lv_astoreN (lv' := [(4, .null), (0, .ref (ad 3)), (1, .ref (ad (66 + 13 * 8))), (2, .int v2), (3, .int v3)]) hx hb dX4_goOn_4 hl (by decide) rfl (fun ls hl => ?_)
    refine lv_aloadN hx hb dX4_goOn_6 (lv_at hl 0 rfl) ?_
    refine lv_ifnullN (tgt := 16) hx hb dX4_goOn_8 (by decide) ?_
    exact W.vret hx hb hr (fun t ht hW => ⟨rfl, kB.of hP hK hN ht hW, hS.F ht⟩) hS.2.2 dX4_goOn_16 hlocks
  | succ k ih =>
    intro v hv h3 ML VL VS LL v2 v3
    exact c_s_goOn (vn := v) (wn := v + 1) (kf := 5 + k) (kl := 113 + 27 * k) hI (by omega) (by omega) (by omega) (vnextT h3 (by omega) rfl) (by omega) (by omega) (s_goR PL PS k (v + 1)) (fun ML VL VS LL v2 v3 => ih (v + 1) (by omega) (by omega) ML VL VS LL v2 v3) v2 v3
set_option maxHeartbeats 1000000 in
theorem c_loR {ML : Nat → Nat → Int32} {LL : Int64} (hI : kInj ad 183) : ∀ (k v : Nat), v + k = 8 → 3 ≤ v → ∀ (VL : Nat → Nat → Nat → Int32) (VS : Nat → Nat → Int32) (v1 v2 : Int32), Met l yX7_lossOverAll (.code yX7_lossOverAll cX7_lossOverAll 8 (some .long) :: kT) ({ frames := 6 + k, cells := 0, slots := 0, locals := 144 + 27 * k } : Room) (va_Pc [.ref (ad (66 + 13 * v)), .int v1, .int v2] (kB (dC, dI) [(cI, .int)] (cws cI ad ML MS PL PS VL VS LL))) (kQ (some (.long (o_loR PL PS k v VL VS v1 v2).1)) (kB (dC, dI) [(cI, .int)] (cws cI ad ML MS PL PS (o_loR PL PS k v VL VS v1 v2).2.1 (o_loR PL PS k v VL VS v1 v2).2.2 LL)) (kAA ad 183)) 0 0 (kAA ad 183) := by
  intro k
  induction k with
  | zero =>
    intro v hv h3 VL VS v1 v2
    obtain rfl : v = 8 := by omega
    refine kMet (by decide) (fun p e s m args below meth c ls hx hb hr hml hts hown hlocks hname hargs hB hl => ?_) (Nat.le_of_ble_eq_true rfl)
    obtain ⟨hP, hK, hN⟩ := hB
    have hl : lv_has ls 8 [(0, .ref (ad (66 + 13 * 8))), (1, .int v1), (2, .int v2)] := hl
    have hS : va_S (kAA ad 183) s.heap s.heap [] := va_S.rf
    refine lv_aload_n hx hb dX7_lossOverAll_0 rfl (lv_at hl 0 rfl) ?_
    refine k_getN (q0 := 66 + 13 * 8) (ci := 5) (v := .null) hx hb hts hN inT_X6 hown hK hP (xV (v := 8) (by decide) rfl) rfl 7 (by decide) rfl kX7_280 (vf7 vnextN) dX7_lossOverAll_1 ?_
    refine lv_astore_nN (lv' := [(3, .null), (0, .ref (ad (66 + 13 * 8))), (1, .int v1), (2, .int v2)]) hx hb dX7_lossOverAll_4 rfl hl (by decide) rfl (fun ls hl => ?_)
    refine lv_iload_n hx hb dX7_lossOverAll_5 rfl (lv_at hl 3 rfl) ?_
    have fin : W p l e ({ frames := 6 + 0, cells := 0, slots := 0, locals := 144 + 27 * 0 } : Room) s m args below meth c s.heap [] 0 0 (MQ below (kQ (some (.long (o_loR PL PS 0 8 VL VS v1 v2).1)) (kB (dC, dI) [(cI, .int)] (cws cI ad ML MS PL PS (o_loR PL PS 0 8 VL VS v1 v2).2.1 (o_loR PL PS 0 8 VL VS v1 v2).2.2 LL)) (kAA ad 183)) args s 0 0 (kAA ad 183)) (F0 m 13 ls []) := by
      refine lv_aload_n hx hb dX7_lossOverAll_13 rfl (lv_at hl 1 rfl) ?_
      refine k_rV (v := .long (v_lossSoFar (VL 8) (VS 8) (PL 0) (PS 0))) (As := []) (rest := []) hx hb hml hown hts hl.1 hP hK hN (c_v_lossSoFar (vn := 8) hI (by decide) rfl rfl rfl rfl) eX7_283 (ci := 5) (q0 := 66 + 13 * 8) rfl rfl (xV (v := 8) (by decide) rfl) rfl rfl (Nat.le_of_ble_eq_true rfl) (by constructor <;> dsimp only <;> omega) ⟨rfl, rfl⟩ (by constructor <;> dsimp only <;> omega) dX7_lossOverAll_14 ?_
      exact W.lret (v := (v_lossSoFar (VL 8) (VS 8) (PL 0) (PS 0))) hx hb hr (fun t ht hW => ⟨rfl, kB.of hP hK hN ht hW, hS.F ht⟩) hS.2.2 dX7_lossOverAll_17 hlocks
    refine lv_if_le (tgt := 13) hx hb dX7_lossOverAll_6 (by decide) (fun c_4 => fin) (fun c_4 => ?_)
    refine lv_aload_nN hx hb dX7_lossOverAll_9 rfl (lv_at hl 0 rfl) ?_
    refine lv_ifnonnullN hx hb dX7_lossOverAll_10 ?_
    exact fin
  | succ k ih =>
    intro v hv h3 VL VS v1 v2
    exact c_o_lossOverAll (vn := v) (wn := v + 1) (kf := 6 + k) (kl := 144 + 27 * k) hI (by omega) (by omega) (by omega) (vnextT h3 (by omega) rfl) (by omega) (by omega) (o_loR PL PS k (v + 1)) (fun VL VS v1 v2 => ih (v + 1) (by omega) (by omega) VL VS v1 v2) v1 v2
end RECUR
