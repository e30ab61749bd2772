/-! the law's cases, 2 -/
section LAWC2
variable {p : Program} {l : Launch} {e : Env} {s : State} {m : MethodId} {below : List Frame} {meth : Method} {c : Code} {dC : Nat → ClassId} {dI : Nat → Nat → Nat} {cI : ClassId} {ga : Nat → Nat} {b L : Nat} {xs : Nat → Int32} {ad ae : Nat → Nat} {i : Nat} {H : Heap} {locs : List Loc} {ls : Array Slot} {Q : State → Prop}
set_option maxHeartbeats 4000000 in
set_option maxRecDepth 100000 in
theorem law_tell (hk : lawK p s m meth c b L xs (dC, dI) cI ga) (hA : adOk s ad ae) (hi6 : i + 6 ≤ L) (hJ : kJ (dC, dI) cI ad ae H) (hS : va_S (lwA s) s.heap H locs) (hl : lv_has ls 4 [(0, .ref b), (1, .ref (ad 0)), (2, .ref (ae 0)), (3, .int (nI i))])
    (kk : ∀ (H1 : Heap) (locs1 : List Loc), kJ (dC, dI) cI ad ae H1 → va_S (lwA s) s.heap H1 locs1 → W p l e room_1 s m #[Value.ref b] below meth c H1 locs1 207 3939 Q (F0 m 959 ls [])) : W p l e room_1 s m #[Value.ref b] below meth c H locs 207 3939 Q (F0 m 439 ls []) := by
  obtain ⟨⟨hx, hb, hml, hown, hts⟩, -, ⟨hX, hbl, hL⟩, hK, hN, hG⟩ := hk
  obtain ⟨ML, MS, PL, PS, VL, VS, LL, RA, RS, RN, RL, h, hP, hR⟩ := hJ
  have hbA : ¬ lwA s b := Nat.not_le.mpr hbl
  refine lv_aload_n hx hb dL_law_439 rfl (lv_at hl 1 rfl) ?_
  refine lv_aload_n hx hb dL_law_440 rfl (lv_at hl 0 rfl) ?_
  refine lv_iload_n hx hb dL_law_441 rfl (lv_at hl 3 rfl) ?_
  refine lv_iconst (v := 1) hx hb dL_law_442 (by decide) ?_
  refine lv_iadd hx hb dL_law_443 ?_
  refine va_sld hx hb hX hbl hbA hS (lvx 1 hi6 (by omega) hL) dL_law_444 ?_
  refine lv_aload_n hx hb dL_law_445 rfl (lv_at hl 0 rfl) ?_
  refine lv_iload_n hx hb dL_law_446 rfl (lv_at hl 3 rfl) ?_
  refine lv_iconst (v := 2) hx hb dL_law_447 (by decide) ?_
  refine lv_iadd hx hb dL_law_448 ?_
  refine va_sld hx hb hX hbl hbA hS (lvx 2 hi6 (by omega) hL) dL_law_449 ?_
  refine k_wL (As := [.int (xs (nI i + 1).toNatClampNeg), .int (xs (nI i + 2).toNatClampNeg)]) (rest := []) hA.c hx hb hml hown hts hl.1 hP hK hS kB.blind (fun U hU hW => kB.of hP hK hN hU hW) (c_o_tell (ad := ad) hA.1.1 (xs (nI i + 1).toNatClampNeg) (xs (nI i + 2).toNatClampNeg)) eL_57 (ci := 6) (q0 := 0) rfl rfl (wM (k := 0) (by decide) rfl) rfl rfl (Nat.le_of_ble_eq_true rfl) ⟨Nat.le_of_ble_eq_true rfl, Nat.le_of_ble_eq_true rfl⟩ ⟨rfl, rfl⟩ ⟨Nat.le_of_ble_eq_true rfl, Nat.le_of_ble_eq_true rfl⟩ dL_law_450 (fun H1 locs1 hW1 hq1 hS1 => ?_)
  have hR1 := keepR hA hR hq1
  refine lv_aload_n hx hb dL_law_453 rfl (lv_at hl 2 rfl) ?_
  refine lv_aload_n hx hb dL_law_454 rfl (lv_at hl 0 rfl) ?_
  refine lv_iload_n hx hb dL_law_455 rfl (lv_at hl 3 rfl) ?_
  refine lv_iconst (v := 1) hx hb dL_law_456 (by decide) ?_
  refine lv_iadd hx hb dL_law_457 ?_
  refine va_sld hx hb hX hbl hbA hS1 (lvx 1 hi6 (by omega) hL) dL_law_458 ?_
  refine lv_aload_n hx hb dL_law_459 rfl (lv_at hl 0 rfl) ?_
  refine lv_iload_n hx hb dL_law_460 rfl (lv_at hl 3 rfl) ?_
  refine lv_iconst (v := 2) hx hb dL_law_461 (by decide) ?_
  refine lv_iadd hx hb dL_law_462 ?_
  refine va_sld hx hb hX hbl hbA hS1 (lvx 2 hi6 (by omega) hL) dL_law_463 ?_
  refine k_wL (As := [.int (xs (nI i + 1).toNatClampNeg), .int (xs (nI i + 2).toNatClampNeg)]) (rest := [.int ((o_tell VS PS (xs (nI i + 1).toNatClampNeg) (xs (nI i + 2).toNatClampNeg)).1)]) hA.r hx hb hml hown hts hl.1 hR1 hK hS1 kB.blind (fun U hU hW => kB.of hR1 hK hN hU hW) (c_m_tell (ad := ae) hA.1.2 (xs (nI i + 1).toNatClampNeg) (xs (nI i + 2).toNatClampNeg) h.D.M) eL_60 (ci := 7) (q0 := 0) rfl rfl rfl rfl rfl (Nat.le_of_ble_eq_true rfl) ⟨Nat.le_of_ble_eq_true rfl, Nat.le_of_ble_eq_true rfl⟩ ⟨rfl, rfl⟩ ⟨Nat.le_of_ble_eq_true rfl, Nat.le_of_ble_eq_true rfl⟩ dL_law_464 (fun H2 locs2 hW2 hq2 hS2 => ?_)
  have hC2 := keepC hA hW1 hq2
  refine lv_icmp_eq (tgt := 959) hx hb dL_law_467 (by decide) (fun _ => ?_) (fun c9 => absurd (sim_tell h (xs (nI i + 1).toNatClampNeg) (xs (nI i + 2).toNatClampNeg)).1 c9)
  refine kk _ _ ⟨_, _, _, _, _, _, _, _, _, _, _, ?_, hC2, hW2⟩ hS2
  exact (sim_tell h (xs (nI i + 1).toNatClampNeg) (xs (nI i + 2).toNatClampNeg)).2
set_option maxHeartbeats 4000000 in
set_option maxRecDepth 100000 in
theorem law_on (hk : lawK p s m meth c b L xs (dC, dI) cI ga) (hA : adOk s ad ae) (hi6 : i + 6 ≤ L) (hJ : kJ (dC, dI) cI ad ae H) (hS : va_S (lwA s) s.heap H locs) (hl : lv_has ls 4 [(0, .ref b), (1, .ref (ad 0)), (2, .ref (ae 0)), (3, .int (nI i))])
    (kk : ∀ (H1 : Heap) (locs1 : List Loc), kJ (dC, dI) cI ad ae H1 → va_S (lwA s) s.heap H1 locs1 → W p l e room_1 s m #[Value.ref b] below meth c H1 locs1 207 3939 Q (F0 m 959 ls [])) : W p l e room_1 s m #[Value.ref b] below meth c H locs 207 3939 Q (F0 m 472 ls []) := by
  obtain ⟨⟨hx, hb, hml, hown, hts⟩, -, ⟨hX, hbl, hL⟩, hK, hN, hG⟩ := hk
  obtain ⟨ML, MS, PL, PS, VL, VS, LL, RA, RS, RN, RL, h, hP, hR⟩ := hJ
  have hbA : ¬ lwA s b := Nat.not_le.mpr hbl
  refine lv_aload_n hx hb dL_law_472 rfl (lv_at hl 1 rfl) ?_
  refine lv_aload_n hx hb dL_law_473 rfl (lv_at hl 0 rfl) ?_
  refine lv_iload_n hx hb dL_law_474 rfl (lv_at hl 3 rfl) ?_
  refine lv_iconst (v := 1) hx hb dL_law_475 (by decide) ?_
  refine lv_iadd hx hb dL_law_476 ?_
  refine va_sld hx hb hX hbl hbA hS (lvx 1 hi6 (by omega) hL) dL_law_477 ?_
  refine lv_aload_n hx hb dL_law_478 rfl (lv_at hl 0 rfl) ?_
  refine lv_iload_n hx hb dL_law_479 rfl (lv_at hl 3 rfl) ?_
  refine lv_iconst (v := 2) hx hb dL_law_480 (by decide) ?_
  refine lv_iadd hx hb dL_law_481 ?_
  refine va_sld hx hb hX hbl hbA hS (lvx 2 hi6 (by omega) hL) dL_law_482 ?_
  refine k_wL (As := [.int (xs (nI i + 1).toNatClampNeg), .int (xs (nI i + 2).toNatClampNeg)]) (rest := []) hA.c hx hb hml hown hts hl.1 hP hK hS kB.blind (fun U hU hW => kB.of hP hK hN hU hW) (c_o_on (ad := ad) hA.1.1 (xs (nI i + 1).toNatClampNeg) (xs (nI i + 2).toNatClampNeg)) eL_61 (ci := 6) (q0 := 0) rfl rfl (wM (k := 0) (by decide) rfl) rfl rfl (Nat.le_of_ble_eq_true rfl) ⟨Nat.le_of_ble_eq_true rfl, Nat.le_of_ble_eq_true rfl⟩ ⟨rfl, rfl⟩ ⟨Nat.le_of_ble_eq_true rfl, Nat.le_of_ble_eq_true rfl⟩ dL_law_483 (fun H1 locs1 hW1 hq1 hS1 => ?_)
  have hR1 := keepR hA hR hq1
  refine lv_aload_n hx hb dL_law_486 rfl (lv_at hl 2 rfl) ?_
  refine lv_aload_n hx hb dL_law_487 rfl (lv_at hl 0 rfl) ?_
  refine lv_iload_n hx hb dL_law_488 rfl (lv_at hl 3 rfl) ?_
  refine lv_iconst (v := 1) hx hb dL_law_489 (by decide) ?_
  refine lv_iadd hx hb dL_law_490 ?_
  refine va_sld hx hb hX hbl hbA hS1 (lvx 1 hi6 (by omega) hL) dL_law_491 ?_
  refine lv_aload_n hx hb dL_law_492 rfl (lv_at hl 0 rfl) ?_
  refine lv_iload_n hx hb dL_law_493 rfl (lv_at hl 3 rfl) ?_
  refine lv_iconst (v := 2) hx hb dL_law_494 (by decide) ?_
  refine lv_iadd hx hb dL_law_495 ?_
  refine va_sld hx hb hX hbl hbA hS1 (lvx 2 hi6 (by omega) hL) dL_law_496 ?_
  refine k_wL (As := [.int (xs (nI i + 1).toNatClampNeg), .int (xs (nI i + 2).toNatClampNeg)]) (rest := [.int ((o_on VL VS PL PS (xs (nI i + 1).toNatClampNeg) (xs (nI i + 2).toNatClampNeg)).1)]) hA.r hx hb hml hown hts hl.1 hR1 hK hS1 kB.blind (fun U hU hW => kB.of hR1 hK hN hU hW) (c_m_on (ad := ae) hA.1.2 (xs (nI i + 1).toNatClampNeg) (xs (nI i + 2).toNatClampNeg) h.D.M) eL_64 (ci := 7) (q0 := 0) rfl rfl rfl rfl rfl (Nat.le_of_ble_eq_true rfl) ⟨Nat.le_of_ble_eq_true rfl, Nat.le_of_ble_eq_true rfl⟩ ⟨rfl, rfl⟩ ⟨Nat.le_of_ble_eq_true rfl, Nat.le_of_ble_eq_true rfl⟩ dL_law_497 (fun H2 locs2 hW2 hq2 hS2 => ?_)
  have hC2 := keepC hA hW1 hq2
  refine lv_icmp_eq (tgt := 959) hx hb dL_law_500 (by decide) (fun _ => ?_) (fun c9 => absurd (sim_on h (xs (nI i + 1).toNatClampNeg) (xs (nI i + 2).toNatClampNeg)).1 c9)
  refine kk _ _ ⟨_, _, _, _, _, _, _, _, _, _, _, ?_, hC2, hW2⟩ hS2
  exact (sim_on h (xs (nI i + 1).toNatClampNeg) (xs (nI i + 2).toNatClampNeg)).2
set_option maxHeartbeats 4000000 in
set_option maxRecDepth 100000 in
theorem law_sky (hk : lawK p s m meth c b L xs (dC, dI) cI ga) (hA : adOk s ad ae) (hi6 : i + 6 ≤ L) (hJ : kJ (dC, dI) cI ad ae H) (hS : va_S (lwA s) s.heap H locs) (hl : lv_has ls 4 [(0, .ref b), (1, .ref (ad 0)), (2, .ref (ae 0)), (3, .int (nI i))])
    (kk : ∀ (H1 : Heap) (locs1 : List Loc), kJ (dC, dI) cI ad ae H1 → va_S (lwA s) s.heap H1 locs1 → W p l e room_1 s m #[Value.ref b] below meth c H1 locs1 207 3939 Q (F0 m 959 ls [])) : W p l e room_1 s m #[Value.ref b] below meth c H locs 207 3939 Q (F0 m 505 ls []) := by
  obtain ⟨⟨hx, hb, hml, hown, hts⟩, -, ⟨hX, hbl, hL⟩, hK, hN, hG⟩ := hk
  obtain ⟨ML, MS, PL, PS, VL, VS, LL, RA, RS, RN, RL, h, hP, hR⟩ := hJ
  have hbA : ¬ lwA s b := Nat.not_le.mpr hbl
  refine lv_aload_n hx hb dL_law_505 rfl (lv_at hl 1 rfl) ?_
  refine lv_aload_n hx hb dL_law_506 rfl (lv_at hl 0 rfl) ?_
  refine lv_iload_n hx hb dL_law_507 rfl (lv_at hl 3 rfl) ?_
  refine lv_iconst (v := 1) hx hb dL_law_508 (by decide) ?_
  refine lv_iadd hx hb dL_law_509 ?_
  refine va_sld hx hb hX hbl hbA hS (lvx 1 hi6 (by omega) hL) dL_law_510 ?_
  refine k_wL (As := [.int (xs (nI i + 1).toNatClampNeg)]) (rest := []) hA.c hx hb hml hown hts hl.1 hP hK hS kB.blind (fun U hU hW => kB.of hP hK hN hU hW) (c_o_sky (ad := ad) hA.1.1 (xs (nI i + 1).toNatClampNeg)) eL_65 (ci := 6) (q0 := 0) rfl rfl (wM (k := 0) (by decide) rfl) rfl rfl (Nat.le_of_ble_eq_true rfl) ⟨Nat.le_of_ble_eq_true rfl, Nat.le_of_ble_eq_true rfl⟩ ⟨rfl, rfl⟩ ⟨Nat.le_of_ble_eq_true rfl, Nat.le_of_ble_eq_true rfl⟩ dL_law_511 (fun H1 locs1 hW1 hq1 hS1 => ?_)
  have hR1 := keepR hA hR hq1
  refine lv_aload_n hx hb dL_law_514 rfl (lv_at hl 2 rfl) ?_
  refine lv_aload_n hx hb dL_law_515 rfl (lv_at hl 0 rfl) ?_
  refine lv_iload_n hx hb dL_law_516 rfl (lv_at hl 3 rfl) ?_
  refine lv_iconst (v := 1) hx hb dL_law_517 (by decide) ?_
  refine lv_iadd hx hb dL_law_518 ?_
  refine va_sld hx hb hX hbl hbA hS1 (lvx 1 hi6 (by omega) hL) dL_law_519 ?_
  refine k_wL (As := [.int (xs (nI i + 1).toNatClampNeg)]) (rest := [.int ((o_sky ML MS (xs (nI i + 1).toNatClampNeg)).1)]) hA.r hx hb hml hown hts hl.1 hR1 hK hS1 kB.blind (fun U hU hW => kB.of hR1 hK hN hU hW) (c_m_sky (ad := ae) hA.1.2 (xs (nI i + 1).toNatClampNeg) h.D.M) eL_68 (ci := 7) (q0 := 0) rfl rfl rfl rfl rfl (Nat.le_of_ble_eq_true rfl) ⟨Nat.le_of_ble_eq_true rfl, Nat.le_of_ble_eq_true rfl⟩ ⟨rfl, rfl⟩ ⟨Nat.le_of_ble_eq_true rfl, Nat.le_of_ble_eq_true rfl⟩ dL_law_520 (fun H2 locs2 hW2 hq2 hS2 => ?_)
  have hC2 := keepC hA hW1 hq2
  refine lv_icmp_eq (tgt := 959) hx hb dL_law_523 (by decide) (fun _ => ?_) (fun c9 => absurd (sim_sky h (xs (nI i + 1).toNatClampNeg)).1 c9)
  refine kk _ _ ⟨_, _, _, _, _, _, _, _, _, _, _, ?_, hC2, hW2⟩ hS2
  exact (sim_sky h (xs (nI i + 1).toNatClampNeg)).2
set_option maxHeartbeats 4000000 in
set_option maxRecDepth 100000 in
theorem law_noSkies (hk : lawK p s m meth c b L xs (dC, dI) cI ga) (hA : adOk s ad ae) (hi6 : i + 6 ≤ L) (hJ : kJ (dC, dI) cI ad ae H) (hS : va_S (lwA s) s.heap H locs) (hl : lv_has ls 4 [(0, .ref b), (1, .ref (ad 0)), (2, .ref (ae 0)), (3, .int (nI i))])
    (kk : ∀ (H1 : Heap) (locs1 : List Loc), kJ (dC, dI) cI ad ae H1 → va_S (lwA s) s.heap H1 locs1 → W p l e room_1 s m #[Value.ref b] below meth c H1 locs1 207 3939 Q (F0 m 959 ls [])) : W p l e room_1 s m #[Value.ref b] below meth c H locs 207 3939 Q (F0 m 528 ls []) := by
  obtain ⟨⟨hx, hb, hml, hown, hts⟩, -, ⟨hX, hbl, hL⟩, hK, hN, hG⟩ := hk
  obtain ⟨ML, MS, PL, PS, VL, VS, LL, RA, RS, RN, RL, h, hP, hR⟩ := hJ
  have hbA : ¬ lwA s b := Nat.not_le.mpr hbl
  refine lv_aload_n hx hb dL_law_528 rfl (lv_at hl 1 rfl) ?_
  refine k_wL (As := []) (rest := []) hA.c hx hb hml hown hts hl.1 hP hK hS kB.blind (fun U hU hW => kB.of hP hK hN hU hW) (c_o_noSkies (ad := ad) hA.1.1) eL_69 (ci := 6) (q0 := 0) rfl rfl (wM (k := 0) (by decide) rfl) rfl rfl (Nat.le_of_ble_eq_true rfl) ⟨Nat.le_of_ble_eq_true rfl, Nat.le_of_ble_eq_true rfl⟩ ⟨rfl, rfl⟩ ⟨Nat.le_of_ble_eq_true rfl, Nat.le_of_ble_eq_true rfl⟩ dL_law_529 (fun H1 locs1 hW1 hq1 hS1 => ?_)
  have hR1 := keepR hA hR hq1
  refine lv_aload_n hx hb dL_law_532 rfl (lv_at hl 2 rfl) ?_
  refine k_wL (As := []) (rest := [.int ((o_noSkies MS).1)]) hA.r hx hb hml hown hts hl.1 hR1 hK hS1 kB.blind (fun U hU hW => kB.of hR1 hK hN hU hW) (c_m_noSkies (ad := ae) hA.1.2) eL_72 (ci := 7) (q0 := 0) rfl rfl rfl rfl rfl (Nat.le_of_ble_eq_true rfl) ⟨Nat.le_of_ble_eq_true rfl, Nat.le_of_ble_eq_true rfl⟩ ⟨rfl, rfl⟩ ⟨Nat.le_of_ble_eq_true rfl, Nat.le_of_ble_eq_true rfl⟩ dL_law_533 (fun H2 locs2 hW2 hq2 hS2 => ?_)
  have hC2 := keepC hA hW1 hq2
  refine lv_icmp_eq (tgt := 959) hx hb dL_law_536 (by decide) (fun _ => ?_) (fun c9 => absurd (sim_noSkies h).1 c9)
  refine kk _ _ ⟨_, _, _, _, _, _, _, _, _, _, _, ?_, hC2, hW2⟩ hS2
  exact (sim_noSkies h).2
set_option maxHeartbeats 4000000 in
set_option maxRecDepth 100000 in
theorem law_loss (hk : lawK p s m meth c b L xs (dC, dI) cI ga) (hA : adOk s ad ae) (hi6 : i + 6 ≤ L) (hJ : kJ (dC, dI) cI ad ae H) (hS : va_S (lwA s) s.heap H locs) (hl : lv_has ls 4 [(0, .ref b), (1, .ref (ad 0)), (2, .ref (ae 0)), (3, .int (nI i))])
    (kk : ∀ (H1 : Heap) (locs1 : List Loc), kJ (dC, dI) cI ad ae H1 → va_S (lwA s) s.heap H1 locs1 → W p l e room_1 s m #[Value.ref b] below meth c H1 locs1 207 3939 Q (F0 m 959 ls [])) : W p l e room_1 s m #[Value.ref b] below meth c H locs 207 3939 Q (F0 m 541 ls []) := by
  obtain ⟨⟨hx, hb, hml, hown, hts⟩, -, ⟨hX, hbl, hL⟩, hK, hN, hG⟩ := hk
  obtain ⟨ML, MS, PL, PS, VL, VS, LL, RA, RS, RN, RL, h, hP, hR⟩ := hJ
  have hbA : ¬ lwA s b := Nat.not_le.mpr hbl
  refine lv_aload_n hx hb dL_law_541 rfl (lv_at hl 1 rfl) ?_
  refine lv_aload_n hx hb dL_law_542 rfl (lv_at hl 0 rfl) ?_
  refine lv_iload_n hx hb dL_law_543 rfl (lv_at hl 3 rfl) ?_
  refine lv_iconst (v := 1) hx hb dL_law_544 (by decide) ?_
  refine lv_iadd hx hb dL_law_545 ?_
  refine va_sld hx hb hX hbl hbA hS (lvx 1 hi6 (by omega) hL) dL_law_546 ?_
  refine k_wL (As := [.int (xs (nI i + 1).toNatClampNeg)]) (rest := []) hA.c hx hb hml hown hts hl.1 hP hK hS kB.blind (fun U hU hW => kB.of hP hK hN hU hW) (c_o_loss (ad := ad) hA.1.1 (xs (nI i + 1).toNatClampNeg)) eL_73 (ci := 6) (q0 := 0) rfl rfl (wM (k := 0) (by decide) rfl) rfl rfl (Nat.le_of_ble_eq_true rfl) ⟨Nat.le_of_ble_eq_true rfl, Nat.le_of_ble_eq_true rfl⟩ ⟨rfl, rfl⟩ ⟨Nat.le_of_ble_eq_true rfl, Nat.le_of_ble_eq_true rfl⟩ dL_law_547 (fun H1 locs1 hW1 hq1 hS1 => ?_)
  have hR1 := keepR hA hR hq1
  refine lv_aload_n hx hb dL_law_550 rfl (lv_at hl 2 rfl) ?_
  refine lv_aload_n hx hb dL_law_551 rfl (lv_at hl 0 rfl) ?_
  refine lv_iload_n hx hb dL_law_552 rfl (lv_at hl 3 rfl) ?_
  refine lv_iconst (v := 1) hx hb dL_law_553 (by decide) ?_
  refine lv_iadd hx hb dL_law_554 ?_
  refine va_sld hx hb hX hbl hbA hS1 (lvx 1 hi6 (by omega) hL) dL_law_555 ?_
  refine k_wL (As := [.int (xs (nI i + 1).toNatClampNeg)]) (rest := [.long ((o_loss ML MS VL VS PL PS (xs (nI i + 1).toNatClampNeg)).1)]) hA.r hx hb hml hown hts hl.1 hR1 hK hS1 kB.blind (fun U hU hW => kB.of hR1 hK hN hU hW) (c_m_loss (ad := ae) hA.1.2 (xs (nI i + 1).toNatClampNeg) h.D.M h.D.C) eL_77 (ci := 7) (q0 := 0) rfl rfl rfl rfl rfl (Nat.le_of_ble_eq_true rfl) ⟨Nat.le_of_ble_eq_true rfl, Nat.le_of_ble_eq_true rfl⟩ ⟨rfl, rfl⟩ ⟨Nat.le_of_ble_eq_true rfl, Nat.le_of_ble_eq_true rfl⟩ dL_law_556 (fun H2 locs2 hW2 hq2 hS2 => ?_)
  have hC2 := keepC hA hW1 hq2
  refine W.lcmp hx hb dL_law_559 ?_
  refine lv_if_eq (tgt := 959) hx hb dL_law_560 (by decide) (fun _ => ?_) (fun c9 => absurd (by rw [show _ = _ from (sim_loss h (xs (nI i + 1).toNatClampNeg))]; exact lg_self _) c9)
  refine kk _ _ ⟨_, _, _, _, _, _, _, _, _, _, _, ?_, hC2, hW2⟩ hS2
  exact h.look3 _ _ _ _ _ _
set_option maxHeartbeats 4000000 in
set_option maxRecDepth 100000 in
theorem law_over (hk : lawK p s m meth c b L xs (dC, dI) cI ga) (hA : adOk s ad ae) (hi6 : i + 6 ≤ L) (hJ : kJ (dC, dI) cI ad ae H) (hS : va_S (lwA s) s.heap H locs) (hl : lv_has ls 4 [(0, .ref b), (1, .ref (ad 0)), (2, .ref (ae 0)), (3, .int (nI i))])
    (kk : ∀ (H1 : Heap) (locs1 : List Loc), kJ (dC, dI) cI ad ae H1 → va_S (lwA s) s.heap H1 locs1 → W p l e room_1 s m #[Value.ref b] below meth c H1 locs1 207 3939 Q (F0 m 959 ls [])) : W p l e room_1 s m #[Value.ref b] below meth c H locs 207 3939 Q (F0 m 565 ls []) := by
  obtain ⟨⟨hx, hb, hml, hown, hts⟩, -, ⟨hX, hbl, hL⟩, hK, hN, hG⟩ := hk
  obtain ⟨ML, MS, PL, PS, VL, VS, LL, RA, RS, RN, RL, h, hP, hR⟩ := hJ
  have hbA : ¬ lwA s b := Nat.not_le.mpr hbl
  refine lv_aload_n hx hb dL_law_565 rfl (lv_at hl 1 rfl) ?_
  refine lv_aload_n hx hb dL_law_566 rfl (lv_at hl 0 rfl) ?_
  refine lv_iload_n hx hb dL_law_567 rfl (lv_at hl 3 rfl) ?_
  refine lv_iconst (v := 1) hx hb dL_law_568 (by decide) ?_
  refine lv_iadd hx hb dL_law_569 ?_
  refine va_sld hx hb hX hbl hbA hS (lvx 1 hi6 (by omega) hL) dL_law_570 ?_
  refine lv_aload_n hx hb dL_law_571 rfl (lv_at hl 0 rfl) ?_
  refine lv_iload_n hx hb dL_law_572 rfl (lv_at hl 3 rfl) ?_
  refine lv_iconst (v := 2) hx hb dL_law_573 (by decide) ?_
  refine lv_iadd hx hb dL_law_574 ?_
  refine va_sld hx hb hX hbl hbA hS (lvx 2 hi6 (by omega) hL) dL_law_575 ?_
  refine k_wL (As := [.int (xs (nI i + 1).toNatClampNeg), .int (xs (nI i + 2).toNatClampNeg)]) (rest := []) hA.c hx hb hml hown hts hl.1 hP hK hS kB.blind (fun U hU hW => kB.of hP hK hN hU hW) (c_o_over (ad := ad) hA.1.1 (xs (nI i + 1).toNatClampNeg) (xs (nI i + 2).toNatClampNeg)) eL_78 (ci := 6) (q0 := 0) rfl rfl (wM (k := 0) (by decide) rfl) rfl rfl (Nat.le_of_ble_eq_true rfl) ⟨Nat.le_of_ble_eq_true rfl, Nat.le_of_ble_eq_true rfl⟩ ⟨rfl, rfl⟩ ⟨Nat.le_of_ble_eq_true rfl, Nat.le_of_ble_eq_true rfl⟩ dL_law_576 (fun H1 locs1 hW1 hq1 hS1 => ?_)
  have hR1 := keepR hA hR hq1
  refine lv_aload_n hx hb dL_law_579 rfl (lv_at hl 2 rfl) ?_
  refine lv_aload_n hx hb dL_law_580 rfl (lv_at hl 0 rfl) ?_
  refine lv_iload_n hx hb dL_law_581 rfl (lv_at hl 3 rfl) ?_
  refine lv_iconst (v := 1) hx hb dL_law_582 (by decide) ?_
  refine lv_iadd hx hb dL_law_583 ?_
  refine va_sld hx hb hX hbl hbA hS1 (lvx 1 hi6 (by omega) hL) dL_law_584 ?_
  refine lv_aload_n hx hb dL_law_585 rfl (lv_at hl 0 rfl) ?_
  refine lv_iload_n hx hb dL_law_586 rfl (lv_at hl 3 rfl) ?_
  refine lv_iconst (v := 2) hx hb dL_law_587 (by decide) ?_
  refine lv_iadd hx hb dL_law_588 ?_
  refine va_sld hx hb hX hbl hbA hS1 (lvx 2 hi6 (by omega) hL) dL_law_589 ?_
  refine k_wL (As := [.int (xs (nI i + 1).toNatClampNeg), .int (xs (nI i + 2).toNatClampNeg)]) (rest := [.long ((o_over VL VS PL PS (xs (nI i + 1).toNatClampNeg) (xs (nI i + 2).toNatClampNeg)).1)]) hA.r hx hb hml hown hts hl.1 hR1 hK hS1 kB.blind (fun U hU hW => kB.of hR1 hK hN hU hW) (c_m_over (ad := ae) hA.1.2 (xs (nI i + 1).toNatClampNeg) (xs (nI i + 2).toNatClampNeg) h.D.M h.D.C) eL_82 (ci := 7) (q0 := 0) rfl rfl rfl rfl rfl (Nat.le_of_ble_eq_true rfl) ⟨Nat.le_of_ble_eq_true rfl, Nat.le_of_ble_eq_true rfl⟩ ⟨rfl, rfl⟩ ⟨Nat.le_of_ble_eq_true rfl, Nat.le_of_ble_eq_true rfl⟩ dL_law_590 (fun H2 locs2 hW2 hq2 hS2 => ?_)
  have hC2 := keepC hA hW1 hq2
  refine W.lcmp hx hb dL_law_593 ?_
  refine lv_if_eq (tgt := 959) hx hb dL_law_594 (by decide) (fun _ => ?_) (fun c9 => absurd (by rw [show _ = _ from (sim_over h (xs (nI i + 1).toNatClampNeg) (xs (nI i + 2).toNatClampNeg))]; exact lg_self _) c9)
  refine kk _ _ ⟨_, _, _, _, _, _, _, _, _, _, _, ?_, hC2, hW2⟩ hS2
  exact h.look6 rfl rfl (over_keep (xs (nI i + 1).toNatClampNeg) (xs (nI i + 2).toNatClampNeg)) _ _ _ _
set_option maxHeartbeats 4000000 in
set_option maxRecDepth 100000 in
theorem law_best (hk : lawK p s m meth c b L xs (dC, dI) cI ga) (hA : adOk s ad ae) (hi6 : i + 6 ≤ L) (hJ : kJ (dC, dI) cI ad ae H) (hS : va_S (lwA s) s.heap H locs) (hl : lv_has ls 4 [(0, .ref b), (1, .ref (ad 0)), (2, .ref (ae 0)), (3, .int (nI i))])
    (kk : ∀ (H1 : Heap) (locs1 : List Loc), kJ (dC, dI) cI ad ae H1 → va_S (lwA s) s.heap H1 locs1 → W p l e room_1 s m #[Value.ref b] below meth c H1 locs1 207 3939 Q (F0 m 959 ls [])) : W p l e room_1 s m #[Value.ref b] below meth c H locs 207 3939 Q (F0 m 599 ls []) := by
  obtain ⟨⟨hx, hb, hml, hown, hts⟩, -, ⟨hX, hbl, hL⟩, hK, hN, hG⟩ := hk
  obtain ⟨ML, MS, PL, PS, VL, VS, LL, RA, RS, RN, RL, h, hP, hR⟩ := hJ
  have hbA : ¬ lwA s b := Nat.not_le.mpr hbl
  refine lv_aload_n hx hb dL_law_599 rfl (lv_at hl 1 rfl) ?_
  refine lv_aload_n hx hb dL_law_600 rfl (lv_at hl 0 rfl) ?_
  refine lv_iload_n hx hb dL_law_601 rfl (lv_at hl 3 rfl) ?_
  refine lv_iconst (v := 1) hx hb dL_law_602 (by decide) ?_
  refine lv_iadd hx hb dL_law_603 ?_
  refine va_sld hx hb hX hbl hbA hS (lvx 1 hi6 (by omega) hL) dL_law_604 ?_
  refine lv_aload_n hx hb dL_law_605 rfl (lv_at hl 0 rfl) ?_
  refine lv_iload_n hx hb dL_law_606 rfl (lv_at hl 3 rfl) ?_
  refine lv_iconst (v := 2) hx hb dL_law_607 (by decide) ?_
  refine lv_iadd hx hb dL_law_608 ?_
  refine va_sld hx hb hX hbl hbA hS (lvx 2 hi6 (by omega) hL) dL_law_609 ?_
  refine k_wL (As := [.int (xs (nI i + 1).toNatClampNeg), .int (xs (nI i + 2).toNatClampNeg)]) (rest := []) hA.c hx hb hml hown hts hl.1 hP hK hS kB.blind (fun U hU hW => kB.of hP hK hN hU hW) (c_o_best (ad := ad) hA.1.1 (xs (nI i + 1).toNatClampNeg) (xs (nI i + 2).toNatClampNeg)) eL_83 (ci := 6) (q0 := 0) rfl rfl (wM (k := 0) (by decide) rfl) rfl rfl (Nat.le_of_ble_eq_true rfl) ⟨Nat.le_of_ble_eq_true rfl, Nat.le_of_ble_eq_true rfl⟩ ⟨rfl, rfl⟩ ⟨Nat.le_of_ble_eq_true rfl, Nat.le_of_ble_eq_true rfl⟩ dL_law_610 (fun H1 locs1 hW1 hq1 hS1 => ?_)
  have hR1 := keepR hA hR hq1
  refine lv_aload_n hx hb dL_law_613 rfl (lv_at hl 2 rfl) ?_
  refine lv_aload_n hx hb dL_law_614 rfl (lv_at hl 0 rfl) ?_
  refine lv_iload_n hx hb dL_law_615 rfl (lv_at hl 3 rfl) ?_
  refine lv_iconst (v := 1) hx hb dL_law_616 (by decide) ?_
  refine lv_iadd hx hb dL_law_617 ?_
  refine va_sld hx hb hX hbl hbA hS1 (lvx 1 hi6 (by omega) hL) dL_law_618 ?_
  refine lv_aload_n hx hb dL_law_619 rfl (lv_at hl 0 rfl) ?_
  refine lv_iload_n hx hb dL_law_620 rfl (lv_at hl 3 rfl) ?_
  refine lv_iconst (v := 2) hx hb dL_law_621 (by decide) ?_
  refine lv_iadd hx hb dL_law_622 ?_
  refine va_sld hx hb hX hbl hbA hS1 (lvx 2 hi6 (by omega) hL) dL_law_623 ?_
  refine k_wL (As := [.int (xs (nI i + 1).toNatClampNeg), .int (xs (nI i + 2).toNatClampNeg)]) (rest := [.long ((o_best ML MS VL VS PL PS LL (xs (nI i + 1).toNatClampNeg) (xs (nI i + 2).toNatClampNeg)).1)]) hA.r hx hb hml hown hts hl.1 hR1 hK hS1 kB.blind (fun U hU hW => kB.of hR1 hK hN hU hW) (c_m_best (ad := ae) hA.1.2 (xs (nI i + 1).toNatClampNeg) (xs (nI i + 2).toNatClampNeg) h.D.M h.D.C) eL_86 (ci := 7) (q0 := 0) rfl rfl rfl rfl rfl (Nat.le_of_ble_eq_true rfl) ⟨Nat.le_of_ble_eq_true rfl, Nat.le_of_ble_eq_true rfl⟩ ⟨rfl, rfl⟩ ⟨Nat.le_of_ble_eq_true rfl, Nat.le_of_ble_eq_true rfl⟩ dL_law_624 (fun H2 locs2 hW2 hq2 hS2 => ?_)
  have hC2 := keepC hA hW1 hq2
  refine W.lcmp hx hb dL_law_627 ?_
  refine lv_if_eq (tgt := 959) hx hb dL_law_628 (by decide) (fun _ => ?_) (fun c9 => absurd (by rw [show _ = _ from (sim_best (RL := RL) (LL := LL) h (xs (nI i + 1).toNatClampNeg) (xs (nI i + 2).toNatClampNeg))]; exact lg_self _) c9)
  refine kk _ _ ⟨_, _, _, _, _, _, _, _, _, _, _, ?_, hC2, hW2⟩ hS2
  exact h.look6 (best_keep (xs (nI i + 1).toNatClampNeg) (xs (nI i + 2).toNatClampNeg)).1.1 (best_keep (xs (nI i + 1).toNatClampNeg) (xs (nI i + 2).toNatClampNeg)).1.2 (best_keep (xs (nI i + 1).toNatClampNeg) (xs (nI i + 2).toNatClampNeg)).2 _ _ _ _
set_option maxHeartbeats 4000000 in
set_option maxRecDepth 100000 in
theorem law_first (hk : lawK p s m meth c b L xs (dC, dI) cI ga) (hA : adOk s ad ae) (hi6 : i + 6 ≤ L) (hJ : kJ (dC, dI) cI ad ae H) (hS : va_S (lwA s) s.heap H locs) (hl : lv_has ls 4 [(0, .ref b), (1, .ref (ad 0)), (2, .ref (ae 0)), (3, .int (nI i))])
    (kk : ∀ (H1 : Heap) (locs1 : List Loc), kJ (dC, dI) cI ad ae H1 → va_S (lwA s) s.heap H1 locs1 → W p l e room_1 s m #[Value.ref b] below meth c H1 locs1 207 3939 Q (F0 m 959 ls [])) : W p l e room_1 s m #[Value.ref b] below meth c H locs 207 3939 Q (F0 m 633 ls []) := by
  obtain ⟨⟨hx, hb, hml, hown, hts⟩, -, ⟨hX, hbl, hL⟩, hK, hN, hG⟩ := hk
  obtain ⟨ML, MS, PL, PS, VL, VS, LL, RA, RS, RN, RL, h, hP, hR⟩ := hJ
  have hbA : ¬ lwA s b := Nat.not_le.mpr hbl
  refine lv_aload_n hx hb dL_law_633 rfl (lv_at hl 1 rfl) ?_
  refine lv_aload_n hx hb dL_law_634 rfl (lv_at hl 0 rfl) ?_
  refine lv_iload_n hx hb dL_law_635 rfl (lv_at hl 3 rfl) ?_
  refine lv_iconst (v := 1) hx hb dL_law_636 (by decide) ?_
  refine lv_iadd hx hb dL_law_637 ?_
  refine va_sld hx hb hX hbl hbA hS (lvx 1 hi6 (by omega) hL) dL_law_638 ?_
  refine k_wL (As := [.int (xs (nI i + 1).toNatClampNeg)]) (rest := []) hA.c hx hb hml hown hts hl.1 hP hK hS kB.blind (fun U hU hW => kB.of hP hK hN hU hW) (c_o_first (ad := ad) hA.1.1 (xs (nI i + 1).toNatClampNeg)) eL_87 (ci := 6) (q0 := 0) rfl rfl (wM (k := 0) (by decide) rfl) rfl rfl (Nat.le_of_ble_eq_true rfl) ⟨Nat.le_of_ble_eq_true rfl, Nat.le_of_ble_eq_true rfl⟩ ⟨rfl, rfl⟩ ⟨Nat.le_of_ble_eq_true rfl, Nat.le_of_ble_eq_true rfl⟩ dL_law_639 (fun H1 locs1 hW1 hq1 hS1 => ?_)
  have hR1 := keepR hA hR hq1
  refine lv_aload_n hx hb dL_law_642 rfl (lv_at hl 2 rfl) ?_
  refine lv_aload_n hx hb dL_law_643 rfl (lv_at hl 0 rfl) ?_
  refine lv_iload_n hx hb dL_law_644 rfl (lv_at hl 3 rfl) ?_
  refine lv_iconst (v := 1) hx hb dL_law_645 (by decide) ?_
  refine lv_iadd hx hb dL_law_646 ?_
  refine va_sld hx hb hX hbl hbA hS1 (lvx 1 hi6 (by omega) hL) dL_law_647 ?_
  refine k_wL (As := [.int (xs (nI i + 1).toNatClampNeg)]) (rest := [.int ((o_first ML MS VL VS PL PS (xs (nI i + 1).toNatClampNeg)).1)]) hA.r hx hb hml hown hts hl.1 hR1 hK hS1 kB.blind (fun U hU hW => kB.of hR1 hK hN hU hW) (c_m_first (ad := ae) hA.1.2 (xs (nI i + 1).toNatClampNeg) h.D.M h.D.C) eL_90 (ci := 7) (q0 := 0) rfl rfl rfl rfl rfl (Nat.le_of_ble_eq_true rfl) ⟨Nat.le_of_ble_eq_true rfl, Nat.le_of_ble_eq_true rfl⟩ ⟨rfl, rfl⟩ ⟨Nat.le_of_ble_eq_true rfl, Nat.le_of_ble_eq_true rfl⟩ dL_law_648 (fun H2 locs2 hW2 hq2 hS2 => ?_)
  have hC2 := keepC hA hW1 hq2
  refine lv_icmp_eq (tgt := 959) hx hb dL_law_651 (by decide) (fun _ => ?_) (fun c9 => absurd (sim_first h (xs (nI i + 1).toNatClampNeg)) c9)
  refine kk _ _ ⟨_, _, _, _, _, _, _, _, _, _, _, ?_, hC2, hW2⟩ hS2
  exact h.look3 _ _ _ _ _ _
set_option maxHeartbeats 4000000 in
set_option maxRecDepth 100000 in
theorem law_more (hk : lawK p s m meth c b L xs (dC, dI) cI ga) (hA : adOk s ad ae) (hi6 : i + 6 ≤ L) (hJ : kJ (dC, dI) cI ad ae H) (hS : va_S (lwA s) s.heap H locs) (hl : lv_has ls 4 [(0, .ref b), (1, .ref (ad 0)), (2, .ref (ae 0)), (3, .int (nI i))])
    (kk : ∀ (H1 : Heap) (locs1 : List Loc), kJ (dC, dI) cI ad ae H1 → va_S (lwA s) s.heap H1 locs1 → W p l e room_1 s m #[Value.ref b] below meth c H1 locs1 207 3939 Q (F0 m 959 ls [])) : W p l e room_1 s m #[Value.ref b] below meth c H locs 207 3939 Q (F0 m 656 ls []) := by
  obtain ⟨⟨hx, hb, hml, hown, hts⟩, -, ⟨hX, hbl, hL⟩, hK, hN, hG⟩ := hk
  obtain ⟨ML, MS, PL, PS, VL, VS, LL, RA, RS, RN, RL, h, hP, hR⟩ := hJ
  have hbA : ¬ lwA s b := Nat.not_le.mpr hbl
  refine lv_aload_n hx hb dL_law_656 rfl (lv_at hl 1 rfl) ?_
  refine lv_aload_n hx hb dL_law_657 rfl (lv_at hl 0 rfl) ?_
  refine lv_iload_n hx hb dL_law_658 rfl (lv_at hl 3 rfl) ?_
  refine lv_iconst (v := 1) hx hb dL_law_659 (by decide) ?_
  refine lv_iadd hx hb dL_law_660 ?_
  refine va_sld hx hb hX hbl hbA hS (lvx 1 hi6 (by omega) hL) dL_law_661 ?_
  refine lv_aload_n hx hb dL_law_662 rfl (lv_at hl 0 rfl) ?_
  refine lv_iload_n hx hb dL_law_663 rfl (lv_at hl 3 rfl) ?_
  refine lv_iconst (v := 2) hx hb dL_law_664 (by decide) ?_
  refine lv_iadd hx hb dL_law_665 ?_
  refine va_sld hx hb hX hbl hbA hS (lvx 2 hi6 (by omega) hL) dL_law_666 ?_
  refine k_wL (As := [.int (xs (nI i + 1).toNatClampNeg), .int (xs (nI i + 2).toNatClampNeg)]) (rest := []) hA.c hx hb hml hown hts hl.1 hP hK hS kB.blind (fun U hU hW => kB.of hP hK hN hU hW) (c_o_more (ad := ad) hA.1.1 (xs (nI i + 1).toNatClampNeg) (xs (nI i + 2).toNatClampNeg)) eL_91 (ci := 6) (q0 := 0) rfl rfl (wM (k := 0) (by decide) rfl) rfl rfl (Nat.le_of_ble_eq_true rfl) ⟨Nat.le_of_ble_eq_true rfl, Nat.le_of_ble_eq_true rfl⟩ ⟨rfl, rfl⟩ ⟨Nat.le_of_ble_eq_true rfl, Nat.le_of_ble_eq_true rfl⟩ dL_law_667 (fun H1 locs1 hW1 hq1 hS1 => ?_)
  have hR1 := keepR hA hR hq1
  refine lv_aload_n hx hb dL_law_670 rfl (lv_at hl 2 rfl) ?_
  refine lv_aload_n hx hb dL_law_671 rfl (lv_at hl 0 rfl) ?_
  refine lv_iload_n hx hb dL_law_672 rfl (lv_at hl 3 rfl) ?_
  refine lv_iconst (v := 1) hx hb dL_law_673 (by decide) ?_
  refine lv_iadd hx hb dL_law_674 ?_
  refine va_sld hx hb hX hbl hbA hS1 (lvx 1 hi6 (by omega) hL) dL_law_675 ?_
  refine lv_aload_n hx hb dL_law_676 rfl (lv_at hl 0 rfl) ?_
  refine lv_iload_n hx hb dL_law_677 rfl (lv_at hl 3 rfl) ?_
  refine lv_iconst (v := 2) hx hb dL_law_678 (by decide) ?_
  refine lv_iadd hx hb dL_law_679 ?_
  refine va_sld hx hb hX hbl hbA hS1 (lvx 2 hi6 (by omega) hL) dL_law_680 ?_
  refine k_wL (As := [.int (xs (nI i + 1).toNatClampNeg), .int (xs (nI i + 2).toNatClampNeg)]) (rest := [.long ((o_more ML MS VL VS PL PS (xs (nI i + 1).toNatClampNeg) (xs (nI i + 2).toNatClampNeg)).1)]) hA.r hx hb hml hown hts hl.1 hR1 hK hS1 kB.blind (fun U hU hW => kB.of hR1 hK hN hU hW) (c_m_more (ad := ae) hA.1.2 (xs (nI i + 1).toNatClampNeg) (xs (nI i + 2).toNatClampNeg) h.D.M h.D.C) eL_94 (ci := 7) (q0 := 0) rfl rfl rfl rfl rfl (Nat.le_of_ble_eq_true rfl) ⟨Nat.le_of_ble_eq_true rfl, Nat.le_of_ble_eq_true rfl⟩ ⟨rfl, rfl⟩ ⟨Nat.le_of_ble_eq_true rfl, Nat.le_of_ble_eq_true rfl⟩ dL_law_681 (fun H2 locs2 hW2 hq2 hS2 => ?_)
  have hC2 := keepC hA hW1 hq2
  refine W.lcmp hx hb dL_law_684 ?_
  refine lv_if_eq (tgt := 959) hx hb dL_law_685 (by decide) (fun _ => ?_) (fun c9 => absurd (by rw [show _ = _ from (sim_more h (xs (nI i + 1).toNatClampNeg) (xs (nI i + 2).toNatClampNeg))]; exact lg_self _) c9)
  refine kk _ _ ⟨_, _, _, _, _, _, _, _, _, _, _, ?_, hC2, hW2⟩ hS2
  exact h.look3 _ _ _ _ _ _
end LAWC2
