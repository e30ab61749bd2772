/-! the law's cases, 3 -/
section LAWC3
variable {p : Program} {l : Launch} {e : Env} {s : State} {m : MethodId} {below : List Frame} {meth : Method} {c : Code} {dC : Nat → ClassId} {dI : Nat → Nat → Nat} {cI : ClassId} {ga : Nat → Nat} {b L : Nat} {xs : Nat → Int32} {ad ae : Nat → Nat} {i : Nat} {H : Heap} {locs : List Loc} {ls : Array Slot} {Q : State → Prop}
set_option maxHeartbeats 4000000 in
set_option maxRecDepth 100000 in
theorem law_prop (hk : lawK p s m meth c b L xs (dC, dI) cI ga) (hA : adOk s ad ae) (hi6 : i + 6 ≤ L) (hJ : kJ (dC, dI) cI ad ae H) (hS : va_S (lwA s) s.heap H locs) (hl : lv_has ls 4 [(0, .ref b), (1, .ref (ad 0)), (2, .ref (ae 0)), (3, .int (nI i))])
    (kk : ∀ (H1 : Heap) (locs1 : List Loc), kJ (dC, dI) cI ad ae H1 → va_S (lwA s) s.heap H1 locs1 → W p l e room_1 s m #[Value.ref b] below meth c H1 locs1 207 3939 Q (F0 m 959 ls [])) : W p l e room_1 s m #[Value.ref b] below meth c H locs 207 3939 Q (F0 m 690 ls []) := by
  obtain ⟨⟨hx, hb, hml, hown, hts⟩, -, ⟨hX, hbl, hL⟩, hK, hN, hG⟩ := hk
  obtain ⟨ML, MS, PL, PS, VL, VS, LL, RA, RS, RN, RL, h, hP, hR⟩ := hJ
  have hbA : ¬ lwA s b := Nat.not_le.mpr hbl
  refine lv_aload_n hx hb dL_law_690 rfl (lv_at hl 1 rfl) ?_
  refine lv_aload_n hx hb dL_law_691 rfl (lv_at hl 0 rfl) ?_
  refine lv_iload_n hx hb dL_law_692 rfl (lv_at hl 3 rfl) ?_
  refine lv_iconst (v := 1) hx hb dL_law_693 (by decide) ?_
  refine lv_iadd hx hb dL_law_694 ?_
  refine va_sld hx hb hX hbl hbA hS (lvx 1 hi6 (by omega) hL) dL_law_695 ?_
  refine k_wL (As := [.int (xs (nI i + 1).toNatClampNeg)]) (rest := []) hA.c hx hb hml hown hts hl.1 hP hK hS kB.blind (fun U hU hW => kB.of hP hK hN hU hW) (c_o_prop (ad := ad) hA.1.1 (xs (nI i + 1).toNatClampNeg)) eL_95 (ci := 6) (q0 := 0) rfl rfl (wM (k := 0) (by decide) rfl) rfl rfl (Nat.le_of_ble_eq_true rfl) ⟨Nat.le_of_ble_eq_true rfl, Nat.le_of_ble_eq_true rfl⟩ ⟨rfl, rfl⟩ ⟨Nat.le_of_ble_eq_true rfl, Nat.le_of_ble_eq_true rfl⟩ dL_law_696 (fun H1 locs1 hW1 hq1 hS1 => ?_)
  have hR1 := keepR hA hR hq1
  refine lv_aload_n hx hb dL_law_699 rfl (lv_at hl 2 rfl) ?_
  refine lv_aload_n hx hb dL_law_700 rfl (lv_at hl 0 rfl) ?_
  refine lv_iload_n hx hb dL_law_701 rfl (lv_at hl 3 rfl) ?_
  refine lv_iconst (v := 1) hx hb dL_law_702 (by decide) ?_
  refine lv_iadd hx hb dL_law_703 ?_
  refine va_sld hx hb hX hbl hbA hS1 (lvx 1 hi6 (by omega) hL) dL_law_704 ?_
  refine k_wL (As := [.int (xs (nI i + 1).toNatClampNeg)]) (rest := [.int ((o_prop VL VS PS (xs (nI i + 1).toNatClampNeg)).1)]) hA.r hx hb hml hown hts hl.1 hR1 hK hS1 kB.blind (fun U hU hW => kB.of hR1 hK hN hU hW) (c_m_prop (ad := ae) hA.1.2 (xs (nI i + 1).toNatClampNeg) h.D.M) eL_98 (ci := 7) (q0 := 0) rfl rfl rfl rfl rfl (Nat.le_of_ble_eq_true rfl) ⟨Nat.le_of_ble_eq_true rfl, Nat.le_of_ble_eq_true rfl⟩ ⟨rfl, rfl⟩ ⟨Nat.le_of_ble_eq_true rfl, Nat.le_of_ble_eq_true rfl⟩ dL_law_705 (fun H2 locs2 hW2 hq2 hS2 => ?_)
  have hC2 := keepC hA hW1 hq2
  refine lv_icmp_eq (tgt := 959) hx hb dL_law_708 (by decide) (fun _ => ?_) (fun c9 => absurd (sim_prop h (xs (nI i + 1).toNatClampNeg)).1 c9)
  refine kk _ _ ⟨_, _, _, _, _, _, _, _, _, _, _, ?_, hC2, hW2⟩ hS2
  exact (sim_prop h (xs (nI i + 1).toNatClampNeg)).2
set_option maxHeartbeats 4000000 in
set_option maxRecDepth 100000 in
theorem law_instead (hk : lawK p s m meth c b L xs (dC, dI) cI ga) (hA : adOk s ad ae) (hi6 : i + 6 ≤ L) (hJ : kJ (dC, dI) cI ad ae H) (hS : va_S (lwA s) s.heap H locs) (hl : lv_has ls 4 [(0, .ref b), (1, .ref (ad 0)), (2, .ref (ae 0)), (3, .int (nI i))])
    (kk : ∀ (H1 : Heap) (locs1 : List Loc), kJ (dC, dI) cI ad ae H1 → va_S (lwA s) s.heap H1 locs1 → W p l e room_1 s m #[Value.ref b] below meth c H1 locs1 207 3939 Q (F0 m 959 ls [])) : W p l e room_1 s m #[Value.ref b] below meth c H locs 207 3939 Q (F0 m 713 ls []) := by
  obtain ⟨⟨hx, hb, hml, hown, hts⟩, -, ⟨hX, hbl, hL⟩, hK, hN, hG⟩ := hk
  obtain ⟨ML, MS, PL, PS, VL, VS, LL, RA, RS, RN, RL, h, hP, hR⟩ := hJ
  have hbA : ¬ lwA s b := Nat.not_le.mpr hbl
  refine lv_aload_n hx hb dL_law_713 rfl (lv_at hl 1 rfl) ?_
  refine lv_aload_n hx hb dL_law_714 rfl (lv_at hl 0 rfl) ?_
  refine lv_iload_n hx hb dL_law_715 rfl (lv_at hl 3 rfl) ?_
  refine lv_iconst (v := 1) hx hb dL_law_716 (by decide) ?_
  refine lv_iadd hx hb dL_law_717 ?_
  refine va_sld hx hb hX hbl hbA hS (lvx 1 hi6 (by omega) hL) dL_law_718 ?_
  refine lv_aload_n hx hb dL_law_719 rfl (lv_at hl 0 rfl) ?_
  refine lv_iload_n hx hb dL_law_720 rfl (lv_at hl 3 rfl) ?_
  refine lv_iconst (v := 2) hx hb dL_law_721 (by decide) ?_
  refine lv_iadd hx hb dL_law_722 ?_
  refine va_sld hx hb hX hbl hbA hS (lvx 2 hi6 (by omega) hL) dL_law_723 ?_
  refine k_wL (As := [.int (xs (nI i + 1).toNatClampNeg), .int (xs (nI i + 2).toNatClampNeg)]) (rest := []) hA.c hx hb hml hown hts hl.1 hP hK hS kB.blind (fun U hU hW => kB.of hP hK hN hU hW) (c_o_instead (ad := ad) hA.1.1 (xs (nI i + 1).toNatClampNeg) (xs (nI i + 2).toNatClampNeg)) eL_99 (ci := 6) (q0 := 0) rfl rfl (wM (k := 0) (by decide) rfl) rfl rfl (Nat.le_of_ble_eq_true rfl) ⟨Nat.le_of_ble_eq_true rfl, Nat.le_of_ble_eq_true rfl⟩ ⟨rfl, rfl⟩ ⟨Nat.le_of_ble_eq_true rfl, Nat.le_of_ble_eq_true rfl⟩ dL_law_724 (fun H1 locs1 hW1 hq1 hS1 => ?_)
  have hR1 := keepR hA hR hq1
  refine lv_aload_n hx hb dL_law_727 rfl (lv_at hl 2 rfl) ?_
  refine lv_aload_n hx hb dL_law_728 rfl (lv_at hl 0 rfl) ?_
  refine lv_iload_n hx hb dL_law_729 rfl (lv_at hl 3 rfl) ?_
  refine lv_iconst (v := 1) hx hb dL_law_730 (by decide) ?_
  refine lv_iadd hx hb dL_law_731 ?_
  refine va_sld hx hb hX hbl hbA hS1 (lvx 1 hi6 (by omega) hL) dL_law_732 ?_
  refine lv_aload_n hx hb dL_law_733 rfl (lv_at hl 0 rfl) ?_
  refine lv_iload_n hx hb dL_law_734 rfl (lv_at hl 3 rfl) ?_
  refine lv_iconst (v := 2) hx hb dL_law_735 (by decide) ?_
  refine lv_iadd hx hb dL_law_736 ?_
  refine va_sld hx hb hX hbl hbA hS1 (lvx 2 hi6 (by omega) hL) dL_law_737 ?_
  refine k_wL (As := [.int (xs (nI i + 1).toNatClampNeg), .int (xs (nI i + 2).toNatClampNeg)]) (rest := [.long ((o_instead ML MS VL VS PL PS (xs (nI i + 1).toNatClampNeg) (xs (nI i + 2).toNatClampNeg)).1)]) hA.r hx hb hml hown hts hl.1 hR1 hK hS1 kB.blind (fun U hU hW => kB.of hR1 hK hN hU hW) (c_m_instead (ad := ae) hA.1.2 (xs (nI i + 1).toNatClampNeg) (xs (nI i + 2).toNatClampNeg) h.D.M h.D.C) eL_102 (ci := 7) (q0 := 0) rfl rfl rfl rfl rfl (Nat.le_of_ble_eq_true rfl) ⟨Nat.le_of_ble_eq_true rfl, Nat.le_of_ble_eq_true rfl⟩ ⟨rfl, rfl⟩ ⟨Nat.le_of_ble_eq_true rfl, Nat.le_of_ble_eq_true rfl⟩ dL_law_738 (fun H2 locs2 hW2 hq2 hS2 => ?_)
  have hC2 := keepC hA hW1 hq2
  refine W.lcmp hx hb dL_law_741 ?_
  refine lv_if_eq (tgt := 959) hx hb dL_law_742 (by decide) (fun _ => ?_) (fun c9 => absurd (by rw [show _ = _ from (sim_instead h (xs (nI i + 1).toNatClampNeg) (xs (nI i + 2).toNatClampNeg))]; exact lg_self _) c9)
  refine kk _ _ ⟨_, _, _, _, _, _, _, _, _, _, _, ?_, hC2, hW2⟩ hS2
  exact h.look5 (xs (nI i + 1).toNatClampNeg) (xs (nI i + 2).toNatClampNeg) _ _ _ _ _ _
set_option maxHeartbeats 4000000 in
set_option maxRecDepth 100000 in
theorem law_look (hk : lawK p s m meth c b L xs (dC, dI) cI ga) (hA : adOk s ad ae) (hi6 : i + 6 ≤ L) (hJ : kJ (dC, dI) cI ad ae H) (hS : va_S (lwA s) s.heap H locs) (hl : lv_has ls 4 [(0, .ref b), (1, .ref (ad 0)), (2, .ref (ae 0)), (3, .int (nI i))])
    (kk : ∀ (H1 : Heap) (locs1 : List Loc), kJ (dC, dI) cI ad ae H1 → va_S (lwA s) s.heap H1 locs1 → W p l e room_1 s m #[Value.ref b] below meth c H1 locs1 207 3939 Q (F0 m 959 ls [])) : W p l e room_1 s m #[Value.ref b] below meth c H locs 207 3939 Q (F0 m 747 ls []) := by
  obtain ⟨⟨hx, hb, hml, hown, hts⟩, -, ⟨hX, hbl, hL⟩, hK, hN, hG⟩ := hk
  obtain ⟨ML, MS, PL, PS, VL, VS, LL, RA, RS, RN, RL, h, hP, hR⟩ := hJ
  have hbA : ¬ lwA s b := Nat.not_le.mpr hbl
  refine lv_aload_n hx hb dL_law_747 rfl (lv_at hl 1 rfl) ?_
  refine lv_aload_n hx hb dL_law_748 rfl (lv_at hl 0 rfl) ?_
  refine lv_iload_n hx hb dL_law_749 rfl (lv_at hl 3 rfl) ?_
  refine lv_iconst (v := 1) hx hb dL_law_750 (by decide) ?_
  refine lv_iadd hx hb dL_law_751 ?_
  refine va_sld hx hb hX hbl hbA hS (lvx 1 hi6 (by omega) hL) dL_law_752 ?_
  refine k_wL (As := [.int (xs (nI i + 1).toNatClampNeg)]) (rest := []) hA.c hx hb hml hown hts hl.1 hP hK hS kB.blind (fun U hU hW => kB.of hP hK hN hU hW) (c_o_look (ad := ad) hA.1.1 (xs (nI i + 1).toNatClampNeg)) eL_103 (ci := 6) (q0 := 0) rfl rfl (wM (k := 0) (by decide) rfl) rfl rfl (Nat.le_of_ble_eq_true rfl) ⟨Nat.le_of_ble_eq_true rfl, Nat.le_of_ble_eq_true rfl⟩ ⟨rfl, rfl⟩ ⟨Nat.le_of_ble_eq_true rfl, Nat.le_of_ble_eq_true rfl⟩ dL_law_753 (fun H1 locs1 hW1 hq1 hS1 => ?_)
  have hR1 := keepR hA hR hq1
  refine lv_aload_n hx hb dL_law_756 rfl (lv_at hl 2 rfl) ?_
  refine lv_aload_n hx hb dL_law_757 rfl (lv_at hl 0 rfl) ?_
  refine lv_iload_n hx hb dL_law_758 rfl (lv_at hl 3 rfl) ?_
  refine lv_iconst (v := 1) hx hb dL_law_759 (by decide) ?_
  refine lv_iadd hx hb dL_law_760 ?_
  refine va_sld hx hb hX hbl hbA hS1 (lvx 1 hi6 (by omega) hL) dL_law_761 ?_
  refine k_wL (As := [.int (xs (nI i + 1).toNatClampNeg)]) (rest := [.long ((o_look ML MS VL VS PL PS LL (xs (nI i + 1).toNatClampNeg)).1)]) hA.r hx hb hml hown hts hl.1 hR1 hK hS1 kB.blind (fun U hU hW => kB.of hR1 hK hN hU hW) (c_m_look (ad := ae) hA.1.2 (xs (nI i + 1).toNatClampNeg) h.D.M h.D.C) eL_106 (ci := 7) (q0 := 0) rfl rfl rfl rfl rfl (Nat.le_of_ble_eq_true rfl) ⟨Nat.le_of_ble_eq_true rfl, Nat.le_of_ble_eq_true rfl⟩ ⟨rfl, rfl⟩ ⟨Nat.le_of_ble_eq_true rfl, Nat.le_of_ble_eq_true rfl⟩ dL_law_762 (fun H2 locs2 hW2 hq2 hS2 => ?_)
  have hC2 := keepC hA hW1 hq2
  refine W.lcmp hx hb dL_law_765 ?_
  refine lv_if_eq (tgt := 959) hx hb dL_law_766 (by decide) (fun _ => ?_) (fun c9 => absurd (by rw [show _ = _ from (sim_look (RL := RL) (LL := LL) h (xs (nI i + 1).toNatClampNeg))]; exact lg_self _) c9)
  refine kk _ _ ⟨_, _, _, _, _, _, _, _, _, _, _, ?_, hC2, hW2⟩ hS2
  rw [look_22, va_eta]
  exact h.look6 (look_keep (xs (nI i + 1).toNatClampNeg)).1.1 (look_keep (xs (nI i + 1).toNatClampNeg)).1.2 (look_keep (xs (nI i + 1).toNatClampNeg)).2 _ _ _ _
set_option maxHeartbeats 4000000 in
set_option maxRecDepth 100000 in
theorem law_rain (hk : lawK p s m meth c b L xs (dC, dI) cI ga) (hA : adOk s ad ae) (hi6 : i + 6 ≤ L) (hJ : kJ (dC, dI) cI ad ae H) (hS : va_S (lwA s) s.heap H locs) (hl : lv_has ls 4 [(0, .ref b), (1, .ref (ad 0)), (2, .ref (ae 0)), (3, .int (nI i))])
    (kk : ∀ (H1 : Heap) (locs1 : List Loc), kJ (dC, dI) cI ad ae H1 → va_S (lwA s) s.heap H1 locs1 → W p l e room_1 s m #[Value.ref b] below meth c H1 locs1 207 3939 Q (F0 m 959 ls [])) : W p l e room_1 s m #[Value.ref b] below meth c H locs 207 3939 Q (F0 m 771 ls []) := by
  obtain ⟨⟨hx, hb, hml, hown, hts⟩, -, ⟨hX, hbl, hL⟩, hK, hN, hG⟩ := hk
  obtain ⟨ML, MS, PL, PS, VL, VS, LL, RA, RS, RN, RL, h, hP, hR⟩ := hJ
  have hbA : ¬ lwA s b := Nat.not_le.mpr hbl
  refine lv_aload_n hx hb dL_law_771 rfl (lv_at hl 1 rfl) ?_
  refine lv_aload_n hx hb dL_law_772 rfl (lv_at hl 0 rfl) ?_
  refine lv_iload_n hx hb dL_law_773 rfl (lv_at hl 3 rfl) ?_
  refine lv_iconst (v := 1) hx hb dL_law_774 (by decide) ?_
  refine lv_iadd hx hb dL_law_775 ?_
  refine va_sld hx hb hX hbl hbA hS (lvx 1 hi6 (by omega) hL) dL_law_776 ?_
  refine k_wL (As := [.int (xs (nI i + 1).toNatClampNeg)]) (rest := []) hA.c hx hb hml hown hts hl.1 hP hK hS kB.blind (fun U hU hW => kB.of hP hK hN hU hW) (c_o_rain (ad := ad) hA.1.1 (xs (nI i + 1).toNatClampNeg)) eL_107 (ci := 6) (q0 := 0) rfl rfl (wM (k := 0) (by decide) rfl) rfl rfl (Nat.le_of_ble_eq_true rfl) ⟨Nat.le_of_ble_eq_true rfl, Nat.le_of_ble_eq_true rfl⟩ ⟨rfl, rfl⟩ ⟨Nat.le_of_ble_eq_true rfl, Nat.le_of_ble_eq_true rfl⟩ dL_law_777 (fun H1 locs1 hW1 hq1 hS1 => ?_)
  have hR1 := keepR hA hR hq1
  refine lv_aload_n hx hb dL_law_780 rfl (lv_at hl 2 rfl) ?_
  refine lv_aload_n hx hb dL_law_781 rfl (lv_at hl 0 rfl) ?_
  refine lv_iload_n hx hb dL_law_782 rfl (lv_at hl 3 rfl) ?_
  refine lv_iconst (v := 1) hx hb dL_law_783 (by decide) ?_
  refine lv_iadd hx hb dL_law_784 ?_
  refine va_sld hx hb hX hbl hbA hS1 (lvx 1 hi6 (by omega) hL) dL_law_785 ?_
  refine k_wL (As := [.int (xs (nI i + 1).toNatClampNeg)]) (rest := [.int ((o_rain VL VS PL PS (xs (nI i + 1).toNatClampNeg)).1)]) hA.r hx hb hml hown hts hl.1 hR1 hK hS1 kB.blind (fun U hU hW => kB.of hR1 hK hN hU hW) (c_m_rain (ad := ae) hA.1.2 (xs (nI i + 1).toNatClampNeg) h.D.M) eL_110 (ci := 7) (q0 := 0) rfl rfl rfl rfl rfl (Nat.le_of_ble_eq_true rfl) ⟨Nat.le_of_ble_eq_true rfl, Nat.le_of_ble_eq_true rfl⟩ ⟨rfl, rfl⟩ ⟨Nat.le_of_ble_eq_true rfl, Nat.le_of_ble_eq_true rfl⟩ dL_law_786 (fun H2 locs2 hW2 hq2 hS2 => ?_)
  have hC2 := keepC hA hW1 hq2
  refine lv_icmp_eq (tgt := 959) hx hb dL_law_789 (by decide) (fun _ => ?_) (fun c9 => absurd (sim_rain h (xs (nI i + 1).toNatClampNeg)) c9)
  refine kk _ _ ⟨_, _, _, _, _, _, _, _, _, _, _, ?_, hC2, hW2⟩ hS2
  exact h.look3 _ _ _ _ _ _
set_option maxHeartbeats 4000000 in
set_option maxRecDepth 100000 in
theorem law_out (hk : lawK p s m meth c b L xs (dC, dI) cI ga) (hA : adOk s ad ae) (hi6 : i + 6 ≤ L) (hJ : kJ (dC, dI) cI ad ae H) (hS : va_S (lwA s) s.heap H locs) (hl : lv_has ls 4 [(0, .ref b), (1, .ref (ad 0)), (2, .ref (ae 0)), (3, .int (nI i))])
    (kk : ∀ (H1 : Heap) (locs1 : List Loc), kJ (dC, dI) cI ad ae H1 → va_S (lwA s) s.heap H1 locs1 → W p l e room_1 s m #[Value.ref b] below meth c H1 locs1 207 3939 Q (F0 m 959 ls [])) : W p l e room_1 s m #[Value.ref b] below meth c H locs 207 3939 Q (F0 m 794 ls []) := by
  obtain ⟨⟨hx, hb, hml, hown, hts⟩, -, ⟨hX, hbl, hL⟩, hK, hN, hG⟩ := hk
  obtain ⟨ML, MS, PL, PS, VL, VS, LL, RA, RS, RN, RL, h, hP, hR⟩ := hJ
  have hbA : ¬ lwA s b := Nat.not_le.mpr hbl
  have hsk : (MS 1).toInt < 2147483647 := by
    have := mI_rowMany h.D.M
    rw [h.skies.1, nI_toInt (by omega)]; omega
  refine lv_aload_n hx hb dL_law_794 rfl (lv_at hl 1 rfl) ?_
  refine lv_aload_n hx hb dL_law_795 rfl (lv_at hl 0 rfl) ?_
  refine lv_iload_n hx hb dL_law_796 rfl (lv_at hl 3 rfl) ?_
  refine lv_iconst (v := 1) hx hb dL_law_797 (by decide) ?_
  refine lv_iadd hx hb dL_law_798 ?_
  refine va_sld hx hb hX hbl hbA hS (lvx 1 hi6 (by omega) hL) dL_law_799 ?_
  refine lv_aload_n hx hb dL_law_800 rfl (lv_at hl 0 rfl) ?_
  refine lv_iload_n hx hb dL_law_801 rfl (lv_at hl 3 rfl) ?_
  refine lv_iconst (v := 2) hx hb dL_law_802 (by decide) ?_
  refine lv_iadd hx hb dL_law_803 ?_
  refine va_sld hx hb hX hbl hbA hS (lvx 2 hi6 (by omega) hL) dL_law_804 ?_
  refine lv_aload_n hx hb dL_law_805 rfl (lv_at hl 0 rfl) ?_
  refine lv_iload_n hx hb dL_law_806 rfl (lv_at hl 3 rfl) ?_
  refine lv_iconst (v := 3) hx hb dL_law_807 (by decide) ?_
  refine lv_iadd hx hb dL_law_808 ?_
  refine va_sld hx hb hX hbl hbA hS (lvx 3 hi6 (by omega) hL) dL_law_809 ?_
  refine lv_aload_n hx hb dL_law_810 rfl (lv_at hl 0 rfl) ?_
  refine lv_iload_n hx hb dL_law_811 rfl (lv_at hl 3 rfl) ?_
  refine lv_iconst (v := 4) hx hb dL_law_812 (by decide) ?_
  refine lv_iadd hx hb dL_law_813 ?_
  refine va_sld hx hb hX hbl hbA hS (lvx 4 hi6 (by omega) hL) dL_law_814 ?_
  refine lv_aload_n hx hb dL_law_815 rfl (lv_at hl 0 rfl) ?_
  refine lv_iload_n hx hb dL_law_816 rfl (lv_at hl 3 rfl) ?_
  refine lv_iconst (v := 5) hx hb dL_law_817 (by decide) ?_
  refine lv_iadd hx hb dL_law_818 ?_
  refine va_sld hx hb hX hbl hbA hS (lvx 5 hi6 (by omega) hL) dL_law_819 ?_
  refine k_wL (As := [.int (xs (nI i + 1).toNatClampNeg), .int (xs (nI i + 2).toNatClampNeg), .int (xs (nI i + 3).toNatClampNeg), .int (xs (nI i + 4).toNatClampNeg), .int (xs (nI i + 5).toNatClampNeg)]) (rest := []) hA.c hx hb hml hown hts hl.1 hP hK hS kB.blind (fun U hU hW => kB.of hP hK hN hU hW) (c_o_out (ad := ad) hA.1.1 (xs (nI i + 1).toNatClampNeg) (xs (nI i + 2).toNatClampNeg) (xs (nI i + 3).toNatClampNeg) (xs (nI i + 4).toNatClampNeg) (xs (nI i + 5).toNatClampNeg) hsk) eL_111 (ci := 6) (q0 := 0) rfl rfl (wM (k := 0) (by decide) rfl) rfl rfl (Nat.le_of_ble_eq_true rfl) ⟨Nat.le_of_ble_eq_true rfl, Nat.le_of_ble_eq_true rfl⟩ ⟨rfl, rfl⟩ ⟨Nat.le_of_ble_eq_true rfl, Nat.le_of_ble_eq_true rfl⟩ dL_law_820 (fun H1 locs1 hW1 hq1 hS1 => ?_)
  have hR1 := keepR hA hR hq1
  refine lv_aload_n hx hb dL_law_823 rfl (lv_at hl 2 rfl) ?_
  refine lv_aload_n hx hb dL_law_824 rfl (lv_at hl 0 rfl) ?_
  refine lv_iload_n hx hb dL_law_825 rfl (lv_at hl 3 rfl) ?_
  refine lv_iconst (v := 1) hx hb dL_law_826 (by decide) ?_
  refine lv_iadd hx hb dL_law_827 ?_
  refine va_sld hx hb hX hbl hbA hS1 (lvx 1 hi6 (by omega) hL) dL_law_828 ?_
  refine lv_aload_n hx hb dL_law_829 rfl (lv_at hl 0 rfl) ?_
  refine lv_iload_n hx hb dL_law_830 rfl (lv_at hl 3 rfl) ?_
  refine lv_iconst (v := 2) hx hb dL_law_831 (by decide) ?_
  refine lv_iadd hx hb dL_law_832 ?_
  refine va_sld hx hb hX hbl hbA hS1 (lvx 2 hi6 (by omega) hL) dL_law_833 ?_
  refine lv_aload_n hx hb dL_law_834 rfl (lv_at hl 0 rfl) ?_
  refine lv_iload_n hx hb dL_law_835 rfl (lv_at hl 3 rfl) ?_
  refine lv_iconst (v := 3) hx hb dL_law_836 (by decide) ?_
  refine lv_iadd hx hb dL_law_837 ?_
  refine va_sld hx hb hX hbl hbA hS1 (lvx 3 hi6 (by omega) hL) dL_law_838 ?_
  refine lv_aload_n hx hb dL_law_839 rfl (lv_at hl 0 rfl) ?_
  refine lv_iload_n hx hb dL_law_840 rfl (lv_at hl 3 rfl) ?_
  refine lv_iconst (v := 4) hx hb dL_law_841 (by decide) ?_
  refine lv_iadd hx hb dL_law_842 ?_
  refine va_sld hx hb hX hbl hbA hS1 (lvx 4 hi6 (by omega) hL) dL_law_843 ?_
  refine lv_aload_n hx hb dL_law_844 rfl (lv_at hl 0 rfl) ?_
  refine lv_iload_n hx hb dL_law_845 rfl (lv_at hl 3 rfl) ?_
  refine lv_iconst (v := 5) hx hb dL_law_846 (by decide) ?_
  refine lv_iadd hx hb dL_law_847 ?_
  refine va_sld hx hb hX hbl hbA hS1 (lvx 5 hi6 (by omega) hL) dL_law_848 ?_
  refine k_wL (As := [.int (xs (nI i + 1).toNatClampNeg), .int (xs (nI i + 2).toNatClampNeg), .int (xs (nI i + 3).toNatClampNeg), .int (xs (nI i + 4).toNatClampNeg), .int (xs (nI i + 5).toNatClampNeg)]) (rest := [.int ((o_out ML MS VL VS PL PS (xs (nI i + 1).toNatClampNeg) (xs (nI i + 2).toNatClampNeg) (xs (nI i + 3).toNatClampNeg) (xs (nI i + 4).toNatClampNeg) (xs (nI i + 5).toNatClampNeg)).1)]) hA.r hx hb hml hown hts hl.1 hR1 hK hS1 kB.blind (fun U hU hW => kB.of hR1 hK hN hU hW) (c_m_out (ad := ae) hA.1.2 (xs (nI i + 1).toNatClampNeg) (xs (nI i + 2).toNatClampNeg) (xs (nI i + 3).toNatClampNeg) (xs (nI i + 4).toNatClampNeg) (xs (nI i + 5).toNatClampNeg) h.D.M) eL_115 (ci := 7) (q0 := 0) rfl rfl rfl rfl rfl (Nat.le_of_ble_eq_true rfl) ⟨Nat.le_of_ble_eq_true rfl, Nat.le_of_ble_eq_true rfl⟩ ⟨rfl, rfl⟩ ⟨Nat.le_of_ble_eq_true rfl, Nat.le_of_ble_eq_true rfl⟩ dL_law_849 (fun H2 locs2 hW2 hq2 hS2 => ?_)
  have hC2 := keepC hA hW1 hq2
  refine lv_icmp_eq (tgt := 959) hx hb dL_law_852 (by decide) (fun _ => ?_) (fun c9 => absurd (sim_out h (xs (nI i + 1).toNatClampNeg) (xs (nI i + 2).toNatClampNeg) (xs (nI i + 3).toNatClampNeg) (xs (nI i + 4).toNatClampNeg) (xs (nI i + 5).toNatClampNeg)) c9)
  refine kk _ _ ⟨_, _, _, _, _, _, _, _, _, _, _, ?_, hC2, hW2⟩ hS2
  exact h.look3 _ _ _ _ _ _
set_option maxHeartbeats 4000000 in
set_option maxRecDepth 100000 in
theorem law_night (hk : lawK p s m meth c b L xs (dC, dI) cI ga) (hA : adOk s ad ae) (hi6 : i + 6 ≤ L) (hJ : kJ (dC, dI) cI ad ae H) (hS : va_S (lwA s) s.heap H locs) (hl : lv_has ls 4 [(0, .ref b), (1, .ref (ad 0)), (2, .ref (ae 0)), (3, .int (nI i))])
    (kk : ∀ (H1 : Heap) (locs1 : List Loc), kJ (dC, dI) cI ad ae H1 → va_S (lwA s) s.heap H1 locs1 → W p l e room_1 s m #[Value.ref b] below meth c H1 locs1 207 3939 Q (F0 m 959 ls [])) : W p l e room_1 s m #[Value.ref b] below meth c H locs 207 3939 Q (F0 m 857 ls []) := by
  obtain ⟨⟨hx, hb, hml, hown, hts⟩, -, ⟨hX, hbl, hL⟩, hK, hN, hG⟩ := hk
  obtain ⟨ML, MS, PL, PS, VL, VS, LL, RA, RS, RN, RL, h, hP, hR⟩ := hJ
  have hbA : ¬ lwA s b := Nat.not_le.mpr hbl
  refine lv_aload_n hx hb dL_law_857 rfl (lv_at hl 1 rfl) ?_
  refine lv_aload_n hx hb dL_law_858 rfl (lv_at hl 0 rfl) ?_
  refine lv_iload_n hx hb dL_law_859 rfl (lv_at hl 3 rfl) ?_
  refine lv_iconst (v := 1) hx hb dL_law_860 (by decide) ?_
  refine lv_iadd hx hb dL_law_861 ?_
  refine va_sld hx hb hX hbl hbA hS (lvx 1 hi6 (by omega) hL) dL_law_862 ?_
  refine lv_aload_n hx hb dL_law_863 rfl (lv_at hl 0 rfl) ?_
  refine lv_iload_n hx hb dL_law_864 rfl (lv_at hl 3 rfl) ?_
  refine lv_iconst (v := 2) hx hb dL_law_865 (by decide) ?_
  refine lv_iadd hx hb dL_law_866 ?_
  refine va_sld hx hb hX hbl hbA hS (lvx 2 hi6 (by omega) hL) dL_law_867 ?_
  refine lv_aload_n hx hb dL_law_868 rfl (lv_at hl 0 rfl) ?_
  refine lv_iload_n hx hb dL_law_869 rfl (lv_at hl 3 rfl) ?_
  refine lv_iconst (v := 3) hx hb dL_law_870 (by decide) ?_
  refine lv_iadd hx hb dL_law_871 ?_
  refine va_sld hx hb hX hbl hbA hS (lvx 3 hi6 (by omega) hL) dL_law_872 ?_
  refine lv_aload_n hx hb dL_law_873 rfl (lv_at hl 0 rfl) ?_
  refine lv_iload_n hx hb dL_law_874 rfl (lv_at hl 3 rfl) ?_
  refine lv_iconst (v := 4) hx hb dL_law_875 (by decide) ?_
  refine lv_iadd hx hb dL_law_876 ?_
  refine va_sld hx hb hX hbl hbA hS (lvx 4 hi6 (by omega) hL) dL_law_877 ?_
  refine k_wL (As := [.int (xs (nI i + 1).toNatClampNeg), .int (xs (nI i + 2).toNatClampNeg), .int (xs (nI i + 3).toNatClampNeg), .int (xs (nI i + 4).toNatClampNeg)]) (rest := []) hA.c hx hb hml hown hts hl.1 hP hK hS kB.blind (fun U hU hW => kB.of hP hK hN hU hW) (c_o_night (ad := ad) hA.1.1 (xs (nI i + 1).toNatClampNeg) (xs (nI i + 2).toNatClampNeg) (xs (nI i + 3).toNatClampNeg) (xs (nI i + 4).toNatClampNeg)) eL_116 (ci := 6) (q0 := 0) rfl rfl (wM (k := 0) (by decide) rfl) rfl rfl (Nat.le_of_ble_eq_true rfl) ⟨Nat.le_of_ble_eq_true rfl, Nat.le_of_ble_eq_true rfl⟩ ⟨rfl, rfl⟩ ⟨Nat.le_of_ble_eq_true rfl, Nat.le_of_ble_eq_true rfl⟩ dL_law_878 (fun H1 locs1 hW1 hq1 hS1 => ?_)
  have hR1 := keepR hA hR hq1
  refine lv_aload_n hx hb dL_law_881 rfl (lv_at hl 2 rfl) ?_
  refine lv_aload_n hx hb dL_law_882 rfl (lv_at hl 0 rfl) ?_
  refine lv_iload_n hx hb dL_law_883 rfl (lv_at hl 3 rfl) ?_
  refine lv_iconst (v := 1) hx hb dL_law_884 (by decide) ?_
  refine lv_iadd hx hb dL_law_885 ?_
  refine va_sld hx hb hX hbl hbA hS1 (lvx 1 hi6 (by omega) hL) dL_law_886 ?_
  refine lv_aload_n hx hb dL_law_887 rfl (lv_at hl 0 rfl) ?_
  refine lv_iload_n hx hb dL_law_888 rfl (lv_at hl 3 rfl) ?_
  refine lv_iconst (v := 2) hx hb dL_law_889 (by decide) ?_
  refine lv_iadd hx hb dL_law_890 ?_
  refine va_sld hx hb hX hbl hbA hS1 (lvx 2 hi6 (by omega) hL) dL_law_891 ?_
  refine lv_aload_n hx hb dL_law_892 rfl (lv_at hl 0 rfl) ?_
  refine lv_iload_n hx hb dL_law_893 rfl (lv_at hl 3 rfl) ?_
  refine lv_iconst (v := 3) hx hb dL_law_894 (by decide) ?_
  refine lv_iadd hx hb dL_law_895 ?_
  refine va_sld hx hb hX hbl hbA hS1 (lvx 3 hi6 (by omega) hL) dL_law_896 ?_
  refine lv_aload_n hx hb dL_law_897 rfl (lv_at hl 0 rfl) ?_
  refine lv_iload_n hx hb dL_law_898 rfl (lv_at hl 3 rfl) ?_
  refine lv_iconst (v := 4) hx hb dL_law_899 (by decide) ?_
  refine lv_iadd hx hb dL_law_900 ?_
  refine va_sld hx hb hX hbl hbA hS1 (lvx 4 hi6 (by omega) hL) dL_law_901 ?_
  refine k_wL (As := [.int (xs (nI i + 1).toNatClampNeg), .int (xs (nI i + 2).toNatClampNeg), .int (xs (nI i + 3).toNatClampNeg), .int (xs (nI i + 4).toNatClampNeg)]) (rest := [.int ((o_night ML VL VS PL PS (xs (nI i + 1).toNatClampNeg) (xs (nI i + 2).toNatClampNeg) (xs (nI i + 3).toNatClampNeg) (xs (nI i + 4).toNatClampNeg)).1)]) hA.r hx hb hml hown hts hl.1 hR1 hK hS1 kB.blind (fun U hU hW => kB.of hR1 hK hN hU hW) (c_m_night (ad := ae) hA.1.2 (xs (nI i + 1).toNatClampNeg) (xs (nI i + 2).toNatClampNeg) (xs (nI i + 3).toNatClampNeg) (xs (nI i + 4).toNatClampNeg) h.D.M h.D.C) eL_120 (ci := 7) (q0 := 0) rfl rfl rfl rfl rfl (Nat.le_of_ble_eq_true rfl) ⟨Nat.le_of_ble_eq_true rfl, Nat.le_of_ble_eq_true rfl⟩ ⟨rfl, rfl⟩ ⟨Nat.le_of_ble_eq_true rfl, Nat.le_of_ble_eq_true rfl⟩ dL_law_902 (fun H2 locs2 hW2 hq2 hS2 => ?_)
  have hC2 := keepC hA hW1 hq2
  refine lv_icmp_eq (tgt := 959) hx hb dL_law_905 (by decide) (fun _ => ?_) (fun c9 => absurd (sim_night h (xs (nI i + 1).toNatClampNeg) (xs (nI i + 2).toNatClampNeg) (xs (nI i + 3).toNatClampNeg) (xs (nI i + 4).toNatClampNeg)) c9)
  refine kk _ _ ⟨_, _, _, _, _, _, _, _, _, _, _, ?_, hC2, hW2⟩ hS2
  exact h.look4 _ _ _ _ _ _ _ _
set_option maxHeartbeats 4000000 in
set_option maxRecDepth 100000 in
theorem law_keep (hk : lawK p s m meth c b L xs (dC, dI) cI ga) (hA : adOk s ad ae) (hi6 : i + 6 ≤ L) (hJ : kJ (dC, dI) cI ad ae H) (hS : va_S (lwA s) s.heap H locs) (hl : lv_has ls 4 [(0, .ref b), (1, .ref (ad 0)), (2, .ref (ae 0)), (3, .int (nI i))])
    (kk : ∀ (H1 : Heap) (locs1 : List Loc), kJ (dC, dI) cI ad ae H1 → va_S (lwA s) s.heap H1 locs1 → W p l e room_1 s m #[Value.ref b] below meth c H1 locs1 207 3939 Q (F0 m 959 ls [])) : W p l e room_1 s m #[Value.ref b] below meth c H locs 207 3939 Q (F0 m 910 ls []) := by
  obtain ⟨⟨hx, hb, hml, hown, hts⟩, -, ⟨hX, hbl, hL⟩, hK, hN, hG⟩ := hk
  obtain ⟨ML, MS, PL, PS, VL, VS, LL, RA, RS, RN, RL, h, hP, hR⟩ := hJ
  have hbA : ¬ lwA s b := Nat.not_le.mpr hbl
  refine lv_aload_n hx hb dL_law_910 rfl (lv_at hl 1 rfl) ?_
  refine k_wL (As := []) (rest := []) hA.c hx hb hml hown hts hl.1 hP hK hS kB.blind (fun U hU hW => kB.of hP hK hN hU hW) (c_o_keep (ad := ad) hA.1.1) eL_121 (ci := 6) (q0 := 0) rfl rfl (wM (k := 0) (by decide) rfl) rfl rfl (Nat.le_of_ble_eq_true rfl) ⟨Nat.le_of_ble_eq_true rfl, Nat.le_of_ble_eq_true rfl⟩ ⟨rfl, rfl⟩ ⟨Nat.le_of_ble_eq_true rfl, Nat.le_of_ble_eq_true rfl⟩ dL_law_911 (fun H1 locs1 hW1 hq1 hS1 => ?_)
  have hR1 := keepR hA hR hq1
  refine lv_aload_n hx hb dL_law_914 rfl (lv_at hl 2 rfl) ?_
  refine k_wL (As := []) (rest := [.int ((o_keep MS VL VS).1)]) hA.r hx hb hml hown hts hl.1 hR1 hK hS1 kB.blind (fun U hU hW => kB.of hR1 hK hN hU hW) (c_m_keep (ad := ae) hA.1.2 h.D.M) eL_124 (ci := 7) (q0 := 0) rfl rfl rfl rfl rfl (Nat.le_of_ble_eq_true rfl) ⟨Nat.le_of_ble_eq_true rfl, Nat.le_of_ble_eq_true rfl⟩ ⟨rfl, rfl⟩ ⟨Nat.le_of_ble_eq_true rfl, Nat.le_of_ble_eq_true rfl⟩ dL_law_915 (fun H2 locs2 hW2 hq2 hS2 => ?_)
  have hC2 := keepC hA hW1 hq2
  refine lv_icmp_eq (tgt := 959) hx hb dL_law_918 (by decide) (fun _ => ?_) (fun c9 => absurd (sim_keep h).1 c9)
  refine kk _ _ ⟨_, _, _, _, _, _, _, _, _, _, _, ?_, hC2, hW2⟩ hS2
  exact (sim_keep h).2
set_option maxHeartbeats 4000000 in
set_option maxRecDepth 100000 in
theorem law_back (hk : lawK p s m meth c b L xs (dC, dI) cI ga) (hA : adOk s ad ae) (hi6 : i + 6 ≤ L) (hJ : kJ (dC, dI) cI ad ae H) (hS : va_S (lwA s) s.heap H locs) (hl : lv_has ls 4 [(0, .ref b), (1, .ref (ad 0)), (2, .ref (ae 0)), (3, .int (nI i))])
    (kk : ∀ (H1 : Heap) (locs1 : List Loc), kJ (dC, dI) cI ad ae H1 → va_S (lwA s) s.heap H1 locs1 → W p l e room_1 s m #[Value.ref b] below meth c H1 locs1 207 3939 Q (F0 m 959 ls [])) : W p l e room_1 s m #[Value.ref b] below meth c H locs 207 3939 Q (F0 m 923 ls []) := by
  obtain ⟨⟨hx, hb, hml, hown, hts⟩, -, ⟨hX, hbl, hL⟩, hK, hN, hG⟩ := hk
  obtain ⟨ML, MS, PL, PS, VL, VS, LL, RA, RS, RN, RL, h, hP, hR⟩ := hJ
  have hbA : ¬ lwA s b := Nat.not_le.mpr hbl
  refine lv_aload_n hx hb dL_law_923 rfl (lv_at hl 1 rfl) ?_
  refine k_wL (As := []) (rest := []) hA.c hx hb hml hown hts hl.1 hP hK hS kB.blind (fun U hU hW => kB.of hP hK hN hU hW) (c_o_back (ad := ad) hA.1.1) eL_125 (ci := 6) (q0 := 0) rfl rfl (wM (k := 0) (by decide) rfl) rfl rfl (Nat.le_of_ble_eq_true rfl) ⟨Nat.le_of_ble_eq_true rfl, Nat.le_of_ble_eq_true rfl⟩ ⟨rfl, rfl⟩ ⟨Nat.le_of_ble_eq_true rfl, Nat.le_of_ble_eq_true rfl⟩ dL_law_924 (fun H1 locs1 hW1 hq1 hS1 => ?_)
  have hR1 := keepR hA hR hq1
  refine lv_aload_n hx hb dL_law_927 rfl (lv_at hl 2 rfl) ?_
  refine k_wL (As := []) (rest := [.int ((o_back MS VL VS).1)]) hA.r hx hb hml hown hts hl.1 hR1 hK hS1 kB.blind (fun U hU hW => kB.of hR1 hK hN hU hW) (c_m_back (ad := ae) hA.1.2 h.D.M h.2.2.2.2.1) eL_128 (ci := 7) (q0 := 0) rfl rfl rfl rfl rfl (Nat.le_of_ble_eq_true rfl) ⟨Nat.le_of_ble_eq_true rfl, Nat.le_of_ble_eq_true rfl⟩ ⟨rfl, rfl⟩ ⟨Nat.le_of_ble_eq_true rfl, Nat.le_of_ble_eq_true rfl⟩ dL_law_928 (fun H2 locs2 hW2 hq2 hS2 => ?_)
  have hC2 := keepC hA hW1 hq2
  refine lv_icmp_eq (tgt := 959) hx hb dL_law_931 (by decide) (fun _ => ?_) (fun c9 => absurd (sim_back h).1 c9)
  refine kk _ _ ⟨_, _, _, _, _, _, _, _, _, _, _, ?_, hC2, hW2⟩ hS2
  exact (sim_back h).2
set_option maxHeartbeats 4000000 in
set_option maxRecDepth 100000 in
theorem law_count (hk : lawK p s m meth c b L xs (dC, dI) cI ga) (hA : adOk s ad ae) (hi6 : i + 6 ≤ L) (hJ : kJ (dC, dI) cI ad ae H) (hS : va_S (lwA s) s.heap H locs) (hl : lv_has ls 4 [(0, .ref b), (1, .ref (ad 0)), (2, .ref (ae 0)), (3, .int (nI i))])
    (kk : ∀ (H1 : Heap) (locs1 : List Loc), kJ (dC, dI) cI ad ae H1 → va_S (lwA s) s.heap H1 locs1 → W p l e room_1 s m #[Value.ref b] below meth c H1 locs1 207 3939 Q (F0 m 959 ls [])) : W p l e room_1 s m #[Value.ref b] below meth c H locs 207 3939 Q (F0 m 936 ls []) := by
  obtain ⟨⟨hx, hb, hml, hown, hts⟩, -, ⟨hX, hbl, hL⟩, hK, hN, hG⟩ := hk
  obtain ⟨ML, MS, PL, PS, VL, VS, LL, RA, RS, RN, RL, h, hP, hR⟩ := hJ
  have hbA : ¬ lwA s b := Nat.not_le.mpr hbl
  refine lv_aload_n hx hb dL_law_936 rfl (lv_at hl 1 rfl) ?_
  refine lv_aload_n hx hb dL_law_937 rfl (lv_at hl 0 rfl) ?_
  refine lv_iload_n hx hb dL_law_938 rfl (lv_at hl 3 rfl) ?_
  refine lv_iconst (v := 1) hx hb dL_law_939 (by decide) ?_
  refine lv_iadd hx hb dL_law_940 ?_
  refine va_sld hx hb hX hbl hbA hS (lvx 1 hi6 (by omega) hL) dL_law_941 ?_
  refine k_rV (As := [.int (xs (nI i + 1).toNatClampNeg)]) (rest := []) hx hb hml hown hts hl.1 hP hK hN (c_o_count (ad := ad) hA.1.1 (xs (nI i + 1).toNatClampNeg)) eL_129 (ci := 6) (q0 := 0) rfl rfl (wM (k := 0) (by decide) rfl) rfl rfl (Nat.le_of_ble_eq_true rfl) ⟨Nat.le_of_ble_eq_true rfl, Nat.le_of_ble_eq_true rfl⟩ ⟨rfl, rfl⟩ ⟨Nat.le_of_ble_eq_true rfl, Nat.le_of_ble_eq_true rfl⟩ dL_law_942 ?_
  refine lv_aload_n hx hb dL_law_945 rfl (lv_at hl 2 rfl) ?_
  refine lv_aload_n hx hb dL_law_946 rfl (lv_at hl 0 rfl) ?_
  refine lv_iload_n hx hb dL_law_947 rfl (lv_at hl 3 rfl) ?_
  refine lv_iconst (v := 1) hx hb dL_law_948 (by decide) ?_
  refine lv_iadd hx hb dL_law_949 ?_
  refine va_sld hx hb hX hbl hbA hS (lvx 1 hi6 (by omega) hL) dL_law_950 ?_
  refine k_rV (As := [.int (xs (nI i + 1).toNatClampNeg)]) (rest := [.int ((o_count MS VS PS (xs (nI i + 1).toNatClampNeg)))]) hx hb hml hown hts hl.1 hR hK hN (c_m_count (ad := ae) hA.1.2 (xs (nI i + 1).toNatClampNeg)) eL_132 (ci := 7) (q0 := 0) rfl rfl rfl rfl rfl (Nat.le_of_ble_eq_true rfl) ⟨Nat.le_of_ble_eq_true rfl, Nat.le_of_ble_eq_true rfl⟩ ⟨rfl, rfl⟩ ⟨Nat.le_of_ble_eq_true rfl, Nat.le_of_ble_eq_true rfl⟩ dL_law_951 ?_
  refine lv_icmp_eq (tgt := 959) hx hb dL_law_954 (by decide) (fun _ => ?_) (fun c9 => absurd (sim_count h (xs (nI i + 1).toNatClampNeg)) c9)
  refine kk _ _ ⟨_, _, _, _, _, _, _, _, _, _, _, ?_, hP, hR⟩ hS
  exact h
end LAWC3
