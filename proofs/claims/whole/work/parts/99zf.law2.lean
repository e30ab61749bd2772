/-! the law's cases, 1 -/
theorem lvx {i L : Nat} (k : Nat) (h : i + 6 ≤ L) (hk : k < 6) (hL : L ≤ 3072) : vp_in (nI i + Int32.ofNat k) L := by
  rw [show nI i + Int32.ofNat k = nI (i + k) from nI_add i k]
  exact vp_in_nI (by omega) (by omega)
theorem over_keep {PL : Nat → Nat → Nat → Int32} {PS : Nat → Nat → Int32} {VL : Nat → Nat → Nat → Int32} {VS : Nat → Nat → Int32} (v1 v2 : Int32) : ∀ k, k < 3 → (o_over VL VS PL PS v1 v2).2.1 k = VL k ∧ (o_over VL VS PL PS v1 v2).2.2 k = VS k := by
  intro k hk
  have q := loR_keep (PL := PL) (PS := PS) 5 3 (va_up VL 3 (nS (VL 3) (VL 0) (VS 0))) (va_up VS 3 (nT (VL 3) (VL 0) (VS 0) (VS 3))) v1 v2 k (by omega)
  unfold o_over o_over_k45
  repeat' split
  all_goals first
    | exact ⟨rfl, rfl⟩
    | exact ⟨q.1.trans (va_up_ne _ _ (by omega)), q.2.trans (va_up_ne _ _ (by omega))⟩
section LAWC1
variable {p : Program} {l : Launch} {e : Env} {s : State} {m : MethodId} {below : List Frame} {meth : Method} {c : Code} {dC : Nat → ClassId} {dI : Nat → Nat → Nat} {cI : ClassId} {ga : Nat → Nat} {b L : Nat} {xs : Nat → Int32} {ad ae : Nat → Nat} {i : Nat} {H : Heap} {locs : List Loc} {ls : Array Slot} {Q : State → Prop}
set_option maxHeartbeats 4000000 in
set_option maxRecDepth 100000 in
theorem law_write (hk : lawK p s m meth c b L xs (dC, dI) cI ga) (hA : adOk s ad ae) (hi6 : i + 6 ≤ L) (hJ : kJ (dC, dI) cI ad ae H) (hS : va_S (lwA s) s.heap H locs) (hl : lv_has ls 4 [(0, .ref b), (1, .ref (ad 0)), (2, .ref (ae 0)), (3, .int (nI i))])
    (kk : ∀ (H1 : Heap) (locs1 : List Loc), kJ (dC, dI) cI ad ae H1 → va_S (lwA s) s.heap H1 locs1 → W p l e room_1 s m #[Value.ref b] below meth c H1 locs1 207 3939 Q (F0 m 959 ls [])) : W p l e room_1 s m #[Value.ref b] below meth c H locs 207 3939 Q (F0 m 156 ls []) := by
  obtain ⟨⟨hx, hb, hml, hown, hts⟩, -, ⟨hX, hbl, hL⟩, hK, hN, hG⟩ := hk
  obtain ⟨ML, MS, PL, PS, VL, VS, LL, RA, RS, RN, RL, h, hP, hR⟩ := hJ
  have hbA : ¬ lwA s b := Nat.not_le.mpr hbl
  refine lv_aload_n hx hb dL_law_156 rfl (lv_at hl 1 rfl) ?_
  refine lv_aload_n hx hb dL_law_157 rfl (lv_at hl 0 rfl) ?_
  refine lv_iload_n hx hb dL_law_158 rfl (lv_at hl 3 rfl) ?_
  refine lv_iconst (v := 1) hx hb dL_law_159 (by decide) ?_
  refine lv_iadd hx hb dL_law_160 ?_
  refine va_sld hx hb hX hbl hbA hS (lvx 1 hi6 (by omega) hL) dL_law_161 ?_
  refine lv_aload_n hx hb dL_law_162 rfl (lv_at hl 0 rfl) ?_
  refine lv_iload_n hx hb dL_law_163 rfl (lv_at hl 3 rfl) ?_
  refine lv_iconst (v := 2) hx hb dL_law_164 (by decide) ?_
  refine lv_iadd hx hb dL_law_165 ?_
  refine va_sld hx hb hX hbl hbA hS (lvx 2 hi6 (by omega) hL) dL_law_166 ?_
  refine lv_i2l hx hb dL_law_167 rfl ?_
  refine lv_bipush (v := 32) hx hb dL_law_168 (by decide) ?_
  refine lv_lshl hx hb dL_law_170 rfl ?_
  refine lv_aload_n hx hb dL_law_171 rfl (lv_at hl 0 rfl) ?_
  refine lv_iload_n hx hb dL_law_172 rfl (lv_at hl 3 rfl) ?_
  refine lv_iconst (v := 3) hx hb dL_law_173 (by decide) ?_
  refine lv_iadd hx hb dL_law_174 ?_
  refine va_sld hx hb hX hbl hbA hS (lvx 3 hi6 (by omega) hL) dL_law_175 ?_
  refine lv_i2l hx hb dL_law_176 rfl ?_
  refine lv_ldc2 (v := 4294967295) hx hb hown (hts _ kL_13) dL_law_177 ?_
  refine lv_land hx hb dL_law_180 ?_
  refine lv_lor hx hb dL_law_181 ?_
  refine k_wL (As := [.int (xs (nI i + 1).toNatClampNeg), .long ((((xs (nI i + 2).toNatClampNeg)).toInt64 <<< ((32 : Int32).toInt64 &&& 63)) ||| (((xs (nI i + 3).toNatClampNeg)).toInt64 &&& 4294967295))]) (rest := []) hA.c hx hb hml hown hts hl.1 hP hK hS kB.blind (fun U hU hW => kB.of hP hK hN hU hW) (c_o_write (ad := ad) hA.1.1 (xs (nI i + 1).toNatClampNeg) ((((xs (nI i + 2).toNatClampNeg)).toInt64 <<< ((32 : Int32).toInt64 &&& 63)) ||| (((xs (nI i + 3).toNatClampNeg)).toInt64 &&& 4294967295))) eL_15 (ci := 6) (q0 := 0) rfl rfl (wM (k := 0) (by decide) rfl) rfl rfl (Nat.le_of_ble_eq_true rfl) ⟨Nat.le_of_ble_eq_true rfl, Nat.le_of_ble_eq_true rfl⟩ ⟨rfl, rfl⟩ ⟨Nat.le_of_ble_eq_true rfl, Nat.le_of_ble_eq_true rfl⟩ dL_law_182 (fun H1 locs1 hW1 hq1 hS1 => ?_)
  have hR1 := keepR hA hR hq1
  refine lv_aload_n hx hb dL_law_185 rfl (lv_at hl 2 rfl) ?_
  refine lv_aload_n hx hb dL_law_186 rfl (lv_at hl 0 rfl) ?_
  refine lv_iload_n hx hb dL_law_187 rfl (lv_at hl 3 rfl) ?_
  refine lv_iconst (v := 1) hx hb dL_law_188 (by decide) ?_
  refine lv_iadd hx hb dL_law_189 ?_
  refine va_sld hx hb hX hbl hbA hS1 (lvx 1 hi6 (by omega) hL) dL_law_190 ?_
  refine lv_aload_n hx hb dL_law_191 rfl (lv_at hl 0 rfl) ?_
  refine lv_iload_n hx hb dL_law_192 rfl (lv_at hl 3 rfl) ?_
  refine lv_iconst (v := 2) hx hb dL_law_193 (by decide) ?_
  refine lv_iadd hx hb dL_law_194 ?_
  refine va_sld hx hb hX hbl hbA hS1 (lvx 2 hi6 (by omega) hL) dL_law_195 ?_
  refine lv_i2l hx hb dL_law_196 rfl ?_
  refine lv_bipush (v := 32) hx hb dL_law_197 (by decide) ?_
  refine lv_lshl hx hb dL_law_199 rfl ?_
  refine lv_aload_n hx hb dL_law_200 rfl (lv_at hl 0 rfl) ?_
  refine lv_iload_n hx hb dL_law_201 rfl (lv_at hl 3 rfl) ?_
  refine lv_iconst (v := 3) hx hb dL_law_202 (by decide) ?_
  refine lv_iadd hx hb dL_law_203 ?_
  refine va_sld hx hb hX hbl hbA hS1 (lvx 3 hi6 (by omega) hL) dL_law_204 ?_
  refine lv_i2l hx hb dL_law_205 rfl ?_
  refine lv_ldc2 (v := 4294967295) hx hb hown (hts _ kL_13) dL_law_206 ?_
  refine lv_land hx hb dL_law_209 ?_
  refine lv_lor hx hb dL_law_210 ?_
  refine k_wL (As := [.int (xs (nI i + 1).toNatClampNeg), .long ((((xs (nI i + 2).toNatClampNeg)).toInt64 <<< ((32 : Int32).toInt64 &&& 63)) ||| (((xs (nI i + 3).toNatClampNeg)).toInt64 &&& 4294967295))]) (rest := [.int ((o_write ML MS (xs (nI i + 1).toNatClampNeg) ((((xs (nI i + 2).toNatClampNeg)).toInt64 <<< ((32 : Int32).toInt64 &&& 63)) ||| (((xs (nI i + 3).toNatClampNeg)).toInt64 &&& 4294967295))).1)]) hA.r hx hb hml hown hts hl.1 hR1 hK hS1 kB.blind (fun U hU hW => kB.of hR1 hK hN hU hW) (c_m_write (ad := ae) hA.1.2 (xs (nI i + 1).toNatClampNeg) ((((xs (nI i + 2).toNatClampNeg)).toInt64 <<< ((32 : Int32).toInt64 &&& 63)) ||| (((xs (nI i + 3).toNatClampNeg)).toInt64 &&& 4294967295)) h.D.M) eL_19 (ci := 7) (q0 := 0) rfl rfl rfl rfl rfl (Nat.le_of_ble_eq_true rfl) ⟨Nat.le_of_ble_eq_true rfl, Nat.le_of_ble_eq_true rfl⟩ ⟨rfl, rfl⟩ ⟨Nat.le_of_ble_eq_true rfl, Nat.le_of_ble_eq_true rfl⟩ dL_law_211 (fun H2 locs2 hW2 hq2 hS2 => ?_)
  have hC2 := keepC hA hW1 hq2
  refine lv_icmp_eq (tgt := 959) hx hb dL_law_214 (by decide) (fun _ => ?_) (fun c9 => absurd (sim_write h (xs (nI i + 1).toNatClampNeg) ((((xs (nI i + 2).toNatClampNeg)).toInt64 <<< ((32 : Int32).toInt64 &&& 63)) ||| (((xs (nI i + 3).toNatClampNeg)).toInt64 &&& 4294967295))).1 c9)
  refine kk _ _ ⟨_, _, _, _, _, _, _, _, _, _, _, ?_, hC2, hW2⟩ hS2
  exact (sim_write h (xs (nI i + 1).toNatClampNeg) ((((xs (nI i + 2).toNatClampNeg)).toInt64 <<< ((32 : Int32).toInt64 &&& 63)) ||| (((xs (nI i + 3).toNatClampNeg)).toInt64 &&& 4294967295))).2
set_option maxHeartbeats 4000000 in
set_option maxRecDepth 100000 in
theorem law_wipe (hk : lawK p s m meth c b L xs (dC, dI) cI ga) (hA : adOk s ad ae) (hi6 : i + 6 ≤ L) (hJ : kJ (dC, dI) cI ad ae H) (hS : va_S (lwA s) s.heap H locs) (hl : lv_has ls 4 [(0, .ref b), (1, .ref (ad 0)), (2, .ref (ae 0)), (3, .int (nI i))])
    (kk : ∀ (H1 : Heap) (locs1 : List Loc), kJ (dC, dI) cI ad ae H1 → va_S (lwA s) s.heap H1 locs1 → W p l e room_1 s m #[Value.ref b] below meth c H1 locs1 207 3939 Q (F0 m 959 ls [])) : W p l e room_1 s m #[Value.ref b] below meth c H locs 207 3939 Q (F0 m 219 ls []) := by
  obtain ⟨⟨hx, hb, hml, hown, hts⟩, -, ⟨hX, hbl, hL⟩, hK, hN, hG⟩ := hk
  obtain ⟨ML, MS, PL, PS, VL, VS, LL, RA, RS, RN, RL, h, hP, hR⟩ := hJ
  have hbA : ¬ lwA s b := Nat.not_le.mpr hbl
  refine lv_aload_n hx hb dL_law_219 rfl (lv_at hl 1 rfl) ?_
  refine k_wL (As := []) (rest := []) hA.c hx hb hml hown hts hl.1 hP hK hS kB.blind (fun U hU hW => kB.of hP hK hN hU hW) (c_o_wipe (ad := ad) hA.1.1) eL_20 (ci := 6) (q0 := 0) rfl rfl (wM (k := 0) (by decide) rfl) rfl rfl (Nat.le_of_ble_eq_true rfl) ⟨Nat.le_of_ble_eq_true rfl, Nat.le_of_ble_eq_true rfl⟩ ⟨rfl, rfl⟩ ⟨Nat.le_of_ble_eq_true rfl, Nat.le_of_ble_eq_true rfl⟩ dL_law_220 (fun H1 locs1 hW1 hq1 hS1 => ?_)
  have hR1 := keepR hA hR hq1
  refine lv_aload_n hx hb dL_law_223 rfl (lv_at hl 2 rfl) ?_
  refine k_wL (As := []) (rest := [.int ((o_wipe MS).1)]) hA.r hx hb hml hown hts hl.1 hR1 hK hS1 kB.blind (fun U hU hW => kB.of hR1 hK hN hU hW) (c_m_wipe (ad := ae) hA.1.2) eL_24 (ci := 7) (q0 := 0) rfl rfl rfl rfl rfl (Nat.le_of_ble_eq_true rfl) ⟨Nat.le_of_ble_eq_true rfl, Nat.le_of_ble_eq_true rfl⟩ ⟨rfl, rfl⟩ ⟨Nat.le_of_ble_eq_true rfl, Nat.le_of_ble_eq_true rfl⟩ dL_law_224 (fun H2 locs2 hW2 hq2 hS2 => ?_)
  have hC2 := keepC hA hW1 hq2
  refine lv_icmp_eq (tgt := 959) hx hb dL_law_227 (by decide) (fun _ => ?_) (fun c9 => absurd (sim_wipe h).1 c9)
  refine kk _ _ ⟨_, _, _, _, _, _, _, _, _, _, _, ?_, hC2, hW2⟩ hS2
  exact (sim_wipe h).2
set_option maxHeartbeats 4000000 in
set_option maxRecDepth 100000 in
theorem law_fault (hk : lawK p s m meth c b L xs (dC, dI) cI ga) (hA : adOk s ad ae) (hi6 : i + 6 ≤ L) (hJ : kJ (dC, dI) cI ad ae H) (hS : va_S (lwA s) s.heap H locs) (hl : lv_has ls 4 [(0, .ref b), (1, .ref (ad 0)), (2, .ref (ae 0)), (3, .int (nI i))])
    (kk : ∀ (H1 : Heap) (locs1 : List Loc), kJ (dC, dI) cI ad ae H1 → va_S (lwA s) s.heap H1 locs1 → W p l e room_1 s m #[Value.ref b] below meth c H1 locs1 207 3939 Q (F0 m 959 ls [])) : W p l e room_1 s m #[Value.ref b] below meth c H locs 207 3939 Q (F0 m 232 ls []) := by
  obtain ⟨⟨hx, hb, hml, hown, hts⟩, -, ⟨hX, hbl, hL⟩, hK, hN, hG⟩ := hk
  obtain ⟨ML, MS, PL, PS, VL, VS, LL, RA, RS, RN, RL, h, hP, hR⟩ := hJ
  have hbA : ¬ lwA s b := Nat.not_le.mpr hbl
  refine lv_aload_n hx hb dL_law_232 rfl (lv_at hl 1 rfl) ?_
  refine k_wL (As := []) (rest := []) hA.c hx hb hml hown hts hl.1 hP hK hS kBG.blind (fun U hU hW => ⟨kB.of hP hK hN hU hW, (hG.of hS hU hW).narrow hA.c⟩) (c_o_fault (ad := ad) hA.1.1) eL_25 (ci := 6) (q0 := 0) rfl rfl (wM (k := 0) (by decide) rfl) rfl rfl (Nat.le_of_ble_eq_true rfl) ⟨Nat.le_of_ble_eq_true rfl, Nat.le_of_ble_eq_true rfl⟩ ⟨rfl, rfl⟩ ⟨Nat.le_of_ble_eq_true rfl, Nat.le_of_ble_eq_true rfl⟩ dL_law_233 (fun H1 locs1 hW1 hq1 hS1 => ?_)
  have hR1 := keepR hA hR hq1
  refine lv_aload_n hx hb dL_law_236 rfl (lv_at hl 2 rfl) ?_
  refine k_wL (As := []) (rest := [.int ((o_fault ML MS PL PS).1)]) hA.r hx hb hml hown hts hl.1 hR1 hK hS1 kB.blind (fun U hU hW => kB.of hR1 hK hN hU hW) (c_m_fault (ad := ae) hA.1.2 h.D.M) eL_28 (ci := 7) (q0 := 0) rfl rfl rfl rfl rfl (Nat.le_of_ble_eq_true rfl) ⟨Nat.le_of_ble_eq_true rfl, Nat.le_of_ble_eq_true rfl⟩ ⟨rfl, rfl⟩ ⟨Nat.le_of_ble_eq_true rfl, Nat.le_of_ble_eq_true rfl⟩ dL_law_237 (fun H2 locs2 hW2 hq2 hS2 => ?_)
  have hC2 := keepC hA hW1 hq2
  refine lv_icmp_eq (tgt := 959) hx hb dL_law_240 (by decide) (fun _ => ?_) (fun c9 => absurd (sim_fault h _ _ rfl rfl).1 c9)
  refine kk _ _ ⟨_, _, _, _, _, _, _, _, _, _, _, ?_, hC2, hW2⟩ hS2
  exact (sim_fault h _ _ rfl rfl).2
set_option maxHeartbeats 4000000 in
set_option maxRecDepth 100000 in
theorem law_lay (hk : lawK p s m meth c b L xs (dC, dI) cI ga) (hA : adOk s ad ae) (hi6 : i + 6 ≤ L) (hJ : kJ (dC, dI) cI ad ae H) (hS : va_S (lwA s) s.heap H locs) (hl : lv_has ls 4 [(0, .ref b), (1, .ref (ad 0)), (2, .ref (ae 0)), (3, .int (nI i))])
    (kk : ∀ (H1 : Heap) (locs1 : List Loc), kJ (dC, dI) cI ad ae H1 → va_S (lwA s) s.heap H1 locs1 → W p l e room_1 s m #[Value.ref b] below meth c H1 locs1 207 3939 Q (F0 m 959 ls [])) : W p l e room_1 s m #[Value.ref b] below meth c H locs 207 3939 Q (F0 m 245 ls []) := by
  obtain ⟨⟨hx, hb, hml, hown, hts⟩, -, ⟨hX, hbl, hL⟩, hK, hN, hG⟩ := hk
  obtain ⟨ML, MS, PL, PS, VL, VS, LL, RA, RS, RN, RL, h, hP, hR⟩ := hJ
  have hbA : ¬ lwA s b := Nat.not_le.mpr hbl
  refine lv_aload_n hx hb dL_law_245 rfl (lv_at hl 1 rfl) ?_
  refine k_wL (As := []) (rest := []) hA.c hx hb hml hown hts hl.1 hP hK hS kBG.blind (fun U hU hW => ⟨kB.of hP hK hN hU hW, (hG.of hS hU hW).narrow hA.c⟩) (c_o_lay (ad := ad) hA.1.1) eL_29 (ci := 6) (q0 := 0) rfl rfl (wM (k := 0) (by decide) rfl) rfl rfl (Nat.le_of_ble_eq_true rfl) ⟨Nat.le_of_ble_eq_true rfl, Nat.le_of_ble_eq_true rfl⟩ ⟨rfl, rfl⟩ ⟨Nat.le_of_ble_eq_true rfl, Nat.le_of_ble_eq_true rfl⟩ dL_law_246 (fun H1 locs1 hW1 hq1 hS1 => ?_)
  have hR1 := keepR hA hR hq1
  refine lv_aload_n hx hb dL_law_249 rfl (lv_at hl 2 rfl) ?_
  refine k_wL (As := []) (rest := [.int ((o_lay ML MS VL VS PL PS).1)]) hA.r hx hb hml hown hts hl.1 hR1 hK hS1 kB.blind (fun U hU hW => kB.of hR1 hK hN hU hW) (c_m_lay (ad := ae) hA.1.2 h.D.M) eL_32 (ci := 7) (q0 := 0) rfl rfl rfl rfl rfl (Nat.le_of_ble_eq_true rfl) ⟨Nat.le_of_ble_eq_true rfl, Nat.le_of_ble_eq_true rfl⟩ ⟨rfl, rfl⟩ ⟨Nat.le_of_ble_eq_true rfl, Nat.le_of_ble_eq_true rfl⟩ dL_law_250 (fun H2 locs2 hW2 hq2 hS2 => ?_)
  have hC2 := keepC hA hW1 hq2
  refine lv_icmp_eq (tgt := 959) hx hb dL_law_253 (by decide) (fun _ => ?_) (fun c9 => absurd (sim_lay h _ _ rfl rfl).1 c9)
  refine kk _ _ ⟨_, _, _, _, _, _, _, _, _, _, _, ?_, hC2, hW2⟩ hS2
  exact (sim_lay h _ _ rfl rfl).2
set_option maxHeartbeats 4000000 in
set_option maxRecDepth 100000 in
theorem law_roof (hk : lawK p s m meth c b L xs (dC, dI) cI ga) (hA : adOk s ad ae) (hi6 : i + 6 ≤ L) (hJ : kJ (dC, dI) cI ad ae H) (hS : va_S (lwA s) s.heap H locs) (hl : lv_has ls 4 [(0, .ref b), (1, .ref (ad 0)), (2, .ref (ae 0)), (3, .int (nI i))])
    (kk : ∀ (H1 : Heap) (locs1 : List Loc), kJ (dC, dI) cI ad ae H1 → va_S (lwA s) s.heap H1 locs1 → W p l e room_1 s m #[Value.ref b] below meth c H1 locs1 207 3939 Q (F0 m 959 ls [])) : W p l e room_1 s m #[Value.ref b] below meth c H locs 207 3939 Q (F0 m 258 ls []) := by
  obtain ⟨⟨hx, hb, hml, hown, hts⟩, -, ⟨hX, hbl, hL⟩, hK, hN, hG⟩ := hk
  obtain ⟨ML, MS, PL, PS, VL, VS, LL, RA, RS, RN, RL, h, hP, hR⟩ := hJ
  have hbA : ¬ lwA s b := Nat.not_le.mpr hbl
  refine lv_aload_n hx hb dL_law_258 rfl (lv_at hl 1 rfl) ?_
  refine lv_aload_n hx hb dL_law_259 rfl (lv_at hl 0 rfl) ?_
  refine lv_iload_n hx hb dL_law_260 rfl (lv_at hl 3 rfl) ?_
  refine lv_iconst (v := 1) hx hb dL_law_261 (by decide) ?_
  refine lv_iadd hx hb dL_law_262 ?_
  refine va_sld hx hb hX hbl hbA hS (lvx 1 hi6 (by omega) hL) dL_law_263 ?_
  refine lv_aload_n hx hb dL_law_264 rfl (lv_at hl 0 rfl) ?_
  refine lv_iload_n hx hb dL_law_265 rfl (lv_at hl 3 rfl) ?_
  refine lv_iconst (v := 2) hx hb dL_law_266 (by decide) ?_
  refine lv_iadd hx hb dL_law_267 ?_
  refine va_sld hx hb hX hbl hbA hS (lvx 2 hi6 (by omega) hL) dL_law_268 ?_
  refine k_rV (As := [.int (xs (nI i + 1).toNatClampNeg), .int (xs (nI i + 2).toNatClampNeg)]) (rest := []) hx hb hml hown hts hl.1 hP hK hN (c_o_roof (ad := ad) hA.1.1 (xs (nI i + 1).toNatClampNeg) (xs (nI i + 2).toNatClampNeg)) eL_33 (ci := 6) (q0 := 0) rfl rfl (wM (k := 0) (by decide) rfl) rfl rfl (Nat.le_of_ble_eq_true rfl) ⟨Nat.le_of_ble_eq_true rfl, Nat.le_of_ble_eq_true rfl⟩ ⟨rfl, rfl⟩ ⟨Nat.le_of_ble_eq_true rfl, Nat.le_of_ble_eq_true rfl⟩ dL_law_269 ?_
  refine lv_aload_n hx hb dL_law_272 rfl (lv_at hl 2 rfl) ?_
  refine lv_aload_n hx hb dL_law_273 rfl (lv_at hl 0 rfl) ?_
  refine lv_iload_n hx hb dL_law_274 rfl (lv_at hl 3 rfl) ?_
  refine lv_iconst (v := 1) hx hb dL_law_275 (by decide) ?_
  refine lv_iadd hx hb dL_law_276 ?_
  refine va_sld hx hb hX hbl hbA hS (lvx 1 hi6 (by omega) hL) dL_law_277 ?_
  refine lv_aload_n hx hb dL_law_278 rfl (lv_at hl 0 rfl) ?_
  refine lv_iload_n hx hb dL_law_279 rfl (lv_at hl 3 rfl) ?_
  refine lv_iconst (v := 2) hx hb dL_law_280 (by decide) ?_
  refine lv_iadd hx hb dL_law_281 ?_
  refine va_sld hx hb hX hbl hbA hS (lvx 2 hi6 (by omega) hL) dL_law_282 ?_
  refine k_wL (As := [.int (xs (nI i + 1).toNatClampNeg), .int (xs (nI i + 2).toNatClampNeg)]) (rest := [.int ((o_roof VL VS PL PS (xs (nI i + 1).toNatClampNeg) (xs (nI i + 2).toNatClampNeg)))]) hA.r hx hb hml hown hts hl.1 hR hK hS kB.blind (fun U hU hW => kB.of hR hK hN hU hW) (c_m_roof (ad := ae) hA.1.2 (xs (nI i + 1).toNatClampNeg) (xs (nI i + 2).toNatClampNeg) h.D.M) eL_37 (ci := 7) (q0 := 0) rfl rfl rfl rfl rfl (Nat.le_of_ble_eq_true rfl) ⟨Nat.le_of_ble_eq_true rfl, Nat.le_of_ble_eq_true rfl⟩ ⟨rfl, rfl⟩ ⟨Nat.le_of_ble_eq_true rfl, Nat.le_of_ble_eq_true rfl⟩ dL_law_283 (fun H2 locs2 hW2 hq2 hS2 => ?_)
  have hC2 := keepC hA hP hq2
  refine lv_icmp_eq (tgt := 959) hx hb dL_law_286 (by decide) (fun _ => ?_) (fun c9 => absurd (sim_roof h (xs (nI i + 1).toNatClampNeg) (xs (nI i + 2).toNatClampNeg)) c9)
  refine kk _ _ ⟨_, _, _, _, _, _, _, _, _, _, _, ?_, hC2, hW2⟩ hS2
  exact h.look6 rfl rfl (fun _ _ => ⟨rfl, rfl⟩) _ _ _ _
set_option maxHeartbeats 4000000 in
set_option maxRecDepth 100000 in
theorem law_thought (hk : lawK p s m meth c b L xs (dC, dI) cI ga) (hA : adOk s ad ae) (hi6 : i + 6 ≤ L) (hJ : kJ (dC, dI) cI ad ae H) (hS : va_S (lwA s) s.heap H locs) (hl : lv_has ls 4 [(0, .ref b), (1, .ref (ad 0)), (2, .ref (ae 0)), (3, .int (nI i))])
    (kk : ∀ (H1 : Heap) (locs1 : List Loc), kJ (dC, dI) cI ad ae H1 → va_S (lwA s) s.heap H1 locs1 → W p l e room_1 s m #[Value.ref b] below meth c H1 locs1 207 3939 Q (F0 m 959 ls [])) : W p l e room_1 s m #[Value.ref b] below meth c H locs 207 3939 Q (F0 m 291 ls []) := by
  obtain ⟨⟨hx, hb, hml, hown, hts⟩, -, ⟨hX, hbl, hL⟩, hK, hN, hG⟩ := hk
  obtain ⟨ML, MS, PL, PS, VL, VS, LL, RA, RS, RN, RL, h, hP, hR⟩ := hJ
  have hbA : ¬ lwA s b := Nat.not_le.mpr hbl
  refine lv_aload_n hx hb dL_law_291 rfl (lv_at hl 1 rfl) ?_
  refine lv_aload_n hx hb dL_law_292 rfl (lv_at hl 0 rfl) ?_
  refine lv_iload_n hx hb dL_law_293 rfl (lv_at hl 3 rfl) ?_
  refine lv_iconst (v := 1) hx hb dL_law_294 (by decide) ?_
  refine lv_iadd hx hb dL_law_295 ?_
  refine va_sld hx hb hX hbl hbA hS (lvx 1 hi6 (by omega) hL) dL_law_296 ?_
  refine lv_aload_n hx hb dL_law_297 rfl (lv_at hl 0 rfl) ?_
  refine lv_iload_n hx hb dL_law_298 rfl (lv_at hl 3 rfl) ?_
  refine lv_iconst (v := 2) hx hb dL_law_299 (by decide) ?_
  refine lv_iadd hx hb dL_law_300 ?_
  refine va_sld hx hb hX hbl hbA hS (lvx 2 hi6 (by omega) hL) dL_law_301 ?_
  refine k_rV (As := [.int (xs (nI i + 1).toNatClampNeg), .int (xs (nI i + 2).toNatClampNeg)]) (rest := []) hx hb hml hown hts hl.1 hP hK hN (c_o_thought (ad := ad) hA.1.1 (xs (nI i + 1).toNatClampNeg) (xs (nI i + 2).toNatClampNeg)) eL_38 (ci := 6) (q0 := 0) rfl rfl (wM (k := 0) (by decide) rfl) rfl rfl (Nat.le_of_ble_eq_true rfl) ⟨Nat.le_of_ble_eq_true rfl, Nat.le_of_ble_eq_true rfl⟩ ⟨rfl, rfl⟩ ⟨Nat.le_of_ble_eq_true rfl, Nat.le_of_ble_eq_true rfl⟩ dL_law_302 ?_
  refine lv_aload_n hx hb dL_law_305 rfl (lv_at hl 2 rfl) ?_
  refine lv_aload_n hx hb dL_law_306 rfl (lv_at hl 0 rfl) ?_
  refine lv_iload_n hx hb dL_law_307 rfl (lv_at hl 3 rfl) ?_
  refine lv_iconst (v := 1) hx hb dL_law_308 (by decide) ?_
  refine lv_iadd hx hb dL_law_309 ?_
  refine va_sld hx hb hX hbl hbA hS (lvx 1 hi6 (by omega) hL) dL_law_310 ?_
  refine lv_aload_n hx hb dL_law_311 rfl (lv_at hl 0 rfl) ?_
  refine lv_iload_n hx hb dL_law_312 rfl (lv_at hl 3 rfl) ?_
  refine lv_iconst (v := 2) hx hb dL_law_313 (by decide) ?_
  refine lv_iadd hx hb dL_law_314 ?_
  refine va_sld hx hb hX hbl hbA hS (lvx 2 hi6 (by omega) hL) dL_law_315 ?_
  refine k_rV (As := [.int (xs (nI i + 1).toNatClampNeg), .int (xs (nI i + 2).toNatClampNeg)]) (rest := [.int ((o_thought VL VS PL PS (xs (nI i + 1).toNatClampNeg) (xs (nI i + 2).toNatClampNeg)))]) hx hb hml hown hts hl.1 hR hK hN (c_m_thought (ad := ae) hA.1.2 (xs (nI i + 1).toNatClampNeg) (xs (nI i + 2).toNatClampNeg) h.D.M) eL_41 (ci := 7) (q0 := 0) rfl rfl rfl rfl rfl (Nat.le_of_ble_eq_true rfl) ⟨Nat.le_of_ble_eq_true rfl, Nat.le_of_ble_eq_true rfl⟩ ⟨rfl, rfl⟩ ⟨Nat.le_of_ble_eq_true rfl, Nat.le_of_ble_eq_true rfl⟩ dL_law_316 ?_
  refine lv_icmp_eq (tgt := 959) hx hb dL_law_319 (by decide) (fun _ => ?_) (fun c9 => absurd (sim_thought h (xs (nI i + 1).toNatClampNeg) (xs (nI i + 2).toNatClampNeg)) c9)
  refine kk _ _ ⟨_, _, _, _, _, _, _, _, _, _, _, ?_, hP, hR⟩ hS
  exact h
set_option maxHeartbeats 4000000 in
set_option maxRecDepth 100000 in
theorem law_now (hk : lawK p s m meth c b L xs (dC, dI) cI ga) (hA : adOk s ad ae) (hi6 : i + 6 ≤ L) (hJ : kJ (dC, dI) cI ad ae H) (hS : va_S (lwA s) s.heap H locs) (hl : lv_has ls 4 [(0, .ref b), (1, .ref (ad 0)), (2, .ref (ae 0)), (3, .int (nI i))])
    (kk : ∀ (H1 : Heap) (locs1 : List Loc), kJ (dC, dI) cI ad ae H1 → va_S (lwA s) s.heap H1 locs1 → W p l e room_1 s m #[Value.ref b] below meth c H1 locs1 207 3939 Q (F0 m 959 ls [])) : W p l e room_1 s m #[Value.ref b] below meth c H locs 207 3939 Q (F0 m 324 ls []) := by
  obtain ⟨⟨hx, hb, hml, hown, hts⟩, -, ⟨hX, hbl, hL⟩, hK, hN, hG⟩ := hk
  obtain ⟨ML, MS, PL, PS, VL, VS, LL, RA, RS, RN, RL, h, hP, hR⟩ := hJ
  have hbA : ¬ lwA s b := Nat.not_le.mpr hbl
  refine lv_aload_n hx hb dL_law_324 rfl (lv_at hl 1 rfl) ?_
  refine lv_aload_n hx hb dL_law_325 rfl (lv_at hl 0 rfl) ?_
  refine lv_iload_n hx hb dL_law_326 rfl (lv_at hl 3 rfl) ?_
  refine lv_iconst (v := 1) hx hb dL_law_327 (by decide) ?_
  refine lv_iadd hx hb dL_law_328 ?_
  refine va_sld hx hb hX hbl hbA hS (lvx 1 hi6 (by omega) hL) dL_law_329 ?_
  refine k_rV (As := [.int (xs (nI i + 1).toNatClampNeg)]) (rest := []) hx hb hml hown hts hl.1 hP hK hN (c_o_now (ad := ad) hA.1.1 (xs (nI i + 1).toNatClampNeg)) eL_42 (ci := 6) (q0 := 0) rfl rfl (wM (k := 0) (by decide) rfl) rfl rfl (Nat.le_of_ble_eq_true rfl) ⟨Nat.le_of_ble_eq_true rfl, Nat.le_of_ble_eq_true rfl⟩ ⟨rfl, rfl⟩ ⟨Nat.le_of_ble_eq_true rfl, Nat.le_of_ble_eq_true rfl⟩ dL_law_330 ?_
  refine lv_aload_n hx hb dL_law_333 rfl (lv_at hl 2 rfl) ?_
  refine lv_aload_n hx hb dL_law_334 rfl (lv_at hl 0 rfl) ?_
  refine lv_iload_n hx hb dL_law_335 rfl (lv_at hl 3 rfl) ?_
  refine lv_iconst (v := 1) hx hb dL_law_336 (by decide) ?_
  refine lv_iadd hx hb dL_law_337 ?_
  refine va_sld hx hb hX hbl hbA hS (lvx 1 hi6 (by omega) hL) dL_law_338 ?_
  refine k_rV (As := [.int (xs (nI i + 1).toNatClampNeg)]) (rest := [.int ((o_now VS PS (xs (nI i + 1).toNatClampNeg)))]) hx hb hml hown hts hl.1 hR hK hN (c_m_now (ad := ae) hA.1.2 (xs (nI i + 1).toNatClampNeg)) eL_46 (ci := 7) (q0 := 0) rfl rfl rfl rfl rfl (Nat.le_of_ble_eq_true rfl) ⟨Nat.le_of_ble_eq_true rfl, Nat.le_of_ble_eq_true rfl⟩ ⟨rfl, rfl⟩ ⟨Nat.le_of_ble_eq_true rfl, Nat.le_of_ble_eq_true rfl⟩ dL_law_339 ?_
  refine lv_icmp_eq (tgt := 959) hx hb dL_law_342 (by decide) (fun _ => ?_) (fun c9 => absurd (sim_now h (xs (nI i + 1).toNatClampNeg)) c9)
  refine kk _ _ ⟨_, _, _, _, _, _, _, _, _, _, _, ?_, hP, hR⟩ hS
  exact h
set_option maxHeartbeats 4000000 in
set_option maxRecDepth 100000 in
theorem law_creak (hk : lawK p s m meth c b L xs (dC, dI) cI ga) (hA : adOk s ad ae) (hi6 : i + 6 ≤ L) (hJ : kJ (dC, dI) cI ad ae H) (hS : va_S (lwA s) s.heap H locs) (hl : lv_has ls 4 [(0, .ref b), (1, .ref (ad 0)), (2, .ref (ae 0)), (3, .int (nI i))])
    (kk : ∀ (H1 : Heap) (locs1 : List Loc), kJ (dC, dI) cI ad ae H1 → va_S (lwA s) s.heap H1 locs1 → W p l e room_1 s m #[Value.ref b] below meth c H1 locs1 207 3939 Q (F0 m 959 ls [])) : W p l e room_1 s m #[Value.ref b] below meth c H locs 207 3939 Q (F0 m 347 ls []) := by
  obtain ⟨⟨hx, hb, hml, hown, hts⟩, -, ⟨hX, hbl, hL⟩, hK, hN, hG⟩ := hk
  obtain ⟨ML, MS, PL, PS, VL, VS, LL, RA, RS, RN, RL, h, hP, hR⟩ := hJ
  have hbA : ¬ lwA s b := Nat.not_le.mpr hbl
  obtain ⟨bz, hbz⟩ : ∃ z : Int32, z = if (xs (nI i + 2).toNatClampNeg) = 0 then 0 else 1 := ⟨_, rfl⟩
  have h01 : bz = 0 ∨ bz = 1 := by rw [hbz]; by_cases c1 : (xs (nI i + 2).toNatClampNeg) = 0
                                   · rw [if_pos c1]; exact Or.inl rfl
                                   · rw [if_neg c1]; exact Or.inr rfl
  refine lv_aload_n hx hb dL_law_347 rfl (lv_at hl 1 rfl) ?_
  refine lv_aload_n hx hb dL_law_348 rfl (lv_at hl 0 rfl) ?_
  refine lv_iload_n hx hb dL_law_349 rfl (lv_at hl 3 rfl) ?_
  refine lv_iconst (v := 1) hx hb dL_law_350 (by decide) ?_
  refine lv_iadd hx hb dL_law_351 ?_
  refine va_sld hx hb hX hbl hbA hS (lvx 1 hi6 (by omega) hL) dL_law_352 ?_
  refine lv_aload_n hx hb dL_law_353 rfl (lv_at hl 0 rfl) ?_
  refine lv_iload_n hx hb dL_law_354 rfl (lv_at hl 3 rfl) ?_
  refine lv_iconst (v := 2) hx hb dL_law_355 (by decide) ?_
  refine lv_iadd hx hb dL_law_356 ?_
  refine va_sld hx hb hX hbl hbA hS (lvx 2 hi6 (by omega) hL) dL_law_357 ?_
  suffices hz0 : W p l e room_1 s m #[Value.ref b] below meth c H locs 207 3939 Q (F0 m 366 ls [.int bz, .int (xs (nI i + 1).toNatClampNeg), .ref (ad 0)]) by
    refine lv_if_eq (tgt := 365) hx hb dL_law_358 (by decide) (fun c1 => ?_) (fun c1 => ?_)
    · refine lv_iconst (v := 0) hx hb dL_law_365 (by decide) ?_
      rw [show bz = 0 by rw [hbz]; exact if_pos c1] at hz0
      exact hz0
    · refine lv_iconst (v := 1) hx hb dL_law_361 (by decide) ?_
      refine lv_goto (tgt := 366) hx hb dL_law_362 (by decide) ?_
      rw [show bz = 1 by rw [hbz]; exact if_neg c1] at hz0
      exact hz0
  refine k_wL (As := [.int (xs (nI i + 1).toNatClampNeg), .int bz]) (rest := []) hA.c hx hb hml hown hts hl.1 hP hK hS kB.blind (fun U hU hW => kB.of hP hK hN hU hW) (c_o_creak (ad := ad) hA.1.1 (xs (nI i + 1).toNatClampNeg) bz) eL_47 (ci := 6) (q0 := 0) rfl rfl (wM (k := 0) (by decide) rfl) rfl rfl (Nat.le_of_ble_eq_true rfl) ⟨Nat.le_of_ble_eq_true rfl, Nat.le_of_ble_eq_true rfl⟩ ⟨rfl, rfl⟩ ⟨Nat.le_of_ble_eq_true rfl, Nat.le_of_ble_eq_true rfl⟩ dL_law_366 (fun H1 locs1 hW1 hq1 hS1 => ?_)
  have hR1 := keepR hA hR hq1
  refine lv_aload_n hx hb dL_law_369 rfl (lv_at hl 2 rfl) ?_
  refine lv_aload_n hx hb dL_law_370 rfl (lv_at hl 0 rfl) ?_
  refine lv_iload_n hx hb dL_law_371 rfl (lv_at hl 3 rfl) ?_
  refine lv_iconst (v := 1) hx hb dL_law_372 (by decide) ?_
  refine lv_iadd hx hb dL_law_373 ?_
  refine va_sld hx hb hX hbl hbA hS1 (lvx 1 hi6 (by omega) hL) dL_law_374 ?_
  refine lv_aload_n hx hb dL_law_375 rfl (lv_at hl 0 rfl) ?_
  refine lv_iload_n hx hb dL_law_376 rfl (lv_at hl 3 rfl) ?_
  refine lv_iconst (v := 2) hx hb dL_law_377 (by decide) ?_
  refine lv_iadd hx hb dL_law_378 ?_
  refine va_sld hx hb hX hbl hbA hS1 (lvx 2 hi6 (by omega) hL) dL_law_379 ?_
  obtain ⟨bz2, hbz2⟩ : ∃ z, bz = z := ⟨_, rfl⟩
  suffices hz1 : W p l e room_1 s m #[Value.ref b] below meth c H1 locs1 207 3939 Q (F0 m 388 ls [.int bz2, .int (xs (nI i + 1).toNatClampNeg), .ref (ae 0), .int (o_creak VL VS PL PS (xs (nI i + 1).toNatClampNeg) bz).1]) by
    refine lv_if_eq (tgt := 387) hx hb dL_law_380 (by decide) (fun c1 => ?_) (fun c1 => ?_)
    · refine lv_iconst (v := 0) hx hb dL_law_387 (by decide) ?_
      rw [show bz2 = 0 by rw [← hbz2, hbz]; exact if_pos c1] at hz1
      exact hz1
    · refine lv_iconst (v := 1) hx hb dL_law_383 (by decide) ?_
      refine lv_goto (tgt := 388) hx hb dL_law_384 (by decide) ?_
      rw [show bz2 = 1 by rw [← hbz2, hbz]; exact if_neg c1] at hz1
      exact hz1
  subst hbz2
  refine k_wL (As := [.int (xs (nI i + 1).toNatClampNeg), .int bz]) (rest := [.int ((o_creak VL VS PL PS (xs (nI i + 1).toNatClampNeg) bz).1)]) hA.r hx hb hml hown hts hl.1 hR1 hK hS1 kB.blind (fun U hU hW => kB.of hR1 hK hN hU hW) (c_m_creak (ad := ae) hA.1.2 (xs (nI i + 1).toNatClampNeg) bz h.D.M) eL_51 (ci := 7) (q0 := 0) rfl rfl rfl rfl rfl (Nat.le_of_ble_eq_true rfl) ⟨Nat.le_of_ble_eq_true rfl, Nat.le_of_ble_eq_true rfl⟩ ⟨rfl, rfl⟩ ⟨Nat.le_of_ble_eq_true rfl, Nat.le_of_ble_eq_true rfl⟩ dL_law_388 (fun H2 locs2 hW2 hq2 hS2 => ?_)
  have hC2 := keepC hA hW1 hq2
  refine lv_icmp_eq (tgt := 959) hx hb dL_law_391 (by decide) (fun _ => ?_) (fun c9 => absurd (sim_creak h (xs (nI i + 1).toNatClampNeg) bz h01).1 c9)
  refine kk _ _ ⟨_, _, _, _, _, _, _, _, _, _, _, ?_, hC2, hW2⟩ hS2
  exact (sim_creak h (xs (nI i + 1).toNatClampNeg) bz h01).2
set_option maxHeartbeats 4000000 in
set_option maxRecDepth 100000 in
theorem law_goes (hk : lawK p s m meth c b L xs (dC, dI) cI ga) (hA : adOk s ad ae) (hi6 : i + 6 ≤ L) (hJ : kJ (dC, dI) cI ad ae H) (hS : va_S (lwA s) s.heap H locs) (hl : lv_has ls 4 [(0, .ref b), (1, .ref (ad 0)), (2, .ref (ae 0)), (3, .int (nI i))])
    (kk : ∀ (H1 : Heap) (locs1 : List Loc), kJ (dC, dI) cI ad ae H1 → va_S (lwA s) s.heap H1 locs1 → W p l e room_1 s m #[Value.ref b] below meth c H1 locs1 207 3939 Q (F0 m 959 ls [])) : W p l e room_1 s m #[Value.ref b] below meth c H locs 207 3939 Q (F0 m 396 ls []) := by
  obtain ⟨⟨hx, hb, hml, hown, hts⟩, -, ⟨hX, hbl, hL⟩, hK, hN, hG⟩ := hk
  obtain ⟨ML, MS, PL, PS, VL, VS, LL, RA, RS, RN, RL, h, hP, hR⟩ := hJ
  have hbA : ¬ lwA s b := Nat.not_le.mpr hbl
  refine lv_aload_n hx hb dL_law_396 rfl (lv_at hl 1 rfl) ?_
  refine lv_aload_n hx hb dL_law_397 rfl (lv_at hl 0 rfl) ?_
  refine lv_iload_n hx hb dL_law_398 rfl (lv_at hl 3 rfl) ?_
  refine lv_iconst (v := 1) hx hb dL_law_399 (by decide) ?_
  refine lv_iadd hx hb dL_law_400 ?_
  refine va_sld hx hb hX hbl hbA hS (lvx 1 hi6 (by omega) hL) dL_law_401 ?_
  refine lv_aload_n hx hb dL_law_402 rfl (lv_at hl 0 rfl) ?_
  refine lv_iload_n hx hb dL_law_403 rfl (lv_at hl 3 rfl) ?_
  refine lv_iconst (v := 2) hx hb dL_law_404 (by decide) ?_
  refine lv_iadd hx hb dL_law_405 ?_
  refine va_sld hx hb hX hbl hbA hS (lvx 2 hi6 (by omega) hL) dL_law_406 ?_
  refine lv_aload_n hx hb dL_law_407 rfl (lv_at hl 0 rfl) ?_
  refine lv_iload_n hx hb dL_law_408 rfl (lv_at hl 3 rfl) ?_
  refine lv_iconst (v := 3) hx hb dL_law_409 (by decide) ?_
  refine lv_iadd hx hb dL_law_410 ?_
  refine va_sld hx hb hX hbl hbA hS (lvx 3 hi6 (by omega) hL) dL_law_411 ?_
  refine k_rV (As := [.int (xs (nI i + 1).toNatClampNeg), .int (xs (nI i + 2).toNatClampNeg), .int (xs (nI i + 3).toNatClampNeg)]) (rest := []) hx hb hml hown hts hl.1 hP hK hN (c_o_goes (ad := ad) hA.1.1 (xs (nI i + 1).toNatClampNeg) (xs (nI i + 2).toNatClampNeg) (xs (nI i + 3).toNatClampNeg)) eL_52 (ci := 6) (q0 := 0) rfl rfl (wM (k := 0) (by decide) rfl) rfl rfl (Nat.le_of_ble_eq_true rfl) ⟨Nat.le_of_ble_eq_true rfl, Nat.le_of_ble_eq_true rfl⟩ ⟨rfl, rfl⟩ ⟨Nat.le_of_ble_eq_true rfl, Nat.le_of_ble_eq_true rfl⟩ dL_law_412 ?_
  refine lv_aload_n hx hb dL_law_415 rfl (lv_at hl 2 rfl) ?_
  refine lv_aload_n hx hb dL_law_416 rfl (lv_at hl 0 rfl) ?_
  refine lv_iload_n hx hb dL_law_417 rfl (lv_at hl 3 rfl) ?_
  refine lv_iconst (v := 1) hx hb dL_law_418 (by decide) ?_
  refine lv_iadd hx hb dL_law_419 ?_
  refine va_sld hx hb hX hbl hbA hS (lvx 1 hi6 (by omega) hL) dL_law_420 ?_
  refine lv_aload_n hx hb dL_law_421 rfl (lv_at hl 0 rfl) ?_
  refine lv_iload_n hx hb dL_law_422 rfl (lv_at hl 3 rfl) ?_
  refine lv_iconst (v := 2) hx hb dL_law_423 (by decide) ?_
  refine lv_iadd hx hb dL_law_424 ?_
  refine va_sld hx hb hX hbl hbA hS (lvx 2 hi6 (by omega) hL) dL_law_425 ?_
  refine lv_aload_n hx hb dL_law_426 rfl (lv_at hl 0 rfl) ?_
  refine lv_iload_n hx hb dL_law_427 rfl (lv_at hl 3 rfl) ?_
  refine lv_iconst (v := 3) hx hb dL_law_428 (by decide) ?_
  refine lv_iadd hx hb dL_law_429 ?_
  refine va_sld hx hb hX hbl hbA hS (lvx 3 hi6 (by omega) hL) dL_law_430 ?_
  refine k_wL (As := [.int (xs (nI i + 1).toNatClampNeg), .int (xs (nI i + 2).toNatClampNeg), .int (xs (nI i + 3).toNatClampNeg)]) (rest := [.int ((o_goes VL VS PL PS (xs (nI i + 1).toNatClampNeg) (xs (nI i + 2).toNatClampNeg) (xs (nI i + 3).toNatClampNeg)))]) hA.r hx hb hml hown hts hl.1 hR hK hS kB.blind (fun U hU hW => kB.of hR hK hN hU hW) (c_m_goes (ad := ae) hA.1.2 (xs (nI i + 1).toNatClampNeg) (xs (nI i + 2).toNatClampNeg) (xs (nI i + 3).toNatClampNeg) h.D.M h.D.C) eL_56 (ci := 7) (q0 := 0) rfl rfl rfl rfl rfl (Nat.le_of_ble_eq_true rfl) ⟨Nat.le_of_ble_eq_true rfl, Nat.le_of_ble_eq_true rfl⟩ ⟨rfl, rfl⟩ ⟨Nat.le_of_ble_eq_true rfl, Nat.le_of_ble_eq_true rfl⟩ dL_law_431 (fun H2 locs2 hW2 hq2 hS2 => ?_)
  have hC2 := keepC hA hP hq2
  refine lv_icmp_eq (tgt := 959) hx hb dL_law_434 (by decide) (fun _ => ?_) (fun c9 => absurd (sim_goes h (xs (nI i + 1).toNatClampNeg) (xs (nI i + 2).toNatClampNeg) (xs (nI i + 3).toNatClampNeg)) c9)
  refine kk _ _ ⟨_, _, _, _, _, _, _, _, _, _, _, ?_, hC2, hW2⟩ hS2
  exact h.look6 rfl rfl (fun _ _ => ⟨rfl, rfl⟩) _ _ _ _
end LAWC1
