/-! the law's start: classes, static rows, the string; two objects are made -/
theorem dfX7 : ∀ j, j < 13 → defaultValue (tyX7 j) = vp_V [.null, .null, .null, .null, .null, .null, .null, .int 0, .null, .int 0, .null, .null, .null] j := by
  intro j hj
  rcases (show j = 0 ∨ j = 1 ∨ j = 2 ∨ j = 3 ∨ j = 4 ∨ j = 5 ∨ j = 6 ∨ j = 7 ∨ j = 8 ∨ j = 9 ∨ j = 10 ∨ j = 11 ∨ j = 12 by omega) with rfl | rfl | rfl | rfl | rfl | rfl | rfl | rfl | rfl | rfl | rfl | rfl | rfl <;> rfl
theorem dfX8 : ∀ j, j < 42 → defaultValue (tyX8 j) = vp_V [.null, .int 0, .null, .int 0, .int 0, .null, .null, .null, .null, .null, .null, .null, .null, .null, .null, .int 0, .int 0, .int 0, .int 0, .int 0, .int 0, .null, .null, .null, .null, .null, .int 0, .int 0, .int 0, .int 0, .int 0, .null, .int 0, .null, .int 0, .int 0, .null, .null, .int 0, .null, .long 0, .null] j := by
  intro j hj
  rcases (show j = 0 ∨ j = 1 ∨ j = 2 ∨ j = 3 ∨ j = 4 ∨ j = 5 ∨ j = 6 ∨ j = 7 ∨ j = 8 ∨ j = 9 ∨ j = 10 ∨ j = 11 ∨ j = 12 ∨ j = 13 ∨ j = 14 ∨ j = 15 ∨ j = 16 ∨ j = 17 ∨ j = 18 ∨ j = 19 ∨ j = 20 ∨ j = 21 ∨ j = 22 ∨ j = 23 ∨ j = 24 ∨ j = 25 ∨ j = 26 ∨ j = 27 ∨ j = 28 ∨ j = 29 ∨ j = 30 ∨ j = 31 ∨ j = 32 ∨ j = 33 ∨ j = 34 ∨ j = 35 ∨ j = 36 ∨ j = 37 ∨ j = 38 ∨ j = 39 ∨ j = 40 ∨ j = 41 by omega) with rfl | rfl | rfl | rfl | rfl | rfl | rfl | rfl | rfl | rfl | rfl | rfl | rfl | rfl | rfl | rfl | rfl | rfl | rfl | rfl | rfl | rfl | rfl | rfl | rfl | rfl | rfl | rfl | rfl | rfl | rfl | rfl | rfl | rfl | rfl | rfl | rfl | rfl | rfl | rfl | rfl | rfl <;> rfl
theorem kG_of {b : Nat} {s : State} (hts : ∀ w ∈ lw_tbl, w.before #[Value.ref b] s = true) (hgv : (Jvm.Cond.and given_1 narrow_1).before #[Value.ref b] s = true) : ∃ ga : Nat → Nat, kG ga (lwA s) s := by
  have hs := flat_of_before _ hgv
  have hA : ∀ a : Nat, a < s.heap.size → ¬ lwA s a := fun a h => Nat.not_le.mpr h
  obtain ⟨t0, e0, T0⟩ := va_Tof (tm := .static "RoofsOfSnow" "NUMBERS" "[I") (ty := .int) (N := 10) (f := fun j => .int (gNum j)) (A := lwA s) (by decide) (hs _ (by decide +kernel)) (va_eqt (hs _ (by decide +kernel))) (fun j hj => va_eqt (hs _ ((show ∀ j, j < 10 → Cond.eq (.elem (.static "RoofsOfSnow" "NUMBERS" "[I") (.int (Int32.ofNat j))) (.int (gNum j)) ∈ _ by decide +kernel) j hj))) hA
  obtain ⟨t1, e1, T1⟩ := va_Tof (tm := .static "RoofsOfSnow" "LEAST" "[I") (ty := .int) (N := 60) (f := fun j => .int (gLeast j)) (A := lwA s) (by decide) (hs _ (by decide +kernel)) (va_eqt (hs _ (by decide +kernel))) (fun j hj => va_eqt (hs _ ((show ∀ j, j < 60 → Cond.eq (.elem (.static "RoofsOfSnow" "LEAST" "[I") (.int (Int32.ofNat j))) (.int (gLeast j)) ∈ _ by decide +kernel) j hj))) hA
  obtain ⟨t2, e2, T2⟩ := va_Tof (tm := .static "RoofsOfSnow" "MOST" "[I") (ty := .int) (N := 60) (f := fun j => .int (gMost j)) (A := lwA s) (by decide) (hs _ (by decide +kernel)) (va_eqt (hs _ (by decide +kernel))) (fun j hj => va_eqt (hs _ ((show ∀ j, j < 60 → Cond.eq (.elem (.static "RoofsOfSnow" "MOST" "[I") (.int (Int32.ofNat j))) (.int (gMost j)) ∈ _ by decide +kernel) j hj))) hA
  obtain ⟨adK, adV, hS, hE⟩ := vk_Sof (args := #[Value.ref b]) (s := s) (N := 1) (tm := fun _ => .string "RoofsOfSnow$Reader" 47) (len := [10]) (byt := [[114, 98, 112, 107, 99, 115, 104, 103, 111, 108]]) (A := lwA s) (fun i hi => by rw [show i = 0 by omega]; decide) (fun i hi => hs _ (by decide +kernel)) (fun i hi => hs _ (by decide +kernel)) (fun i hi => hs _ (by decide +kernel)) (fun i hi => by rw [show i = 0 by omega]; exact hs _ (by decide +kernel))
    (fun i hi j hj => by
      rw [show i = 0 by omega] at hj ⊢
      exact hs _ ((show ∀ j, j < 10 → Cond.eq (.elem (.field (.string "RoofsOfSnow$Reader" 47) "java/lang/String" "value" "[B") (.int (Int32.ofNat j))) (.int (([[114, 98, 112, 107, 99, 115, 104, 103, 111, 108]] : List (List Int32)).getD 0 [] |>.getD j 0)) ∈ _ by decide +kernel) j hj))
    (fun i j hi hj h => absurd (by omega) h) hA
  obtain ⟨s1, s2, s3, s4⟩ := hS.1 0 (by omega)
  have hini := hts (.initialized "RoofsOfSnow") (by decide +kernel)
  have z0 := va_Zof (A := lwA s) (hts (.laysStatic "RoofsOfSnow" "NUMBERS" "[I") (by decide +kernel)) hini e0 hA
  have z1 := va_Zof (A := lwA s) (hts (.laysStatic "RoofsOfSnow" "LEAST" "[I") (by decide +kernel)) hini e1 hA
  have z2 := va_Zof (A := lwA s) (hts (.laysStatic "RoofsOfSnow" "MOST" "[I") (by decide +kernel)) hini e2 hA
  have z3 := va_Zof (A := lwA s) (hts (.laysStatic "java/lang/String" "COMPACT_STRINGS" "Z") (by decide +kernel)) (hts (.initialized "java/lang/String") (by decide +kernel)) (va_eqi (z := 1) (hs _ (by decide +kernel))) hA
  have hR : vk_R "RoofsOfSnow$Reader" 47 "rbpkcshgol" (adK 0) s := vk_R.of (A := #[Value.ref b]) (hts (.stringRef "RoofsOfSnow$Reader" 47 "rbpkcshgol") (by decide +kernel)) (hE 0 (by omega))
  exact ⟨kAt [t0, t1, t2, adK 0, adV 0], ⟨⟨z0, T0⟩, ⟨z1, T1⟩, z2, T2⟩, ⟨z3, hR⟩, ⟨s1, s2⟩, s3, s4⟩
set_option maxHeartbeats 4000000 in
set_option maxRecDepth 100000 in
/-- the law, from its entry -/
theorem whole_start {p : Program} {e : Env} {s : State} {m : MethodId} {below : List Frame} {meth : Method} {c : Code} (l : Launch) (hflags : l.flags = flags0) {b L : Nat} {xs : Nat → Int32} (hL : L ≤ 3072) (C0 : lw_At p s m meth c b L xs) : W p l e room_1 s m #[Value.ref b] below meth c s.heap [] 0 0 (lw_Z below #[Value.ref b] s) (entryFrame m ([Value.ref b] : List Value).toArray 4) := by
  obtain ⟨hx, hb, hr, hml, hown, hts0, hX, hbl, hlocks, hgv⟩ := id C0
  have htk : ∀ w ∈ kT, w.before #[Value.ref b] s = true := fun w h => hts0 w (List.mem_filter.mp h).1
  obtain ⟨c0, i0, k0⟩ := u_known (C := RX0) (T := TX0) (N := 20) (n := 20) htk inT_X0 (htk _ kin_X0)
  obtain ⟨c1, i1, k1⟩ := u_known (C := RX1) (T := TX1) (N := 3) (n := 3) htk inT_X1 (htk _ kin_X1)
  obtain ⟨c2, i2, k2⟩ := u_known (C := RX2) (T := TX2) (N := 1) (n := 1) htk inT_X2 (htk _ kin_X2)
  obtain ⟨c3, i3, k3⟩ := u_known (C := RX4) (T := TX4) (N := 4) (n := 4) htk inT_X4 (htk _ kin_X4)
  obtain ⟨c4, i4, k4⟩ := u_known (C := RX5) (T := TX5) (N := 2) (n := 2) htk inT_X5 (htk _ kin_X5)
  obtain ⟨c5, i5, k5⟩ := u_known (C := RX6) (T := TX6) (N := 13) (n := 13) htk inT_X6 (htk _ kin_X6)
  obtain ⟨c6, i6, k6⟩ := u_known (C := RX7) (T := TX7) (N := 13) (n := 13) htk inT_X7 (htk _ kin_X7)
  obtain ⟨c7, i7, k7⟩ := u_known (C := RX8) (T := TX8) (N := 42) (n := 42) htk inT_X8 (htk _ kin_X8)
  obtain ⟨dC, dI, hKc⟩ : ∃ (dC : Nat → ClassId) (dI : Nat → Nat → Nat), ∀ (k : Nat) (q : vw_C), vwCl[k]? = some q → u_Kn s q.1 q.2.1 q.2.2 (dC k) (dI k) := by
    refine ⟨fun k => if k = 0 then c0 else if k = 1 then c1 else if k = 2 then c2 else if k = 3 then c3 else if k = 4 then c4 else if k = 5 then c5 else if k = 6 then c6 else c7, fun k => if k = 0 then i0 else if k = 1 then i1 else if k = 2 then i2 else if k = 3 then i3 else if k = 4 then i4 else if k = 5 then i5 else if k = 6 then i6 else i7, ?_⟩
    intro k q hq
    match k, hq with
    | 0, hq => cases hq; exact k0
    | 1, hq => cases hq; exact k1
    | 2, hq => cases hq; exact k2
    | 3, hq => cases hq; exact k3
    | 4, hq => cases hq; exact k4
    | 5, hq => cases hq; exact k5
    | 6, hq => cases hq; exact k6
    | 7, hq => cases hq; exact k7
    | k + 8, hq => simp [vwCl] at hq
  obtain ⟨cI, kA, comp, a1, a2, a3⟩ := Cond.arrayClass_spec (htk _ k_arrI)
  have hK : va_K (dC, dI) vwCl [(cI, .int)] s := ⟨hKc, fun k q h => by
    have hz := (List.getElem?_eq_some_iff.mp h).1
    simp at hz
    subst hz
    cases h
    exact ⟨fun n z => ⟨fun k h => (by cases h), kA, a2, comp, a3⟩, a1⟩⟩
  have hN : kN s := fun w hw => va_Nw.of (kNest_on hw) (hts0 w (List.mem_filter.mp hw).1)
  obtain ⟨ga, hG⟩ := kG_of hts0 hgv
  have hk : lawK p s m meth c b L xs (dC, dI) cI ga := ⟨⟨hx, hb, hml, hown, htk⟩, ⟨hr, hlocks⟩, ⟨hX, hbl, hL⟩, hK, hN, hG⟩
  have hA0 : ∀ q : Nat, s.heap.size ≤ q → lwA s q := fun _ h => h
  have hS : va_S (lwA s) s.heap s.heap [] := va_S.rf
  have hP : va_P (dC, dI) vwCl [] s.heap := fun k q h => by simp at h
  have hD : va_D (lwA s) [] := ⟨fun i j p q h => by simp at h, fun k q h => by simp at h⟩
  have hl := lv_entry ([.ref b]) (n := 4) (Nat.le_of_ble_eq_true rfl)
  rw [lg_entry_eq]
  generalize (lg_sl ([.ref b]) ++ List.replicate (4 - (lg_sl ([.ref b])).length) Slot.unset).toArray = ls at hl ⊢
  have hl : lv_has ls 4 [(0, .ref b)] := hl
  refine k_new (ci := 6) hx hb htk inT_X7 tyX7 tyX7_ok hown kL_7 kin_X7 kini_X7 hK hP hD hS hA0 rfl dfX7 (Nat.le_of_ble_eq_true rfl) (Nat.le_of_ble_eq_true rfl) dL_law_0 (fun x H1 hP1 hD1 hS1 => ?_)
  have hP1 : va_P (dC, dI) vwCl [(x, .inr (6, [.null, .null, .null, .null, .null, .null, .null, .int 0, .null, .int 0, .null, .null, .null]))] H1 := hP1
  have hxn : lwA s x := hD1.2 0 _ rfl
  have hxl : x < H1.size := (hP1 0 _ rfl).lt
  refine lv_dup hx hb dL_law_3 rfl ?_
  refine k_iL (As := []) (rest := [.ref x]) (A := lwA s) (fun q h => by rcases h with h | h; rw [h]; exact hxn; exact Nat.le_trans hS1.1 h) hx hb hml hown htk hl.1 hS1 (kBz.blind (ws := [(x, .inr (6, [.null, .null, .null, .null, .null, .null, .null, .int 0, .null, .int 0, .null, .null, .null]))])) (fun U hU hW => ⟨by rw [hU], kB.of hP1 hK hN hU hW⟩) (c_o_init x H1.size) eL_9 rfl rfl (Nat.le_of_ble_eq_true rfl) ⟨Nat.le_of_ble_eq_true rfl, Nat.le_of_ble_eq_true rfl⟩ ⟨rfl, rfl⟩ ⟨Nat.le_of_ble_eq_true rfl, Nat.le_of_ble_eq_true rfl⟩ dL_law_4 (fun t H2 locs2 ht hp hq2 hz2 hS2 => ?_)
  obtain ⟨ad, had0, hI, had, hBt⟩ := hp
  have hC2 : va_P (dC, dI) vwCl (cws cI ad zA zS o_init_PL o_init_PS o_init_VL o_init_VS 0) H2 := by rw [← ht]; exact hBt.1
  refine lv_astore_n (lv' := [(1, .ref x), (0, .ref b)]) hx hb dL_law_7 rfl hl (by decide) rfl (fun ls hl => ?_)
  subst had0
  have hA1 : ∀ k, k < 183 → lwA s (ad k) := fun k hk => by
    rcases Nat.eq_zero_or_pos k with h | h
    · rw [h]; exact hxn
    · exact Nat.le_trans hS1.1 (had k h hk)
  have hDc : va_D (lwA s) (cws cI ad zA zS o_init_PL o_init_PS o_init_VL o_init_VS 0) := ⟨(cwsD (cI := cI) (ML := zA) (MS := zS) (PL := o_init_PL) (PS := o_init_PS) (VL := o_init_VL) (VS := o_init_VS) (LL := 0) hI).1, fun k q hq => by
    obtain ⟨j, hj, ej⟩ := (cwsD (cI := cI) (ML := zA) (MS := zS) (PL := o_init_PL) (PS := o_init_PS) (VL := o_init_VL) (VS := o_init_VS) (LL := 0) hI).2 k q hq
    rw [ej]; exact hA1 j hj⟩
  refine k_new (ci := 7) hx hb htk inT_X8 tyX8 tyX8_ok hown kL_10 kin_X8 kini_X8 hK hC2 hDc hS2 hA0 rfl dfX8 (Nat.le_of_ble_eq_true rfl) (Nat.le_of_ble_eq_true rfl) dL_law_8 (fun z H3 hP3 hD3 hS3 => ?_)
  have len : (cws cI ad zA zS o_init_PL o_init_PS o_init_VL o_init_VS 0).length = 183 := by unfold cws; exact kTab_length
  have atC : ∀ k, k < 183 → ∃ y, (cws cI ad zA zS o_init_PL o_init_PS o_init_VL o_init_VS 0 ++ [(z, .inr (7, [.null, .int 0, .null, .int 0, .int 0, .null, .null, .null, .null, .null, .null, .null, .null, .null, .null, .int 0, .int 0, .int 0, .int 0, .int 0, .int 0, .null, .null, .null, .null, .null, .int 0, .int 0, .int 0, .int 0, .int 0, .null, .int 0, .null, .int 0, .int 0, .null, .null, .int 0, .null, .long 0, .null]))])[k]? = some (ad k, y) := fun k hk => by
    refine ⟨cE cI ad zA zS o_init_PL o_init_PS o_init_VL o_init_VS 0 k, ?_⟩
    rw [List.getElem?_append_left (by rw [len]; exact hk)]
    exact kTab_get hk
  have atZ : (cws cI ad zA zS o_init_PL o_init_PS o_init_VL o_init_VS 0 ++ [(z, .inr (7, [.null, .int 0, .null, .int 0, .int 0, .null, .null, .null, .null, .null, .null, .null, .null, .null, .null, .int 0, .int 0, .int 0, .int 0, .int 0, .int 0, .null, .null, .null, .null, .null, .int 0, .int 0, .int 0, .int 0, .int 0, .null, .int 0, .null, .int 0, .int 0, .null, .null, .int 0, .null, .long 0, .null]))])[183]? = some (z, .inr (7, [.null, .int 0, .null, .int 0, .int 0, .null, .null, .null, .null, .null, .null, .null, .null, .null, .null, .int 0, .int 0, .int 0, .int 0, .int 0, .int 0, .null, .null, .null, .null, .null, .int 0, .int 0, .int 0, .int 0, .int 0, .null, .int 0, .null, .int 0, .int 0, .null, .null, .int 0, .null, .long 0, .null])) := by
    rw [List.getElem?_append_right (by rw [len]; exact Nat.le_refl _), len]
    rfl
  have hzn : lwA s z := hD3.2 183 _ atZ
  have hzd : ∀ k, k < 183 → ad k ≠ z := fun k hk e => by
    obtain ⟨y, hy⟩ := atC k hk
    have := hD3.1 k 183 _ _ hy atZ e
    omega
  have hPz : va_P (dC, dI) vwCl [(z, .inr (7, [.null, .int 0, .null, .int 0, .int 0, .null, .null, .null, .null, .null, .null, .null, .null, .null, .null, .int 0, .int 0, .int 0, .int 0, .int 0, .int 0, .null, .null, .null, .null, .null, .int 0, .int 0, .int 0, .int 0, .int 0, .null, .int 0, .null, .int 0, .int 0, .null, .null, .int 0, .null, .long 0, .null]))] H3 := fun k q hq => by
    have hz := (List.getElem?_eq_some_iff.mp hq).1
    simp at hz
    subst hz
    cases hq
    exact hP3 183 _ atZ
  have hC3 : va_P (dC, dI) vwCl (cws cI ad zA zS o_init_PL o_init_PS o_init_VL o_init_VS 0) H3 := fun k q hq => hP3 k q (by
    rw [List.getElem?_append_left (List.getElem?_eq_some_iff.mp hq).1]; exact hq)
  refine lv_dup hx hb dL_law_11 rfl ?_
  refine k_iL (As := []) (rest := [.ref z]) (A := lwA s) (fun q h => by rcases h with h | h; rw [h]; exact hzn; exact Nat.le_trans hS3.1 h) hx hb hml hown htk hl.1 hS3 (kBz.blind (ws := [(z, .inr (7, [.null, .int 0, .null, .int 0, .int 0, .null, .null, .null, .null, .null, .null, .null, .null, .null, .null, .int 0, .int 0, .int 0, .int 0, .int 0, .int 0, .null, .null, .null, .null, .null, .int 0, .int 0, .int 0, .int 0, .int 0, .null, .int 0, .null, .int 0, .int 0, .null, .null, .int 0, .null, .long 0, .null]))])) (fun U hU hW => ⟨by rw [hU], kB.of hPz hK hN hU hW⟩) (c_m_init z H3.size) eL_12 rfl rfl (Nat.le_of_ble_eq_true rfl) ⟨Nat.le_of_ble_eq_true rfl, Nat.le_of_ble_eq_true rfl⟩ ⟨rfl, rfl⟩ ⟨Nat.le_of_ble_eq_true rfl, Nat.le_of_ble_eq_true rfl⟩ dL_law_12 (fun t4 H4 locs4 ht4 hp4 hq4 hz4 hS4 => ?_)
  obtain ⟨ae, hae0, hI4, hae, hBt4⟩ := hp4
  subst hae0
  have hR4 : va_P (dC, dI) vwCl (RWs cI ae m_init_A m_init_S m_init_N 0) H4 := by rw [← ht4]; exact hBt4.1
  have ltC : ∀ k, k < 183 → ad k < H3.size := fun k hk => by
    obtain ⟨y, hy⟩ := atC k hk
    exact (hP3 k _ hy).lt
  have hC4 : va_P (dC, dI) vwCl (cws cI ad zA zS o_init_PL o_init_PS o_init_VL o_init_VS 0) H4 := hC3.kept (fun k q hq => by
    obtain ⟨j, hj, ej⟩ := (cwsD (cI := cI) (ML := zA) (MS := zS) (PL := o_init_PL) (PS := o_init_PS) (VL := o_init_VL) (VS := o_init_VS) (LL := 0) hI).2 k q hq
    rw [ej]
    refine hq4 _ (ltC j hj) (fun h => ?_)
    rcases h with h | h
    · exact hzd j hj h
    · have := ltC j hj; omega)
  have hA : adOk s ad ae := by
    refine ⟨⟨hI, hI4⟩, fun i j hi hj e => ?_, hA1, fun k hk => ?_⟩
    · rcases Nat.eq_zero_or_pos j with h | h
      · rw [h] at e; exact hzd i hi e
      · have h1 := hae j h hj
        have h2 := ltC i hi
        omega
    · rcases Nat.eq_zero_or_pos k with h | h
      · rw [h]; exact hzn
      · exact Nat.le_trans hS3.1 (hae k h hk)
  refine lv_astore_n (lv' := [(2, .ref (ae 0)), (1, .ref (ad 0)), (0, .ref b)]) hx hb dL_law_15 rfl hl (by decide) rfl (fun ls hl => ?_)
  refine lv_iconst (v := 0) hx hb dL_law_16 (by decide) ?_
  refine lv_istore_n (lv' := [(3, .int (nI 0)), (2, .ref (ae 0)), (1, .ref (ad 0)), (0, .ref b)]) hx hb dL_law_17 rfl hl (by decide) rfl (fun ls hl => ?_)
  exact law_loop hk hA L 0 H4 locs4 ls (Nat.zero_le L) (by omega) ⟨_, _, _, _, _, _, _, _, _, _, _, sX_first, hC4, hR4⟩ hS4 (lv_sub hl [3, 2, 1, 0] rfl)
