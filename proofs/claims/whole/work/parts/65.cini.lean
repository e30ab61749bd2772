def dfList (n : Nat) (ty : Nat → FieldType) (fs : List Value) : Prop := ∀ j, j < n → defaultValue (ty j) = vp_V fs j
theorem dfX0 : ∀ j, j < 20 → defaultValue (tyX0 j) = vp_V [.int 0, .null, .null, .null, .null, .null, .null, .null, .null, .null, .null, .null, .null, .int 0, .int 0, .int 0, .int 0, .int 0, .int 0, .int 0] j := by
  intro j hj
  rcases (show j = 0 ∨ j = 1 ∨ j = 2 ∨ j = 3 ∨ j = 4 ∨ j = 5 ∨ j = 6 ∨ j = 7 ∨ j = 8 ∨ j = 9 ∨ j = 10 ∨ j = 11 ∨ j = 12 ∨ j = 13 ∨ j = 14 ∨ j = 15 ∨ j = 16 ∨ j = 17 ∨ j = 18 ∨ j = 19 by omega) with rfl | rfl | rfl | rfl | rfl | rfl | rfl | rfl | rfl | rfl | rfl | rfl | rfl | rfl | rfl | rfl | rfl | rfl | rfl | rfl <;> rfl
theorem dfX1 : ∀ j, j < 3 → defaultValue (tyX1 j) = vp_V [.null, .null, .int 0] j := by
  intro j hj
  rcases (show j = 0 ∨ j = 1 ∨ j = 2 by omega) with rfl | rfl | rfl <;> rfl
theorem dfX2 : ∀ j, j < 1 → defaultValue (tyX2 j) = vp_V [.null] j := by
  intro j hj
  rcases (show j = 0 by omega) with rfl <;> rfl
theorem dfX4 : ∀ j, j < 4 → defaultValue (tyX4 j) = vp_V [.null, .null, .null, .long 0] j := by
  intro j hj
  rcases (show j = 0 ∨ j = 1 ∨ j = 2 ∨ j = 3 by omega) with rfl | rfl | rfl | rfl <;> rfl
theorem dfX5 : ∀ j, j < 2 → defaultValue (tyX5 j) = vp_V [.null, .int 0] j := by
  intro j hj
  rcases (show j = 0 ∨ j = 1 by omega) with rfl | rfl <;> rfl
theorem dfX6 : ∀ j, j < 13 → defaultValue (tyX6 j) = vp_V [.null, .null, .null, .null, .null, .null, .null, .null, .int 0, .int 0, .int 0, .int 0, .int 0] j := by
  intro j hj
  rcases (show j = 0 ∨ j = 1 ∨ j = 2 ∨ j = 3 ∨ j = 4 ∨ j = 5 ∨ j = 6 ∨ j = 7 ∨ j = 8 ∨ j = 9 ∨ j = 10 ∨ j = 11 ∨ j = 12 by omega) with rfl | rfl | rfl | rfl | rfl | rfl | rfl | rfl | rfl | rfl | rfl | rfl | rfl <;> rfl
theorem setD {A : Nat → Prop} {w0 L : va_W} {o : Nat} {x z : va_E} (h : va_D A (w0 ++ (o, x) :: L)) : va_D A (w0 ++ (o, z) :: L) := by
  have key : ∀ (k : Nat) (q : Nat × va_E), (w0 ++ (o, z) :: L)[k]? = some q → ∃ q', (w0 ++ (o, x) :: L)[k]? = some q' ∧ q'.1 = q.1 := by
    intro k q hk
    rw [← setAt (x := (o, x)) (z := (o, z)), List.getElem?_set] at hk
    by_cases e : w0.length = k
    · rw [if_pos e] at hk
      subst e
      rw [if_pos (by simp)] at hk
      cases hk
      exact ⟨_, getAt, rfl⟩
    · rw [if_neg e] at hk
      exact ⟨q, hk, rfl⟩
  refine ⟨fun i j u v hu hv huv => ?_, fun k q hk => ?_⟩
  · obtain ⟨u', h1, e1⟩ := key i u hu
    obtain ⟨v', h2, e2⟩ := key j v hv
    exact h.1 i j u' v' h1 h2 (by rw [e1, e2, huv])
  · obtain ⟨q', h1, e1⟩ := key k q hk
    rw [← e1]
    exact h.2 k q' h1
def pE (cI : ClassId) (a : Nat → Nat) (pl : Nat → Nat → Int32) (ps : Nat → Int32) (t : Nat) : va_E := if t = 0 then .inr (0, [.int (ps 0), .ref (a 1), .ref (a 3), .ref (a 5), .ref (a 7), .ref (a 9), .ref (a 11), .ref (a 13), .ref (a 15), .ref (a 17), .ref (a 19), .ref (a 21), .ref (a 23), .int (ps 13), .int (ps 14), .int (ps 15), .int (ps 16), .int (ps 17), .int (ps 18), .int (ps 19)]) else if t % 2 = 1 then .inr (2, [.ref (a (t + 1))]) else .inl (cI, plen (t / 2), .inl (pl (t / 2)))
def vE (cI : ClassId) (a : Nat → Nat) (vl : Nat → Nat → Int32) (vs : Nat → Int32) (pa : Nat) (nx : Value) (t : Nat) : va_E := if t = 0 then .inr (5, [.ref pa, .ref (a 1), .ref (a 3), .ref (a 5), .ref (a 7), .ref (a 9), .ref (a 11), nx, .int (vs 8), .int (vs 9), .int (vs 10), .int (vs 11), .int (vs 12)]) else if t % 2 = 1 then .inr (2, [.ref (a (t + 1))]) else .inl (cI, vlen (t / 2), .inl (vl (t / 2)))
section CINI
variable {l : Launch} {dC : Nat → ClassId} {dI : Nat → Nat → Nat} {cI : ClassId} {w0 : va_W} {A : Nat → Prop} {o : Nat}
set_option maxHeartbeats 4000000 in
set_option maxRecDepth 100000 in
theorem c_text_init (sz : Nat) (hA : ∀ q, sz ≤ q → A q) (hD : va_D A (w0 ++ [(o, .inr (4, [.null, .int 0]))])) : Met l yX5_init (.code yX5_init cX5_init 1 none :: kT) ({ frames := 2, cells := 2, slots := 501, locals := 45 } : Room) (va_Pc [.ref o] (kBz sz (dC, dI) [(cI, .int)] (w0 ++ [(o, .inr (4, [.null, .int 0]))]))) (kM (fun ws' => ∃ q a, ws' = w0 ++ [(o, .inr (4, [.ref q, .int 0])), (q, .inr (2, [.ref a])), (a, .inl (cI, 500, .inl (fun _ => 0)))]) A (dC, dI) [(cI, .int)]) 2 501 A := by
  refine kMet (by decide) (fun p e s m args below meth c ls hx hb hr hml hts hown hlocks hname hargs hB hl => ?_) (Nat.le_of_ble_eq_true rfl)
  obtain ⟨hsz, hP, hK, hN⟩ := hB
  have hA : ∀ q, s.heap.size ≤ q → A q := fun q h => hA q (hsz ▸ h)
  have hl : lv_has ls 1 [(0, .ref o)] := hl
  have hS : va_S A s.heap s.heap [] := va_S.rf
  have hin : meth.name = "<init>" := hname
  refine lv_aload_n hx hb dX5_init_0 rfl (lv_at hl 0 rfl) ?_
  refine W.objInit hx hb hown (hts _ kobj_X5) (hts _ k_objI) (hts _ k_objC) rfl (by rw [hml]; exact hl.1) rfl dX5_init_1 (Nat.le_of_ble_eq_true rfl) (Nat.le_of_ble_eq_true rfl) ?_
  refine W.eq (g2 := F0 m 4 ls []) rfl ?_
  refine lv_aload_n hx hb dX5_init_4 rfl (lv_at hl 0 rfl) ?_
  refine k_new (ci := 2) hx hb hts inT_X2 tyX2 tyX2_ok hown kX5_9 kin_X2 kini_X2 hK hP hD hS hA rfl dfX2 (Nat.le_of_ble_eq_true rfl) (Nat.le_of_ble_eq_true rfl) dX5_init_5 (fun q1 H hP hD hS => ?_)
  refine lv_dup hx hb dX5_init_8 rfl ?_
  refine lv_sipush (v := 500) hx hb dX5_init_9 (by decide) ?_
  refine kn_top (x' := nI 500) (by decide) ?_
  refine k_ini (mc := 1) (ms := 500) hx hb hml hown hts hl.1 hP hK hN hS (c_row_init H.size 500 (by omega) (fun q h => hA q (Nat.le_trans hS.1 h)) hD) eX5_11 rfl rfl (Nat.le_of_ble_eq_true rfl) ⟨Nat.le_of_ble_eq_true rfl, Nat.le_of_ble_eq_true rfl⟩ ⟨rfl, rfl⟩ ⟨Nat.le_of_ble_eq_true rfl, Nat.le_of_ble_eq_true rfl⟩ dX5_init_12 (fun ws1 H locs hp hD hP hS => ?_)
  obtain ⟨a1, rfl⟩ := hp
  have hP := app_P hP
  have hD := app_D hD
  have hP : va_P (dC, dI) vwCl (w0 ++ [(o, .inr (4, [.null, .int 0])), (q1, .inr (2, [.ref a1])), (a1, .inl (cI, 500, .inl (fun _ => 0)))]) H := hP
  have hD : va_D A (w0 ++ [(o, .inr (4, [.null, .int 0])), (q1, .inr (2, [.ref a1])), (a1, .inl (cI, 500, .inl (fun _ => 0)))]) := hD
  refine W.widen (k := 2) (n := 501) (by omega) (by omega) ?_
  refine k_putF (q0 := w0.length) (ci := 4) (ty := .object "RoofsOfSnow$Row") hx hb hts inT_X5 tyX5 tyX5_ok nmX5 hown hin hK hP hD hS getAt rfl 0 (by decide) rfl rfl kX5_14 rfl (by decide +kernel) rfl rfl (Nat.le_of_ble_eq_true rfl) setAt dX5_init_15 (fun H locs hP hD hS => ?_)
  have hP : va_P (dC, dI) vwCl (w0 ++ [(o, .inr (4, [.ref q1, .int 0])), (q1, .inr (2, [.ref a1])), (a1, .inl (cI, 500, .inl (fun _ => 0)))]) H := hP
  have hD : va_D A (w0 ++ [(o, .inr (4, [.ref q1, .int 0])), (q1, .inr (2, [.ref a1])), (a1, .inl (cI, 500, .inl (fun _ => 0)))]) := hD
  refine lv_aload_n hx hb dX5_init_18 rfl (lv_at hl 0 rfl) ?_
  refine lv_iconst (v := 0) hx hb dX5_init_19 (by decide) ?_
  refine k_put (q0 := w0.length) (ci := 4) (ty := .int) hx hb hts inT_X5 tyX5 tyX5_ok nmX5 hown hK hP hD hS getAt rfl 1 (by decide) rfl kX5_20 rfl (by decide +kernel) rfl rfl (Nat.le_of_ble_eq_true rfl) setAt dX5_init_20 (fun H locs hP hS => ?_)
  have hD := setD hD (z := .inr (4, [.ref q1, .int 0]))
  have hP : va_P (dC, dI) vwCl (w0 ++ [(o, .inr (4, [.ref q1, .int 0])), (q1, .inr (2, [.ref a1])), (a1, .inl (cI, 500, .inl (fun _ => 0)))]) H := hP
  have hD : va_D A (w0 ++ [(o, .inr (4, [.ref q1, .int 0])), (q1, .inr (2, [.ref a1])), (a1, .inl (cI, 500, .inl (fun _ => 0)))]) := hD
  exact W.vret hx hb hr (fun t ht hW => ⟨rfl, ⟨_, ⟨q1, a1, rfl⟩, hD, kB.of hP hK hN ht hW⟩, hS.F ht⟩) hS.2.2 dX5_init_23 hlocks
set_option maxHeartbeats 4000000 in
set_option maxRecDepth 100000 in
theorem c_reader_init (sz : Nat) (ta : Nat) (hA : ∀ q, sz ≤ q → A q) (hD : va_D A (w0 ++ [(o, .inr (1, [.null, .null, .int 0]))])) : Met l yX1_init (.code yX1_init cX1_init 2 none :: kT) ({ frames := 2, cells := 2, slots := 7, locals := 45 } : Room) (va_Pc [.ref o, .ref ta] (kBz sz (dC, dI) [(cI, .int)] (w0 ++ [(o, .inr (1, [.null, .null, .int 0]))]))) (kM (fun ws' => ∃ q a, ws' = w0 ++ [(o, .inr (1, [.ref ta, .ref q, .int 0])), (q, .inr (2, [.ref a])), (a, .inl (cI, 6, .inl (fun _ => 0)))]) A (dC, dI) [(cI, .int)]) 2 7 A := by
  refine kMet (by decide) (fun p e s m args below meth c ls hx hb hr hml hts hown hlocks hname hargs hB hl => ?_) (Nat.le_of_ble_eq_true rfl)
  obtain ⟨hsz, hP, hK, hN⟩ := hB
  have hA : ∀ q, s.heap.size ≤ q → A q := fun q h => hA q (hsz ▸ h)
  have hl : lv_has ls 2 [(0, .ref o), (1, .ref ta)] := hl
  have hS : va_S A s.heap s.heap [] := va_S.rf
  have hin : meth.name = "<init>" := hname
  refine lv_aload_n hx hb dX1_init_0 rfl (lv_at hl 0 rfl) ?_
  refine W.objInit hx hb hown (hts _ kobj_X1) (hts _ k_objI) (hts _ k_objC) rfl (by rw [hml]; exact hl.1) rfl dX1_init_1 (Nat.le_of_ble_eq_true rfl) (Nat.le_of_ble_eq_true rfl) ?_
  refine W.eq (g2 := F0 m 4 ls []) rfl ?_
  refine lv_aload_n hx hb dX1_init_4 rfl (lv_at hl 0 rfl) ?_
  refine k_new (ci := 2) hx hb hts inT_X2 tyX2 tyX2_ok hown kX1_9 kin_X2 kini_X2 hK hP hD hS hA rfl dfX2 (Nat.le_of_ble_eq_true rfl) (Nat.le_of_ble_eq_true rfl) dX1_init_5 (fun q1 H hP hD hS => ?_)
  refine lv_dup hx hb dX1_init_8 rfl ?_
  refine lv_bipush (v := 6) hx hb dX1_init_9 (by decide) ?_
  refine kn_top (x' := nI 6) (by decide) ?_
  refine k_ini (mc := 1) (ms := 6) hx hb hml hown hts hl.1 hP hK hN hS (c_row_init H.size 6 (by omega) (fun q h => hA q (Nat.le_trans hS.1 h)) hD) eX1_11 rfl rfl (Nat.le_of_ble_eq_true rfl) ⟨Nat.le_of_ble_eq_true rfl, Nat.le_of_ble_eq_true rfl⟩ ⟨rfl, rfl⟩ ⟨Nat.le_of_ble_eq_true rfl, Nat.le_of_ble_eq_true rfl⟩ dX1_init_11 (fun ws1 H locs hp hD hP hS => ?_)
  obtain ⟨a1, rfl⟩ := hp
  have hP := app_P hP
  have hD := app_D hD
  have hP : va_P (dC, dI) vwCl (w0 ++ [(o, .inr (1, [.null, .null, .int 0])), (q1, .inr (2, [.ref a1])), (a1, .inl (cI, 6, .inl (fun _ => 0)))]) H := hP
  have hD : va_D A (w0 ++ [(o, .inr (1, [.null, .null, .int 0])), (q1, .inr (2, [.ref a1])), (a1, .inl (cI, 6, .inl (fun _ => 0)))]) := hD
  refine W.widen (k := 2) (n := 7) (by omega) (by omega) ?_
  refine k_putF (q0 := w0.length) (ci := 1) (ty := .object "RoofsOfSnow$Row") hx hb hts inT_X1 tyX1 tyX1_ok nmX1 hown hin hK hP hD hS getAt rfl 1 (by decide) rfl rfl kX1_14 rfl (by decide +kernel) rfl rfl (Nat.le_of_ble_eq_true rfl) setAt dX1_init_14 (fun H locs hP hD hS => ?_)
  have hP : va_P (dC, dI) vwCl (w0 ++ [(o, .inr (1, [.null, .ref q1, .int 0])), (q1, .inr (2, [.ref a1])), (a1, .inl (cI, 6, .inl (fun _ => 0)))]) H := hP
  have hD : va_D A (w0 ++ [(o, .inr (1, [.null, .ref q1, .int 0])), (q1, .inr (2, [.ref a1])), (a1, .inl (cI, 6, .inl (fun _ => 0)))]) := hD
  refine lv_aload_n hx hb dX1_init_17 rfl (lv_at hl 0 rfl) ?_
  refine lv_iconst (v := 0) hx hb dX1_init_18 (by decide) ?_
  refine k_put (q0 := w0.length) (ci := 1) (ty := .int) hx hb hts inT_X1 tyX1 tyX1_ok nmX1 hown hK hP hD hS getAt rfl 2 (by decide) rfl kX1_20 rfl (by decide +kernel) rfl rfl (Nat.le_of_ble_eq_true rfl) setAt dX1_init_19 (fun H locs hP hS => ?_)
  have hD := setD hD (z := .inr (1, [.null, .ref q1, .int 0]))
  have hP : va_P (dC, dI) vwCl (w0 ++ [(o, .inr (1, [.null, .ref q1, .int 0])), (q1, .inr (2, [.ref a1])), (a1, .inl (cI, 6, .inl (fun _ => 0)))]) H := hP
  have hD : va_D A (w0 ++ [(o, .inr (1, [.null, .ref q1, .int 0])), (q1, .inr (2, [.ref a1])), (a1, .inl (cI, 6, .inl (fun _ => 0)))]) := hD
  refine lv_aload_n hx hb dX1_init_22 rfl (lv_at hl 0 rfl) ?_
  refine lv_aload_n hx hb dX1_init_23 rfl (lv_at hl 1 rfl) ?_
  refine k_putF (q0 := w0.length) (ci := 1) (ty := .object "RoofsOfSnow$Text") hx hb hts inT_X1 tyX1 tyX1_ok nmX1 hown hin hK hP hD hS getAt rfl 0 (by decide) rfl rfl kX1_24 rfl (by decide +kernel) rfl rfl (Nat.le_of_ble_eq_true rfl) setAt dX1_init_24 (fun H locs hP hD hS => ?_)
  have hP : va_P (dC, dI) vwCl (w0 ++ [(o, .inr (1, [.ref ta, .ref q1, .int 0])), (q1, .inr (2, [.ref a1])), (a1, .inl (cI, 6, .inl (fun _ => 0)))]) H := hP
  have hD : va_D A (w0 ++ [(o, .inr (1, [.ref ta, .ref q1, .int 0])), (q1, .inr (2, [.ref a1])), (a1, .inl (cI, 6, .inl (fun _ => 0)))]) := hD
  exact W.vret hx hb hr (fun t ht hW => ⟨rfl, ⟨_, ⟨q1, a1, rfl⟩, hD, kB.of hP hK hN ht hW⟩, hS.F ht⟩) hS.2.2 dX1_init_27 hlocks
set_option maxHeartbeats 4000000 in
set_option maxRecDepth 100000 in
theorem c_search_init (sz : Nat) (ta : Nat) (hA : ∀ q, sz ≤ q → A q) (hD : va_D A (w0 ++ [(o, .inr (3, [.null, .null, .null, .long 0]))])) : Met l yX4_init (.code yX4_init cX4_init 2 none :: kT) ({ frames := 2, cells := 4, slots := 8, locals := 45 } : Room) (va_Pc [.ref o, .ref ta] (kBz sz (dC, dI) [(cI, .int)] (w0 ++ [(o, .inr (3, [.null, .null, .null, .long 0]))]))) (kM (fun ws' => ∃ q a q2 a2, ws' = w0 ++ [(o, .inr (3, [.ref ta, .ref q, .ref q2, .long 0])), (q, .inr (2, [.ref a])), (a, .inl (cI, 3, .inl (fun _ => 0))), (q2, .inr (2, [.ref a2])), (a2, .inl (cI, 3, .inl (fun _ => 0)))]) A (dC, dI) [(cI, .int)]) 4 8 A := by
  refine kMet (by decide) (fun p e s m args below meth c ls hx hb hr hml hts hown hlocks hname hargs hB hl => ?_) (Nat.le_of_ble_eq_true rfl)
  obtain ⟨hsz, hP, hK, hN⟩ := hB
  have hA : ∀ q, s.heap.size ≤ q → A q := fun q h => hA q (hsz ▸ h)
  have hl : lv_has ls 2 [(0, .ref o), (1, .ref ta)] := hl
  have hS : va_S A s.heap s.heap [] := va_S.rf
  have hin : meth.name = "<init>" := hname
  refine lv_aload_n hx hb dX4_init_0 rfl (lv_at hl 0 rfl) ?_
  refine W.objInit hx hb hown (hts _ kobj_X4) (hts _ k_objI) (hts _ k_objC) rfl (by rw [hml]; exact hl.1) rfl dX4_init_1 (Nat.le_of_ble_eq_true rfl) (Nat.le_of_ble_eq_true rfl) ?_
  refine W.eq (g2 := F0 m 4 ls []) rfl ?_
  refine lv_aload_n hx hb dX4_init_4 rfl (lv_at hl 0 rfl) ?_
  refine k_new (ci := 2) hx hb hts inT_X2 tyX2 tyX2_ok hown kX4_9 kin_X2 kini_X2 hK hP hD hS hA rfl dfX2 (Nat.le_of_ble_eq_true rfl) (Nat.le_of_ble_eq_true rfl) dX4_init_5 (fun q1 H hP hD hS => ?_)
  refine lv_dup hx hb dX4_init_8 rfl ?_
  refine lv_iconst (v := 3) hx hb dX4_init_9 (by decide) ?_
  refine kn_top (x' := nI 3) (by decide) ?_
  refine k_ini (mc := 1) (ms := 3) hx hb hml hown hts hl.1 hP hK hN hS (c_row_init H.size 3 (by omega) (fun q h => hA q (Nat.le_trans hS.1 h)) hD) eX4_11 rfl rfl (Nat.le_of_ble_eq_true rfl) ⟨Nat.le_of_ble_eq_true rfl, Nat.le_of_ble_eq_true rfl⟩ ⟨rfl, rfl⟩ ⟨Nat.le_of_ble_eq_true rfl, Nat.le_of_ble_eq_true rfl⟩ dX4_init_10 (fun ws1 H locs hp hD hP hS => ?_)
  obtain ⟨a1, rfl⟩ := hp
  have hP := app_P hP
  have hD := app_D hD
  have hP : va_P (dC, dI) vwCl (w0 ++ [(o, .inr (3, [.null, .null, .null, .long 0])), (q1, .inr (2, [.ref a1])), (a1, .inl (cI, 3, .inl (fun _ => 0)))]) H := hP
  have hD : va_D A (w0 ++ [(o, .inr (3, [.null, .null, .null, .long 0])), (q1, .inr (2, [.ref a1])), (a1, .inl (cI, 3, .inl (fun _ => 0)))]) := hD
  refine W.widen (k := 2) (n := 4) (by omega) (by omega) ?_
  refine k_putF (q0 := w0.length) (ci := 3) (ty := .object "RoofsOfSnow$Row") hx hb hts inT_X4 tyX4 tyX4_ok nmX4 hown hin hK hP hD hS getAt rfl 1 (by decide) rfl rfl kX4_14 rfl (by decide +kernel) rfl rfl (Nat.le_of_ble_eq_true rfl) setAt dX4_init_13 (fun H locs hP hD hS => ?_)
  have hP : va_P (dC, dI) vwCl (w0 ++ [(o, .inr (3, [.null, .ref q1, .null, .long 0])), (q1, .inr (2, [.ref a1])), (a1, .inl (cI, 3, .inl (fun _ => 0)))]) H := hP
  have hD : va_D A (w0 ++ [(o, .inr (3, [.null, .ref q1, .null, .long 0])), (q1, .inr (2, [.ref a1])), (a1, .inl (cI, 3, .inl (fun _ => 0)))]) := hD
  refine lv_aload_n hx hb dX4_init_16 rfl (lv_at hl 0 rfl) ?_
  refine k_new (ci := 2) hx hb hts inT_X2 tyX2 tyX2_ok hown kX4_9 kin_X2 kini_X2 hK hP hD hS hA rfl dfX2 (Nat.le_of_ble_eq_true rfl) (Nat.le_of_ble_eq_true rfl) dX4_init_17 (fun q2 H hP hD hS => ?_)
  refine lv_dup hx hb dX4_init_20 rfl ?_
  refine lv_iconst (v := 3) hx hb dX4_init_21 (by decide) ?_
  refine kn_top (x' := nI 3) (by decide) ?_
  refine k_ini (mc := 1) (ms := 3) hx hb hml hown hts hl.1 hP hK hN hS (c_row_init H.size 3 (by omega) (fun q h => hA q (Nat.le_trans hS.1 h)) hD) eX4_11 rfl rfl (Nat.le_of_ble_eq_true rfl) ⟨Nat.le_of_ble_eq_true rfl, Nat.le_of_ble_eq_true rfl⟩ ⟨rfl, rfl⟩ ⟨Nat.le_of_ble_eq_true rfl, Nat.le_of_ble_eq_true rfl⟩ dX4_init_22 (fun ws2 H locs hp hD hP hS => ?_)
  obtain ⟨a2, rfl⟩ := hp
  have hP := app_P hP
  have hD := app_D hD
  have hP : va_P (dC, dI) vwCl (w0 ++ [(o, .inr (3, [.null, .ref q1, .null, .long 0])), (q1, .inr (2, [.ref a1])), (a1, .inl (cI, 3, .inl (fun _ => 0))), (q2, .inr (2, [.ref a2])), (a2, .inl (cI, 3, .inl (fun _ => 0)))]) H := hP
  have hD : va_D A (w0 ++ [(o, .inr (3, [.null, .ref q1, .null, .long 0])), (q1, .inr (2, [.ref a1])), (a1, .inl (cI, 3, .inl (fun _ => 0))), (q2, .inr (2, [.ref a2])), (a2, .inl (cI, 3, .inl (fun _ => 0)))]) := hD
  refine W.widen (k := 4) (n := 8) (by omega) (by omega) ?_
  refine k_putF (q0 := w0.length) (ci := 3) (ty := .object "RoofsOfSnow$Row") hx hb hts inT_X4 tyX4 tyX4_ok nmX4 hown hin hK hP hD hS getAt rfl 2 (by decide) rfl rfl kX4_20 rfl (by decide +kernel) rfl rfl (Nat.le_of_ble_eq_true rfl) setAt dX4_init_25 (fun H locs hP hD hS => ?_)
  have hP : va_P (dC, dI) vwCl (w0 ++ [(o, .inr (3, [.null, .ref q1, .ref q2, .long 0])), (q1, .inr (2, [.ref a1])), (a1, .inl (cI, 3, .inl (fun _ => 0))), (q2, .inr (2, [.ref a2])), (a2, .inl (cI, 3, .inl (fun _ => 0)))]) H := hP
  have hD : va_D A (w0 ++ [(o, .inr (3, [.null, .ref q1, .ref q2, .long 0])), (q1, .inr (2, [.ref a1])), (a1, .inl (cI, 3, .inl (fun _ => 0))), (q2, .inr (2, [.ref a2])), (a2, .inl (cI, 3, .inl (fun _ => 0)))]) := hD
  refine lv_aload_n hx hb dX4_init_28 rfl (lv_at hl 0 rfl) ?_
  refine lv_lconst (v := 0) hx hb dX4_init_29 (by decide) ?_
  refine k_put (q0 := w0.length) (ci := 3) (ty := .long) hx hb hts inT_X4 tyX4 tyX4_ok nmX4 hown hK hP hD hS getAt rfl 3 (by decide) rfl kX4_23 rfl (by decide +kernel) rfl rfl (Nat.le_of_ble_eq_true rfl) setAt dX4_init_30 (fun H locs hP hS => ?_)
  have hD := setD hD (z := .inr (3, [.null, .ref q1, .ref q2, .long 0]))
  have hP : va_P (dC, dI) vwCl (w0 ++ [(o, .inr (3, [.null, .ref q1, .ref q2, .long 0])), (q1, .inr (2, [.ref a1])), (a1, .inl (cI, 3, .inl (fun _ => 0))), (q2, .inr (2, [.ref a2])), (a2, .inl (cI, 3, .inl (fun _ => 0)))]) H := hP
  have hD : va_D A (w0 ++ [(o, .inr (3, [.null, .ref q1, .ref q2, .long 0])), (q1, .inr (2, [.ref a1])), (a1, .inl (cI, 3, .inl (fun _ => 0))), (q2, .inr (2, [.ref a2])), (a2, .inl (cI, 3, .inl (fun _ => 0)))]) := hD
  refine lv_aload_n hx hb dX4_init_33 rfl (lv_at hl 0 rfl) ?_
  refine lv_aload_n hx hb dX4_init_34 rfl (lv_at hl 1 rfl) ?_
  refine k_putF (q0 := w0.length) (ci := 3) (ty := .object "RoofsOfSnow$Row") hx hb hts inT_X4 tyX4 tyX4_ok nmX4 hown hin hK hP hD hS getAt rfl 0 (by decide) rfl rfl kX4_27 rfl (by decide +kernel) rfl rfl (Nat.le_of_ble_eq_true rfl) setAt dX4_init_35 (fun H locs hP hD hS => ?_)
  have hP : va_P (dC, dI) vwCl (w0 ++ [(o, .inr (3, [.ref ta, .ref q1, .ref q2, .long 0])), (q1, .inr (2, [.ref a1])), (a1, .inl (cI, 3, .inl (fun _ => 0))), (q2, .inr (2, [.ref a2])), (a2, .inl (cI, 3, .inl (fun _ => 0)))]) H := hP
  have hD : va_D A (w0 ++ [(o, .inr (3, [.ref ta, .ref q1, .ref q2, .long 0])), (q1, .inr (2, [.ref a1])), (a1, .inl (cI, 3, .inl (fun _ => 0))), (q2, .inr (2, [.ref a2])), (a2, .inl (cI, 3, .inl (fun _ => 0)))]) := hD
  exact W.vret hx hb hr (fun t ht hW => ⟨rfl, ⟨_, ⟨q1, a1, q2, a2, rfl⟩, hD, kB.of hP hK hN ht hW⟩, hS.F ht⟩) hS.2.2 dX4_init_38 hlocks
set_option maxHeartbeats 4000000 in
set_option maxRecDepth 100000 in
theorem c_plan_init (sz : Nat) (hA : ∀ q, sz ≤ q → A q) (hD : va_D A (w0 ++ [(o, .inr (0, [.int 0, .null, .null, .null, .null, .null, .null, .null, .null, .null, .null, .null, .null, .int 0, .int 0, .int 0, .int 0, .int 0, .int 0, .int 0]))])) : Met l yX0_init (.code yX0_init cX0_init 1 none :: kT) ({ frames := 2, cells := 24, slots := 158, locals := 45 } : Room) (va_Pc [.ref o] (kBz sz (dC, dI) [(cI, .int)] (w0 ++ [(o, .inr (0, [.int 0, .null, .null, .null, .null, .null, .null, .null, .null, .null, .null, .null, .null, .int 0, .int 0, .int 0, .int 0, .int 0, .int 0, .int 0]))]))) (kM (fun ws' => ∃ a : Nat → Nat, a 0 = o ∧ ws' = w0 ++ kTab a 25 (pE cI a zA zS)) A (dC, dI) [(cI, .int)]) 24 158 A := by
  refine kMet (by decide) (fun p e s m args below meth c ls hx hb hr hml hts hown hlocks hname hargs hB hl => ?_) (Nat.le_of_ble_eq_true rfl)
  obtain ⟨hsz, hP, hK, hN⟩ := hB
  have hA : ∀ q, s.heap.size ≤ q → A q := fun q h => hA q (hsz ▸ h)
  have hl : lv_has ls 1 [(0, .ref o)] := hl
  have hS : va_S A s.heap s.heap [] := va_S.rf
  have hin : meth.name = "<init>" := hname
  refine lv_aload_n hx hb dX0_init_0 rfl (lv_at hl 0 rfl) ?_
  refine W.objInit hx hb hown (hts _ kobj_X0) (hts _ k_objI) (hts _ k_objC) rfl (by rw [hml]; exact hl.1) rfl dX0_init_1 (Nat.le_of_ble_eq_true rfl) (Nat.le_of_ble_eq_true rfl) ?_
  refine W.eq (g2 := F0 m 4 ls []) rfl ?_
  refine lv_aload_n hx hb dX0_init_4 rfl (lv_at hl 0 rfl) ?_
  refine k_new (ci := 2) hx hb hts inT_X2 tyX2 tyX2_ok hown kX0_9 kin_X2 kini_X2 hK hP hD hS hA rfl dfX2 (Nat.le_of_ble_eq_true rfl) (Nat.le_of_ble_eq_true rfl) dX0_init_5 (fun q1 H hP hD hS => ?_)
  refine lv_dup hx hb dX0_init_8 rfl ?_
  refine lv_bipush (v := 16) hx hb dX0_init_9 (by decide) ?_
  refine kn_top (x' := nI 16) (by decide) ?_
  refine k_ini (mc := 1) (ms := 16) hx hb hml hown hts hl.1 hP hK hN hS (c_row_init H.size 16 (by omega) (fun q h => hA q (Nat.le_trans hS.1 h)) hD) eX0_11 rfl rfl (Nat.le_of_ble_eq_true rfl) ⟨Nat.le_of_ble_eq_true rfl, Nat.le_of_ble_eq_true rfl⟩ ⟨rfl, rfl⟩ ⟨Nat.le_of_ble_eq_true rfl, Nat.le_of_ble_eq_true rfl⟩ dX0_init_11 (fun ws1 H locs hp hD hP hS => ?_)
  obtain ⟨a1, rfl⟩ := hp
  have hP := app_P hP
  have hD := app_D hD
  have hP : va_P (dC, dI) vwCl (w0 ++ [(o, .inr (0, [.int 0, .null, .null, .null, .null, .null, .null, .null, .null, .null, .null, .null, .null, .int 0, .int 0, .int 0, .int 0, .int 0, .int 0, .int 0])), (q1, .inr (2, [.ref a1])), (a1, .inl (cI, 16, .inl (fun _ => 0)))]) H := hP
  have hD : va_D A (w0 ++ [(o, .inr (0, [.int 0, .null, .null, .null, .null, .null, .null, .null, .null, .null, .null, .null, .null, .int 0, .int 0, .int 0, .int 0, .int 0, .int 0, .int 0])), (q1, .inr (2, [.ref a1])), (a1, .inl (cI, 16, .inl (fun _ => 0)))]) := hD
  refine W.widen (k := 2) (n := 17) (by omega) (by omega) ?_
  refine k_putF (q0 := w0.length) (ci := 0) (ty := .object "RoofsOfSnow$Row") hx hb hts inT_X0 tyX0 tyX0_ok nmX0 hown hin hK hP hD hS getAt rfl 1 (by decide) rfl rfl kX0_14 rfl (by decide +kernel) rfl rfl (Nat.le_of_ble_eq_true rfl) setAt dX0_init_14 (fun H locs hP hD hS => ?_)
  have hP : va_P (dC, dI) vwCl (w0 ++ [(o, .inr (0, [.int 0, .ref q1, .null, .null, .null, .null, .null, .null, .null, .null, .null, .null, .null, .int 0, .int 0, .int 0, .int 0, .int 0, .int 0, .int 0])), (q1, .inr (2, [.ref a1])), (a1, .inl (cI, 16, .inl (fun _ => 0)))]) H := hP
  have hD : va_D A (w0 ++ [(o, .inr (0, [.int 0, .ref q1, .null, .null, .null, .null, .null, .null, .null, .null, .null, .null, .null, .int 0, .int 0, .int 0, .int 0, .int 0, .int 0, .int 0])), (q1, .inr (2, [.ref a1])), (a1, .inl (cI, 16, .inl (fun _ => 0)))]) := hD
  refine lv_aload_n hx hb dX0_init_17 rfl (lv_at hl 0 rfl) ?_
  refine k_new (ci := 2) hx hb hts inT_X2 tyX2 tyX2_ok hown kX0_9 kin_X2 kini_X2 hK hP hD hS hA rfl dfX2 (Nat.le_of_ble_eq_true rfl) (Nat.le_of_ble_eq_true rfl) dX0_init_18 (fun q2 H hP hD hS => ?_)
  refine lv_dup hx hb dX0_init_21 rfl ?_
  refine lv_bipush (v := 8) hx hb dX0_init_22 (by decide) ?_
  refine kn_top (x' := nI 8) (by decide) ?_
  refine k_ini (mc := 1) (ms := 8) hx hb hml hown hts hl.1 hP hK hN hS (c_row_init H.size 8 (by omega) (fun q h => hA q (Nat.le_trans hS.1 h)) hD) eX0_11 rfl rfl (Nat.le_of_ble_eq_true rfl) ⟨Nat.le_of_ble_eq_true rfl, Nat.le_of_ble_eq_true rfl⟩ ⟨rfl, rfl⟩ ⟨Nat.le_of_ble_eq_true rfl, Nat.le_of_ble_eq_true rfl⟩ dX0_init_24 (fun ws2 H locs hp hD hP hS => ?_)
  obtain ⟨a2, rfl⟩ := hp
  have hP := app_P hP
  have hD := app_D hD
  have hP : va_P (dC, dI) vwCl (w0 ++ [(o, .inr (0, [.int 0, .ref q1, .null, .null, .null, .null, .null, .null, .null, .null, .null, .null, .null, .int 0, .int 0, .int 0, .int 0, .int 0, .int 0, .int 0])), (q1, .inr (2, [.ref a1])), (a1, .inl (cI, 16, .inl (fun _ => 0))), (q2, .inr (2, [.ref a2])), (a2, .inl (cI, 8, .inl (fun _ => 0)))]) H := hP
  have hD : va_D A (w0 ++ [(o, .inr (0, [.int 0, .ref q1, .null, .null, .null, .null, .null, .null, .null, .null, .null, .null, .null, .int 0, .int 0, .int 0, .int 0, .int 0, .int 0, .int 0])), (q1, .inr (2, [.ref a1])), (a1, .inl (cI, 16, .inl (fun _ => 0))), (q2, .inr (2, [.ref a2])), (a2, .inl (cI, 8, .inl (fun _ => 0)))]) := hD
  refine W.widen (k := 4) (n := 26) (by omega) (by omega) ?_
  refine k_putF (q0 := w0.length) (ci := 0) (ty := .object "RoofsOfSnow$Row") hx hb hts inT_X0 tyX0 tyX0_ok nmX0 hown hin hK hP hD hS getAt rfl 2 (by decide) rfl rfl kX0_20 rfl (by decide +kernel) rfl rfl (Nat.le_of_ble_eq_true rfl) setAt dX0_init_27 (fun H locs hP hD hS => ?_)
  have hP : va_P (dC, dI) vwCl (w0 ++ [(o, .inr (0, [.int 0, .ref q1, .ref q2, .null, .null, .null, .null, .null, .null, .null, .null, .null, .null, .int 0, .int 0, .int 0, .int 0, .int 0, .int 0, .int 0])), (q1, .inr (2, [.ref a1])), (a1, .inl (cI, 16, .inl (fun _ => 0))), (q2, .inr (2, [.ref a2])), (a2, .inl (cI, 8, .inl (fun _ => 0)))]) H := hP
  have hD : va_D A (w0 ++ [(o, .inr (0, [.int 0, .ref q1, .ref q2, .null, .null, .null, .null, .null, .null, .null, .null, .null, .null, .int 0, .int 0, .int 0, .int 0, .int 0, .int 0, .int 0])), (q1, .inr (2, [.ref a1])), (a1, .inl (cI, 16, .inl (fun _ => 0))), (q2, .inr (2, [.ref a2])), (a2, .inl (cI, 8, .inl (fun _ => 0)))]) := hD
  refine lv_aload_n hx hb dX0_init_30 rfl (lv_at hl 0 rfl) ?_
  refine k_new (ci := 2) hx hb hts inT_X2 tyX2 tyX2_ok hown kX0_9 kin_X2 kini_X2 hK hP hD hS hA rfl dfX2 (Nat.le_of_ble_eq_true rfl) (Nat.le_of_ble_eq_true rfl) dX0_init_31 (fun q3 H hP hD hS => ?_)
  refine lv_dup hx hb dX0_init_34 rfl ?_
  refine lv_bipush (v := 8) hx hb dX0_init_35 (by decide) ?_
  refine kn_top (x' := nI 8) (by decide) ?_
  refine k_ini (mc := 1) (ms := 8) hx hb hml hown hts hl.1 hP hK hN hS (c_row_init H.size 8 (by omega) (fun q h => hA q (Nat.le_trans hS.1 h)) hD) eX0_11 rfl rfl (Nat.le_of_ble_eq_true rfl) ⟨Nat.le_of_ble_eq_true rfl, Nat.le_of_ble_eq_true rfl⟩ ⟨rfl, rfl⟩ ⟨Nat.le_of_ble_eq_true rfl, Nat.le_of_ble_eq_true rfl⟩ dX0_init_37 (fun ws3 H locs hp hD hP hS => ?_)
  obtain ⟨a3, rfl⟩ := hp
  have hP := app_P hP
  have hD := app_D hD
  have hP : va_P (dC, dI) vwCl (w0 ++ [(o, .inr (0, [.int 0, .ref q1, .ref q2, .null, .null, .null, .null, .null, .null, .null, .null, .null, .null, .int 0, .int 0, .int 0, .int 0, .int 0, .int 0, .int 0])), (q1, .inr (2, [.ref a1])), (a1, .inl (cI, 16, .inl (fun _ => 0))), (q2, .inr (2, [.ref a2])), (a2, .inl (cI, 8, .inl (fun _ => 0))), (q3, .inr (2, [.ref a3])), (a3, .inl (cI, 8, .inl (fun _ => 0)))]) H := hP
  have hD : va_D A (w0 ++ [(o, .inr (0, [.int 0, .ref q1, .ref q2, .null, .null, .null, .null, .null, .null, .null, .null, .null, .null, .int 0, .int 0, .int 0, .int 0, .int 0, .int 0, .int 0])), (q1, .inr (2, [.ref a1])), (a1, .inl (cI, 16, .inl (fun _ => 0))), (q2, .inr (2, [.ref a2])), (a2, .inl (cI, 8, .inl (fun _ => 0))), (q3, .inr (2, [.ref a3])), (a3, .inl (cI, 8, .inl (fun _ => 0)))]) := hD
  refine W.widen (k := 6) (n := 35) (by omega) (by omega) ?_
  refine k_putF (q0 := w0.length) (ci := 0) (ty := .object "RoofsOfSnow$Row") hx hb hts inT_X0 tyX0 tyX0_ok nmX0 hown hin hK hP hD hS getAt rfl 3 (by decide) rfl rfl kX0_23 rfl (by decide +kernel) rfl rfl (Nat.le_of_ble_eq_true rfl) setAt dX0_init_40 (fun H locs hP hD hS => ?_)
  have hP : va_P (dC, dI) vwCl (w0 ++ [(o, .inr (0, [.int 0, .ref q1, .ref q2, .ref q3, .null, .null, .null, .null, .null, .null, .null, .null, .null, .int 0, .int 0, .int 0, .int 0, .int 0, .int 0, .int 0])), (q1, .inr (2, [.ref a1])), (a1, .inl (cI, 16, .inl (fun _ => 0))), (q2, .inr (2, [.ref a2])), (a2, .inl (cI, 8, .inl (fun _ => 0))), (q3, .inr (2, [.ref a3])), (a3, .inl (cI, 8, .inl (fun _ => 0)))]) H := hP
  have hD : va_D A (w0 ++ [(o, .inr (0, [.int 0, .ref q1, .ref q2, .ref q3, .null, .null, .null, .null, .null, .null, .null, .null, .null, .int 0, .int 0, .int 0, .int 0, .int 0, .int 0, .int 0])), (q1, .inr (2, [.ref a1])), (a1, .inl (cI, 16, .inl (fun _ => 0))), (q2, .inr (2, [.ref a2])), (a2, .inl (cI, 8, .inl (fun _ => 0))), (q3, .inr (2, [.ref a3])), (a3, .inl (cI, 8, .inl (fun _ => 0)))]) := hD
  refine lv_aload_n hx hb dX0_init_43 rfl (lv_at hl 0 rfl) ?_
  refine k_new (ci := 2) hx hb hts inT_X2 tyX2 tyX2_ok hown kX0_9 kin_X2 kini_X2 hK hP hD hS hA rfl dfX2 (Nat.le_of_ble_eq_true rfl) (Nat.le_of_ble_eq_true rfl) dX0_init_44 (fun q4 H hP hD hS => ?_)
  refine lv_dup hx hb dX0_init_47 rfl ?_
  refine lv_bipush (v := 8) hx hb dX0_init_48 (by decide) ?_
  refine kn_top (x' := nI 8) (by decide) ?_
  refine k_ini (mc := 1) (ms := 8) hx hb hml hown hts hl.1 hP hK hN hS (c_row_init H.size 8 (by omega) (fun q h => hA q (Nat.le_trans hS.1 h)) hD) eX0_11 rfl rfl (Nat.le_of_ble_eq_true rfl) ⟨Nat.le_of_ble_eq_true rfl, Nat.le_of_ble_eq_true rfl⟩ ⟨rfl, rfl⟩ ⟨Nat.le_of_ble_eq_true rfl, Nat.le_of_ble_eq_true rfl⟩ dX0_init_50 (fun ws4 H locs hp hD hP hS => ?_)
  obtain ⟨a4, rfl⟩ := hp
  have hP := app_P hP
  have hD := app_D hD
  have hP : va_P (dC, dI) vwCl (w0 ++ [(o, .inr (0, [.int 0, .ref q1, .ref q2, .ref q3, .null, .null, .null, .null, .null, .null, .null, .null, .null, .int 0, .int 0, .int 0, .int 0, .int 0, .int 0, .int 0])), (q1, .inr (2, [.ref a1])), (a1, .inl (cI, 16, .inl (fun _ => 0))), (q2, .inr (2, [.ref a2])), (a2, .inl (cI, 8, .inl (fun _ => 0))), (q3, .inr (2, [.ref a3])), (a3, .inl (cI, 8, .inl (fun _ => 0))), (q4, .inr (2, [.ref a4])), (a4, .inl (cI, 8, .inl (fun _ => 0)))]) H := hP
  have hD : va_D A (w0 ++ [(o, .inr (0, [.int 0, .ref q1, .ref q2, .ref q3, .null, .null, .null, .null, .null, .null, .null, .null, .null, .int 0, .int 0, .int 0, .int 0, .int 0, .int 0, .int 0])), (q1, .inr (2, [.ref a1])), (a1, .inl (cI, 16, .inl (fun _ => 0))), (q2, .inr (2, [.ref a2])), (a2, .inl (cI, 8, .inl (fun _ => 0))), (q3, .inr (2, [.ref a3])), (a3, .inl (cI, 8, .inl (fun _ => 0))), (q4, .inr (2, [.ref a4])), (a4, .inl (cI, 8, .inl (fun _ => 0)))]) := hD
  refine W.widen (k := 8) (n := 44) (by omega) (by omega) ?_
  refine k_putF (q0 := w0.length) (ci := 0) (ty := .object "RoofsOfSnow$Row") hx hb hts inT_X0 tyX0 tyX0_ok nmX0 hown hin hK hP hD hS getAt rfl 4 (by decide) rfl rfl kX0_26 rfl (by decide +kernel) rfl rfl (Nat.le_of_ble_eq_true rfl) setAt dX0_init_53 (fun H locs hP hD hS => ?_)
  have hP : va_P (dC, dI) vwCl (w0 ++ [(o, .inr (0, [.int 0, .ref q1, .ref q2, .ref q3, .ref q4, .null, .null, .null, .null, .null, .null, .null, .null, .int 0, .int 0, .int 0, .int 0, .int 0, .int 0, .int 0])), (q1, .inr (2, [.ref a1])), (a1, .inl (cI, 16, .inl (fun _ => 0))), (q2, .inr (2, [.ref a2])), (a2, .inl (cI, 8, .inl (fun _ => 0))), (q3, .inr (2, [.ref a3])), (a3, .inl (cI, 8, .inl (fun _ => 0))), (q4, .inr (2, [.ref a4])), (a4, .inl (cI, 8, .inl (fun _ => 0)))]) H := hP
  have hD : va_D A (w0 ++ [(o, .inr (0, [.int 0, .ref q1, .ref q2, .ref q3, .ref q4, .null, .null, .null, .null, .null, .null, .null, .null, .int 0, .int 0, .int 0, .int 0, .int 0, .int 0, .int 0])), (q1, .inr (2, [.ref a1])), (a1, .inl (cI, 16, .inl (fun _ => 0))), (q2, .inr (2, [.ref a2])), (a2, .inl (cI, 8, .inl (fun _ => 0))), (q3, .inr (2, [.ref a3])), (a3, .inl (cI, 8, .inl (fun _ => 0))), (q4, .inr (2, [.ref a4])), (a4, .inl (cI, 8, .inl (fun _ => 0)))]) := hD
  refine lv_aload_n hx hb dX0_init_56 rfl (lv_at hl 0 rfl) ?_
  refine k_new (ci := 2) hx hb hts inT_X2 tyX2 tyX2_ok hown kX0_9 kin_X2 kini_X2 hK hP hD hS hA rfl dfX2 (Nat.le_of_ble_eq_true rfl) (Nat.le_of_ble_eq_true rfl) dX0_init_57 (fun q5 H hP hD hS => ?_)
  refine lv_dup hx hb dX0_init_60 rfl ?_
  refine lv_bipush (v := 8) hx hb dX0_init_61 (by decide) ?_
  refine kn_top (x' := nI 8) (by decide) ?_
  refine k_ini (mc := 1) (ms := 8) hx hb hml hown hts hl.1 hP hK hN hS (c_row_init H.size 8 (by omega) (fun q h => hA q (Nat.le_trans hS.1 h)) hD) eX0_11 rfl rfl (Nat.le_of_ble_eq_true rfl) ⟨Nat.le_of_ble_eq_true rfl, Nat.le_of_ble_eq_true rfl⟩ ⟨rfl, rfl⟩ ⟨Nat.le_of_ble_eq_true rfl, Nat.le_of_ble_eq_true rfl⟩ dX0_init_63 (fun ws5 H locs hp hD hP hS => ?_)
  obtain ⟨a5, rfl⟩ := hp
  have hP := app_P hP
  have hD := app_D hD
  have hP : va_P (dC, dI) vwCl (w0 ++ [(o, .inr (0, [.int 0, .ref q1, .ref q2, .ref q3, .ref q4, .null, .null, .null, .null, .null, .null, .null, .null, .int 0, .int 0, .int 0, .int 0, .int 0, .int 0, .int 0])), (q1, .inr (2, [.ref a1])), (a1, .inl (cI, 16, .inl (fun _ => 0))), (q2, .inr (2, [.ref a2])), (a2, .inl (cI, 8, .inl (fun _ => 0))), (q3, .inr (2, [.ref a3])), (a3, .inl (cI, 8, .inl (fun _ => 0))), (q4, .inr (2, [.ref a4])), (a4, .inl (cI, 8, .inl (fun _ => 0))), (q5, .inr (2, [.ref a5])), (a5, .inl (cI, 8, .inl (fun _ => 0)))]) H := hP
  have hD : va_D A (w0 ++ [(o, .inr (0, [.int 0, .ref q1, .ref q2, .ref q3, .ref q4, .null, .null, .null, .null, .null, .null, .null, .null, .int 0, .int 0, .int 0, .int 0, .int 0, .int 0, .int 0])), (q1, .inr (2, [.ref a1])), (a1, .inl (cI, 16, .inl (fun _ => 0))), (q2, .inr (2, [.ref a2])), (a2, .inl (cI, 8, .inl (fun _ => 0))), (q3, .inr (2, [.ref a3])), (a3, .inl (cI, 8, .inl (fun _ => 0))), (q4, .inr (2, [.ref a4])), (a4, .inl (cI, 8, .inl (fun _ => 0))), (q5, .inr (2, [.ref a5])), (a5, .inl (cI, 8, .inl (fun _ => 0)))]) := hD
  refine W.widen (k := 10) (n := 53) (by omega) (by omega) ?_
  refine k_putF (q0 := w0.length) (ci := 0) (ty := .object "RoofsOfSnow$Row") hx hb hts inT_X0 tyX0 tyX0_ok nmX0 hown hin hK hP hD hS getAt rfl 5 (by decide) rfl rfl kX0_29 rfl (by decide +kernel) rfl rfl (Nat.le_of_ble_eq_true rfl) setAt dX0_init_66 (fun H locs hP hD hS => ?_)
  have hP : va_P (dC, dI) vwCl (w0 ++ [(o, .inr (0, [.int 0, .ref q1, .ref q2, .ref q3, .ref q4, .ref q5, .null, .null, .null, .null, .null, .null, .null, .int 0, .int 0, .int 0, .int 0, .int 0, .int 0, .int 0])), (q1, .inr (2, [.ref a1])), (a1, .inl (cI, 16, .inl (fun _ => 0))), (q2, .inr (2, [.ref a2])), (a2, .inl (cI, 8, .inl (fun _ => 0))), (q3, .inr (2, [.ref a3])), (a3, .inl (cI, 8, .inl (fun _ => 0))), (q4, .inr (2, [.ref a4])), (a4, .inl (cI, 8, .inl (fun _ => 0))), (q5, .inr (2, [.ref a5])), (a5, .inl (cI, 8, .inl (fun _ => 0)))]) H := hP
  have hD : va_D A (w0 ++ [(o, .inr (0, [.int 0, .ref q1, .ref q2, .ref q3, .ref q4, .ref q5, .null, .null, .null, .null, .null, .null, .null, .int 0, .int 0, .int 0, .int 0, .int 0, .int 0, .int 0])), (q1, .inr (2, [.ref a1])), (a1, .inl (cI, 16, .inl (fun _ => 0))), (q2, .inr (2, [.ref a2])), (a2, .inl (cI, 8, .inl (fun _ => 0))), (q3, .inr (2, [.ref a3])), (a3, .inl (cI, 8, .inl (fun _ => 0))), (q4, .inr (2, [.ref a4])), (a4, .inl (cI, 8, .inl (fun _ => 0))), (q5, .inr (2, [.ref a5])), (a5, .inl (cI, 8, .inl (fun _ => 0)))]) := hD
  refine lv_aload_n hx hb dX0_init_69 rfl (lv_at hl 0 rfl) ?_
  refine k_new (ci := 2) hx hb hts inT_X2 tyX2 tyX2_ok hown kX0_9 kin_X2 kini_X2 hK hP hD hS hA rfl dfX2 (Nat.le_of_ble_eq_true rfl) (Nat.le_of_ble_eq_true rfl) dX0_init_70 (fun q6 H hP hD hS => ?_)
  refine lv_dup hx hb dX0_init_73 rfl ?_
  refine lv_bipush (v := 8) hx hb dX0_init_74 (by decide) ?_
  refine kn_top (x' := nI 8) (by decide) ?_
  refine k_ini (mc := 1) (ms := 8) hx hb hml hown hts hl.1 hP hK hN hS (c_row_init H.size 8 (by omega) (fun q h => hA q (Nat.le_trans hS.1 h)) hD) eX0_11 rfl rfl (Nat.le_of_ble_eq_true rfl) ⟨Nat.le_of_ble_eq_true rfl, Nat.le_of_ble_eq_true rfl⟩ ⟨rfl, rfl⟩ ⟨Nat.le_of_ble_eq_true rfl, Nat.le_of_ble_eq_true rfl⟩ dX0_init_76 (fun ws6 H locs hp hD hP hS => ?_)
  obtain ⟨a6, rfl⟩ := hp
  have hP := app_P hP
  have hD := app_D hD
  have hP : va_P (dC, dI) vwCl (w0 ++ [(o, .inr (0, [.int 0, .ref q1, .ref q2, .ref q3, .ref q4, .ref q5, .null, .null, .null, .null, .null, .null, .null, .int 0, .int 0, .int 0, .int 0, .int 0, .int 0, .int 0])), (q1, .inr (2, [.ref a1])), (a1, .inl (cI, 16, .inl (fun _ => 0))), (q2, .inr (2, [.ref a2])), (a2, .inl (cI, 8, .inl (fun _ => 0))), (q3, .inr (2, [.ref a3])), (a3, .inl (cI, 8, .inl (fun _ => 0))), (q4, .inr (2, [.ref a4])), (a4, .inl (cI, 8, .inl (fun _ => 0))), (q5, .inr (2, [.ref a5])), (a5, .inl (cI, 8, .inl (fun _ => 0))), (q6, .inr (2, [.ref a6])), (a6, .inl (cI, 8, .inl (fun _ => 0)))]) H := hP
  have hD : va_D A (w0 ++ [(o, .inr (0, [.int 0, .ref q1, .ref q2, .ref q3, .ref q4, .ref q5, .null, .null, .null, .null, .null, .null, .null, .int 0, .int 0, .int 0, .int 0, .int 0, .int 0, .int 0])), (q1, .inr (2, [.ref a1])), (a1, .inl (cI, 16, .inl (fun _ => 0))), (q2, .inr (2, [.ref a2])), (a2, .inl (cI, 8, .inl (fun _ => 0))), (q3, .inr (2, [.ref a3])), (a3, .inl (cI, 8, .inl (fun _ => 0))), (q4, .inr (2, [.ref a4])), (a4, .inl (cI, 8, .inl (fun _ => 0))), (q5, .inr (2, [.ref a5])), (a5, .inl (cI, 8, .inl (fun _ => 0))), (q6, .inr (2, [.ref a6])), (a6, .inl (cI, 8, .inl (fun _ => 0)))]) := hD
  refine W.widen (k := 12) (n := 62) (by omega) (by omega) ?_
  refine k_putF (q0 := w0.length) (ci := 0) (ty := .object "RoofsOfSnow$Row") hx hb hts inT_X0 tyX0 tyX0_ok nmX0 hown hin hK hP hD hS getAt rfl 6 (by decide) rfl rfl kX0_32 rfl (by decide +kernel) rfl rfl (Nat.le_of_ble_eq_true rfl) setAt dX0_init_79 (fun H locs hP hD hS => ?_)
  have hP : va_P (dC, dI) vwCl (w0 ++ [(o, .inr (0, [.int 0, .ref q1, .ref q2, .ref q3, .ref q4, .ref q5, .ref q6, .null, .null, .null, .null, .null, .null, .int 0, .int 0, .int 0, .int 0, .int 0, .int 0, .int 0])), (q1, .inr (2, [.ref a1])), (a1, .inl (cI, 16, .inl (fun _ => 0))), (q2, .inr (2, [.ref a2])), (a2, .inl (cI, 8, .inl (fun _ => 0))), (q3, .inr (2, [.ref a3])), (a3, .inl (cI, 8, .inl (fun _ => 0))), (q4, .inr (2, [.ref a4])), (a4, .inl (cI, 8, .inl (fun _ => 0))), (q5, .inr (2, [.ref a5])), (a5, .inl (cI, 8, .inl (fun _ => 0))), (q6, .inr (2, [.ref a6])), (a6, .inl (cI, 8, .inl (fun _ => 0)))]) H := hP
  have hD : va_D A (w0 ++ [(o, .inr (0, [.int 0, .ref q1, .ref q2, .ref q3, .ref q4, .ref q5, .ref q6, .null, .null, .null, .null, .null, .null, .int 0, .int 0, .int 0, .int 0, .int 0, .int 0, .int 0])), (q1, .inr (2, [.ref a1])), (a1, .inl (cI, 16, .inl (fun _ => 0))), (q2, .inr (2, [.ref a2])), (a2, .inl (cI, 8, .inl (fun _ => 0))), (q3, .inr (2, [.ref a3])), (a3, .inl (cI, 8, .inl (fun _ => 0))), (q4, .inr (2, [.ref a4])), (a4, .inl (cI, 8, .inl (fun _ => 0))), (q5, .inr (2, [.ref a5])), (a5, .inl (cI, 8, .inl (fun _ => 0))), (q6, .inr (2, [.ref a6])), (a6, .inl (cI, 8, .inl (fun _ => 0)))]) := hD
  refine lv_aload_n hx hb dX0_init_82 rfl (lv_at hl 0 rfl) ?_
  refine k_new (ci := 2) hx hb hts inT_X2 tyX2 tyX2_ok hown kX0_9 kin_X2 kini_X2 hK hP hD hS hA rfl dfX2 (Nat.le_of_ble_eq_true rfl) (Nat.le_of_ble_eq_true rfl) dX0_init_83 (fun q7 H hP hD hS => ?_)
  refine lv_dup hx hb dX0_init_86 rfl ?_
  refine lv_bipush (v := 8) hx hb dX0_init_87 (by decide) ?_
  refine kn_top (x' := nI 8) (by decide) ?_
  refine k_ini (mc := 1) (ms := 8) hx hb hml hown hts hl.1 hP hK hN hS (c_row_init H.size 8 (by omega) (fun q h => hA q (Nat.le_trans hS.1 h)) hD) eX0_11 rfl rfl (Nat.le_of_ble_eq_true rfl) ⟨Nat.le_of_ble_eq_true rfl, Nat.le_of_ble_eq_true rfl⟩ ⟨rfl, rfl⟩ ⟨Nat.le_of_ble_eq_true rfl, Nat.le_of_ble_eq_true rfl⟩ dX0_init_89 (fun ws7 H locs hp hD hP hS => ?_)
  obtain ⟨a7, rfl⟩ := hp
  have hP := app_P hP
  have hD := app_D hD
  have hP : va_P (dC, dI) vwCl (w0 ++ [(o, .inr (0, [.int 0, .ref q1, .ref q2, .ref q3, .ref q4, .ref q5, .ref q6, .null, .null, .null, .null, .null, .null, .int 0, .int 0, .int 0, .int 0, .int 0, .int 0, .int 0])), (q1, .inr (2, [.ref a1])), (a1, .inl (cI, 16, .inl (fun _ => 0))), (q2, .inr (2, [.ref a2])), (a2, .inl (cI, 8, .inl (fun _ => 0))), (q3, .inr (2, [.ref a3])), (a3, .inl (cI, 8, .inl (fun _ => 0))), (q4, .inr (2, [.ref a4])), (a4, .inl (cI, 8, .inl (fun _ => 0))), (q5, .inr (2, [.ref a5])), (a5, .inl (cI, 8, .inl (fun _ => 0))), (q6, .inr (2, [.ref a6])), (a6, .inl (cI, 8, .inl (fun _ => 0))), (q7, .inr (2, [.ref a7])), (a7, .inl (cI, 8, .inl (fun _ => 0)))]) H := hP
  have hD : va_D A (w0 ++ [(o, .inr (0, [.int 0, .ref q1, .ref q2, .ref q3, .ref q4, .ref q5, .ref q6, .null, .null, .null, .null, .null, .null, .int 0, .int 0, .int 0, .int 0, .int 0, .int 0, .int 0])), (q1, .inr (2, [.ref a1])), (a1, .inl (cI, 16, .inl (fun _ => 0))), (q2, .inr (2, [.ref a2])), (a2, .inl (cI, 8, .inl (fun _ => 0))), (q3, .inr (2, [.ref a3])), (a3, .inl (cI, 8, .inl (fun _ => 0))), (q4, .inr (2, [.ref a4])), (a4, .inl (cI, 8, .inl (fun _ => 0))), (q5, .inr (2, [.ref a5])), (a5, .inl (cI, 8, .inl (fun _ => 0))), (q6, .inr (2, [.ref a6])), (a6, .inl (cI, 8, .inl (fun _ => 0))), (q7, .inr (2, [.ref a7])), (a7, .inl (cI, 8, .inl (fun _ => 0)))]) := hD
  refine W.widen (k := 14) (n := 71) (by omega) (by omega) ?_
  refine k_putF (q0 := w0.length) (ci := 0) (ty := .object "RoofsOfSnow$Row") hx hb hts inT_X0 tyX0 tyX0_ok nmX0 hown hin hK hP hD hS getAt rfl 7 (by decide) rfl rfl kX0_35 rfl (by decide +kernel) rfl rfl (Nat.le_of_ble_eq_true rfl) setAt dX0_init_92 (fun H locs hP hD hS => ?_)
  have hP : va_P (dC, dI) vwCl (w0 ++ [(o, .inr (0, [.int 0, .ref q1, .ref q2, .ref q3, .ref q4, .ref q5, .ref q6, .ref q7, .null, .null, .null, .null, .null, .int 0, .int 0, .int 0, .int 0, .int 0, .int 0, .int 0])), (q1, .inr (2, [.ref a1])), (a1, .inl (cI, 16, .inl (fun _ => 0))), (q2, .inr (2, [.ref a2])), (a2, .inl (cI, 8, .inl (fun _ => 0))), (q3, .inr (2, [.ref a3])), (a3, .inl (cI, 8, .inl (fun _ => 0))), (q4, .inr (2, [.ref a4])), (a4, .inl (cI, 8, .inl (fun _ => 0))), (q5, .inr (2, [.ref a5])), (a5, .inl (cI, 8, .inl (fun _ => 0))), (q6, .inr (2, [.ref a6])), (a6, .inl (cI, 8, .inl (fun _ => 0))), (q7, .inr (2, [.ref a7])), (a7, .inl (cI, 8, .inl (fun _ => 0)))]) H := hP
  have hD : va_D A (w0 ++ [(o, .inr (0, [.int 0, .ref q1, .ref q2, .ref q3, .ref q4, .ref q5, .ref q6, .ref q7, .null, .null, .null, .null, .null, .int 0, .int 0, .int 0, .int 0, .int 0, .int 0, .int 0])), (q1, .inr (2, [.ref a1])), (a1, .inl (cI, 16, .inl (fun _ => 0))), (q2, .inr (2, [.ref a2])), (a2, .inl (cI, 8, .inl (fun _ => 0))), (q3, .inr (2, [.ref a3])), (a3, .inl (cI, 8, .inl (fun _ => 0))), (q4, .inr (2, [.ref a4])), (a4, .inl (cI, 8, .inl (fun _ => 0))), (q5, .inr (2, [.ref a5])), (a5, .inl (cI, 8, .inl (fun _ => 0))), (q6, .inr (2, [.ref a6])), (a6, .inl (cI, 8, .inl (fun _ => 0))), (q7, .inr (2, [.ref a7])), (a7, .inl (cI, 8, .inl (fun _ => 0)))]) := hD
  refine lv_aload_n hx hb dX0_init_95 rfl (lv_at hl 0 rfl) ?_
  refine k_new (ci := 2) hx hb hts inT_X2 tyX2 tyX2_ok hown kX0_9 kin_X2 kini_X2 hK hP hD hS hA rfl dfX2 (Nat.le_of_ble_eq_true rfl) (Nat.le_of_ble_eq_true rfl) dX0_init_96 (fun q8 H hP hD hS => ?_)
  refine lv_dup hx hb dX0_init_99 rfl ?_
  refine lv_bipush (v := 32) hx hb dX0_init_100 (by decide) ?_
  refine kn_top (x' := nI 32) (by decide) ?_
  refine k_ini (mc := 1) (ms := 32) hx hb hml hown hts hl.1 hP hK hN hS (c_row_init H.size 32 (by omega) (fun q h => hA q (Nat.le_trans hS.1 h)) hD) eX0_11 rfl rfl (Nat.le_of_ble_eq_true rfl) ⟨Nat.le_of_ble_eq_true rfl, Nat.le_of_ble_eq_true rfl⟩ ⟨rfl, rfl⟩ ⟨Nat.le_of_ble_eq_true rfl, Nat.le_of_ble_eq_true rfl⟩ dX0_init_102 (fun ws8 H locs hp hD hP hS => ?_)
  obtain ⟨a8, rfl⟩ := hp
  have hP := app_P hP
  have hD := app_D hD
  have hP : va_P (dC, dI) vwCl (w0 ++ [(o, .inr (0, [.int 0, .ref q1, .ref q2, .ref q3, .ref q4, .ref q5, .ref q6, .ref q7, .null, .null, .null, .null, .null, .int 0, .int 0, .int 0, .int 0, .int 0, .int 0, .int 0])), (q1, .inr (2, [.ref a1])), (a1, .inl (cI, 16, .inl (fun _ => 0))), (q2, .inr (2, [.ref a2])), (a2, .inl (cI, 8, .inl (fun _ => 0))), (q3, .inr (2, [.ref a3])), (a3, .inl (cI, 8, .inl (fun _ => 0))), (q4, .inr (2, [.ref a4])), (a4, .inl (cI, 8, .inl (fun _ => 0))), (q5, .inr (2, [.ref a5])), (a5, .inl (cI, 8, .inl (fun _ => 0))), (q6, .inr (2, [.ref a6])), (a6, .inl (cI, 8, .inl (fun _ => 0))), (q7, .inr (2, [.ref a7])), (a7, .inl (cI, 8, .inl (fun _ => 0))), (q8, .inr (2, [.ref a8])), (a8, .inl (cI, 32, .inl (fun _ => 0)))]) H := hP
  have hD : va_D A (w0 ++ [(o, .inr (0, [.int 0, .ref q1, .ref q2, .ref q3, .ref q4, .ref q5, .ref q6, .ref q7, .null, .null, .null, .null, .null, .int 0, .int 0, .int 0, .int 0, .int 0, .int 0, .int 0])), (q1, .inr (2, [.ref a1])), (a1, .inl (cI, 16, .inl (fun _ => 0))), (q2, .inr (2, [.ref a2])), (a2, .inl (cI, 8, .inl (fun _ => 0))), (q3, .inr (2, [.ref a3])), (a3, .inl (cI, 8, .inl (fun _ => 0))), (q4, .inr (2, [.ref a4])), (a4, .inl (cI, 8, .inl (fun _ => 0))), (q5, .inr (2, [.ref a5])), (a5, .inl (cI, 8, .inl (fun _ => 0))), (q6, .inr (2, [.ref a6])), (a6, .inl (cI, 8, .inl (fun _ => 0))), (q7, .inr (2, [.ref a7])), (a7, .inl (cI, 8, .inl (fun _ => 0))), (q8, .inr (2, [.ref a8])), (a8, .inl (cI, 32, .inl (fun _ => 0)))]) := hD
  refine W.widen (k := 16) (n := 104) (by omega) (by omega) ?_
  refine k_putF (q0 := w0.length) (ci := 0) (ty := .object "RoofsOfSnow$Row") hx hb hts inT_X0 tyX0 tyX0_ok nmX0 hown hin hK hP hD hS getAt rfl 8 (by decide) rfl rfl kX0_38 rfl (by decide +kernel) rfl rfl (Nat.le_of_ble_eq_true rfl) setAt dX0_init_105 (fun H locs hP hD hS => ?_)
  have hP : va_P (dC, dI) vwCl (w0 ++ [(o, .inr (0, [.int 0, .ref q1, .ref q2, .ref q3, .ref q4, .ref q5, .ref q6, .ref q7, .ref q8, .null, .null, .null, .null, .int 0, .int 0, .int 0, .int 0, .int 0, .int 0, .int 0])), (q1, .inr (2, [.ref a1])), (a1, .inl (cI, 16, .inl (fun _ => 0))), (q2, .inr (2, [.ref a2])), (a2, .inl (cI, 8, .inl (fun _ => 0))), (q3, .inr (2, [.ref a3])), (a3, .inl (cI, 8, .inl (fun _ => 0))), (q4, .inr (2, [.ref a4])), (a4, .inl (cI, 8, .inl (fun _ => 0))), (q5, .inr (2, [.ref a5])), (a5, .inl (cI, 8, .inl (fun _ => 0))), (q6, .inr (2, [.ref a6])), (a6, .inl (cI, 8, .inl (fun _ => 0))), (q7, .inr (2, [.ref a7])), (a7, .inl (cI, 8, .inl (fun _ => 0))), (q8, .inr (2, [.ref a8])), (a8, .inl (cI, 32, .inl (fun _ => 0)))]) H := hP
  have hD : va_D A (w0 ++ [(o, .inr (0, [.int 0, .ref q1, .ref q2, .ref q3, .ref q4, .ref q5, .ref q6, .ref q7, .ref q8, .null, .null, .null, .null, .int 0, .int 0, .int 0, .int 0, .int 0, .int 0, .int 0])), (q1, .inr (2, [.ref a1])), (a1, .inl (cI, 16, .inl (fun _ => 0))), (q2, .inr (2, [.ref a2])), (a2, .inl (cI, 8, .inl (fun _ => 0))), (q3, .inr (2, [.ref a3])), (a3, .inl (cI, 8, .inl (fun _ => 0))), (q4, .inr (2, [.ref a4])), (a4, .inl (cI, 8, .inl (fun _ => 0))), (q5, .inr (2, [.ref a5])), (a5, .inl (cI, 8, .inl (fun _ => 0))), (q6, .inr (2, [.ref a6])), (a6, .inl (cI, 8, .inl (fun _ => 0))), (q7, .inr (2, [.ref a7])), (a7, .inl (cI, 8, .inl (fun _ => 0))), (q8, .inr (2, [.ref a8])), (a8, .inl (cI, 32, .inl (fun _ => 0)))]) := hD
  refine lv_aload_n hx hb dX0_init_108 rfl (lv_at hl 0 rfl) ?_
  refine k_new (ci := 2) hx hb hts inT_X2 tyX2 tyX2_ok hown kX0_9 kin_X2 kini_X2 hK hP hD hS hA rfl dfX2 (Nat.le_of_ble_eq_true rfl) (Nat.le_of_ble_eq_true rfl) dX0_init_109 (fun q9 H hP hD hS => ?_)
  refine lv_dup hx hb dX0_init_112 rfl ?_
  refine lv_bipush (v := 32) hx hb dX0_init_113 (by decide) ?_
  refine kn_top (x' := nI 32) (by decide) ?_
  refine k_ini (mc := 1) (ms := 32) hx hb hml hown hts hl.1 hP hK hN hS (c_row_init H.size 32 (by omega) (fun q h => hA q (Nat.le_trans hS.1 h)) hD) eX0_11 rfl rfl (Nat.le_of_ble_eq_true rfl) ⟨Nat.le_of_ble_eq_true rfl, Nat.le_of_ble_eq_true rfl⟩ ⟨rfl, rfl⟩ ⟨Nat.le_of_ble_eq_true rfl, Nat.le_of_ble_eq_true rfl⟩ dX0_init_115 (fun ws9 H locs hp hD hP hS => ?_)
  obtain ⟨a9, rfl⟩ := hp
  have hP := app_P hP
  have hD := app_D hD
  have hP : va_P (dC, dI) vwCl (w0 ++ [(o, .inr (0, [.int 0, .ref q1, .ref q2, .ref q3, .ref q4, .ref q5, .ref q6, .ref q7, .ref q8, .null, .null, .null, .null, .int 0, .int 0, .int 0, .int 0, .int 0, .int 0, .int 0])), (q1, .inr (2, [.ref a1])), (a1, .inl (cI, 16, .inl (fun _ => 0))), (q2, .inr (2, [.ref a2])), (a2, .inl (cI, 8, .inl (fun _ => 0))), (q3, .inr (2, [.ref a3])), (a3, .inl (cI, 8, .inl (fun _ => 0))), (q4, .inr (2, [.ref a4])), (a4, .inl (cI, 8, .inl (fun _ => 0))), (q5, .inr (2, [.ref a5])), (a5, .inl (cI, 8, .inl (fun _ => 0))), (q6, .inr (2, [.ref a6])), (a6, .inl (cI, 8, .inl (fun _ => 0))), (q7, .inr (2, [.ref a7])), (a7, .inl (cI, 8, .inl (fun _ => 0))), (q8, .inr (2, [.ref a8])), (a8, .inl (cI, 32, .inl (fun _ => 0))), (q9, .inr (2, [.ref a9])), (a9, .inl (cI, 32, .inl (fun _ => 0)))]) H := hP
  have hD : va_D A (w0 ++ [(o, .inr (0, [.int 0, .ref q1, .ref q2, .ref q3, .ref q4, .ref q5, .ref q6, .ref q7, .ref q8, .null, .null, .null, .null, .int 0, .int 0, .int 0, .int 0, .int 0, .int 0, .int 0])), (q1, .inr (2, [.ref a1])), (a1, .inl (cI, 16, .inl (fun _ => 0))), (q2, .inr (2, [.ref a2])), (a2, .inl (cI, 8, .inl (fun _ => 0))), (q3, .inr (2, [.ref a3])), (a3, .inl (cI, 8, .inl (fun _ => 0))), (q4, .inr (2, [.ref a4])), (a4, .inl (cI, 8, .inl (fun _ => 0))), (q5, .inr (2, [.ref a5])), (a5, .inl (cI, 8, .inl (fun _ => 0))), (q6, .inr (2, [.ref a6])), (a6, .inl (cI, 8, .inl (fun _ => 0))), (q7, .inr (2, [.ref a7])), (a7, .inl (cI, 8, .inl (fun _ => 0))), (q8, .inr (2, [.ref a8])), (a8, .inl (cI, 32, .inl (fun _ => 0))), (q9, .inr (2, [.ref a9])), (a9, .inl (cI, 32, .inl (fun _ => 0)))]) := hD
  refine W.widen (k := 18) (n := 137) (by omega) (by omega) ?_
  refine k_putF (q0 := w0.length) (ci := 0) (ty := .object "RoofsOfSnow$Row") hx hb hts inT_X0 tyX0 tyX0_ok nmX0 hown hin hK hP hD hS getAt rfl 9 (by decide) rfl rfl kX0_41 rfl (by decide +kernel) rfl rfl (Nat.le_of_ble_eq_true rfl) setAt dX0_init_118 (fun H locs hP hD hS => ?_)
  have hP : va_P (dC, dI) vwCl (w0 ++ [(o, .inr (0, [.int 0, .ref q1, .ref q2, .ref q3, .ref q4, .ref q5, .ref q6, .ref q7, .ref q8, .ref q9, .null, .null, .null, .int 0, .int 0, .int 0, .int 0, .int 0, .int 0, .int 0])), (q1, .inr (2, [.ref a1])), (a1, .inl (cI, 16, .inl (fun _ => 0))), (q2, .inr (2, [.ref a2])), (a2, .inl (cI, 8, .inl (fun _ => 0))), (q3, .inr (2, [.ref a3])), (a3, .inl (cI, 8, .inl (fun _ => 0))), (q4, .inr (2, [.ref a4])), (a4, .inl (cI, 8, .inl (fun _ => 0))), (q5, .inr (2, [.ref a5])), (a5, .inl (cI, 8, .inl (fun _ => 0))), (q6, .inr (2, [.ref a6])), (a6, .inl (cI, 8, .inl (fun _ => 0))), (q7, .inr (2, [.ref a7])), (a7, .inl (cI, 8, .inl (fun _ => 0))), (q8, .inr (2, [.ref a8])), (a8, .inl (cI, 32, .inl (fun _ => 0))), (q9, .inr (2, [.ref a9])), (a9, .inl (cI, 32, .inl (fun _ => 0)))]) H := hP
  have hD : va_D A (w0 ++ [(o, .inr (0, [.int 0, .ref q1, .ref q2, .ref q3, .ref q4, .ref q5, .ref q6, .ref q7, .ref q8, .ref q9, .null, .null, .null, .int 0, .int 0, .int 0, .int 0, .int 0, .int 0, .int 0])), (q1, .inr (2, [.ref a1])), (a1, .inl (cI, 16, .inl (fun _ => 0))), (q2, .inr (2, [.ref a2])), (a2, .inl (cI, 8, .inl (fun _ => 0))), (q3, .inr (2, [.ref a3])), (a3, .inl (cI, 8, .inl (fun _ => 0))), (q4, .inr (2, [.ref a4])), (a4, .inl (cI, 8, .inl (fun _ => 0))), (q5, .inr (2, [.ref a5])), (a5, .inl (cI, 8, .inl (fun _ => 0))), (q6, .inr (2, [.ref a6])), (a6, .inl (cI, 8, .inl (fun _ => 0))), (q7, .inr (2, [.ref a7])), (a7, .inl (cI, 8, .inl (fun _ => 0))), (q8, .inr (2, [.ref a8])), (a8, .inl (cI, 32, .inl (fun _ => 0))), (q9, .inr (2, [.ref a9])), (a9, .inl (cI, 32, .inl (fun _ => 0)))]) := hD
  refine lv_aload_n hx hb dX0_init_121 rfl (lv_at hl 0 rfl) ?_
  refine k_new (ci := 2) hx hb hts inT_X2 tyX2 tyX2_ok hown kX0_9 kin_X2 kini_X2 hK hP hD hS hA rfl dfX2 (Nat.le_of_ble_eq_true rfl) (Nat.le_of_ble_eq_true rfl) dX0_init_122 (fun q10 H hP hD hS => ?_)
  refine lv_dup hx hb dX0_init_125 rfl ?_
  refine lv_bipush (v := 6) hx hb dX0_init_126 (by decide) ?_
  refine kn_top (x' := nI 6) (by decide) ?_
  refine k_ini (mc := 1) (ms := 6) hx hb hml hown hts hl.1 hP hK hN hS (c_row_init H.size 6 (by omega) (fun q h => hA q (Nat.le_trans hS.1 h)) hD) eX0_11 rfl rfl (Nat.le_of_ble_eq_true rfl) ⟨Nat.le_of_ble_eq_true rfl, Nat.le_of_ble_eq_true rfl⟩ ⟨rfl, rfl⟩ ⟨Nat.le_of_ble_eq_true rfl, Nat.le_of_ble_eq_true rfl⟩ dX0_init_128 (fun ws10 H locs hp hD hP hS => ?_)
  obtain ⟨a10, rfl⟩ := hp
  have hP := app_P hP
  have hD := app_D hD
  have hP : va_P (dC, dI) vwCl (w0 ++ [(o, .inr (0, [.int 0, .ref q1, .ref q2, .ref q3, .ref q4, .ref q5, .ref q6, .ref q7, .ref q8, .ref q9, .null, .null, .null, .int 0, .int 0, .int 0, .int 0, .int 0, .int 0, .int 0])), (q1, .inr (2, [.ref a1])), (a1, .inl (cI, 16, .inl (fun _ => 0))), (q2, .inr (2, [.ref a2])), (a2, .inl (cI, 8, .inl (fun _ => 0))), (q3, .inr (2, [.ref a3])), (a3, .inl (cI, 8, .inl (fun _ => 0))), (q4, .inr (2, [.ref a4])), (a4, .inl (cI, 8, .inl (fun _ => 0))), (q5, .inr (2, [.ref a5])), (a5, .inl (cI, 8, .inl (fun _ => 0))), (q6, .inr (2, [.ref a6])), (a6, .inl (cI, 8, .inl (fun _ => 0))), (q7, .inr (2, [.ref a7])), (a7, .inl (cI, 8, .inl (fun _ => 0))), (q8, .inr (2, [.ref a8])), (a8, .inl (cI, 32, .inl (fun _ => 0))), (q9, .inr (2, [.ref a9])), (a9, .inl (cI, 32, .inl (fun _ => 0))), (q10, .inr (2, [.ref a10])), (a10, .inl (cI, 6, .inl (fun _ => 0)))]) H := hP
  have hD : va_D A (w0 ++ [(o, .inr (0, [.int 0, .ref q1, .ref q2, .ref q3, .ref q4, .ref q5, .ref q6, .ref q7, .ref q8, .ref q9, .null, .null, .null, .int 0, .int 0, .int 0, .int 0, .int 0, .int 0, .int 0])), (q1, .inr (2, [.ref a1])), (a1, .inl (cI, 16, .inl (fun _ => 0))), (q2, .inr (2, [.ref a2])), (a2, .inl (cI, 8, .inl (fun _ => 0))), (q3, .inr (2, [.ref a3])), (a3, .inl (cI, 8, .inl (fun _ => 0))), (q4, .inr (2, [.ref a4])), (a4, .inl (cI, 8, .inl (fun _ => 0))), (q5, .inr (2, [.ref a5])), (a5, .inl (cI, 8, .inl (fun _ => 0))), (q6, .inr (2, [.ref a6])), (a6, .inl (cI, 8, .inl (fun _ => 0))), (q7, .inr (2, [.ref a7])), (a7, .inl (cI, 8, .inl (fun _ => 0))), (q8, .inr (2, [.ref a8])), (a8, .inl (cI, 32, .inl (fun _ => 0))), (q9, .inr (2, [.ref a9])), (a9, .inl (cI, 32, .inl (fun _ => 0))), (q10, .inr (2, [.ref a10])), (a10, .inl (cI, 6, .inl (fun _ => 0)))]) := hD
  refine W.widen (k := 20) (n := 144) (by omega) (by omega) ?_
  refine k_putF (q0 := w0.length) (ci := 0) (ty := .object "RoofsOfSnow$Row") hx hb hts inT_X0 tyX0 tyX0_ok nmX0 hown hin hK hP hD hS getAt rfl 10 (by decide) rfl rfl kX0_44 rfl (by decide +kernel) rfl rfl (Nat.le_of_ble_eq_true rfl) setAt dX0_init_131 (fun H locs hP hD hS => ?_)
  have hP : va_P (dC, dI) vwCl (w0 ++ [(o, .inr (0, [.int 0, .ref q1, .ref q2, .ref q3, .ref q4, .ref q5, .ref q6, .ref q7, .ref q8, .ref q9, .ref q10, .null, .null, .int 0, .int 0, .int 0, .int 0, .int 0, .int 0, .int 0])), (q1, .inr (2, [.ref a1])), (a1, .inl (cI, 16, .inl (fun _ => 0))), (q2, .inr (2, [.ref a2])), (a2, .inl (cI, 8, .inl (fun _ => 0))), (q3, .inr (2, [.ref a3])), (a3, .inl (cI, 8, .inl (fun _ => 0))), (q4, .inr (2, [.ref a4])), (a4, .inl (cI, 8, .inl (fun _ => 0))), (q5, .inr (2, [.ref a5])), (a5, .inl (cI, 8, .inl (fun _ => 0))), (q6, .inr (2, [.ref a6])), (a6, .inl (cI, 8, .inl (fun _ => 0))), (q7, .inr (2, [.ref a7])), (a7, .inl (cI, 8, .inl (fun _ => 0))), (q8, .inr (2, [.ref a8])), (a8, .inl (cI, 32, .inl (fun _ => 0))), (q9, .inr (2, [.ref a9])), (a9, .inl (cI, 32, .inl (fun _ => 0))), (q10, .inr (2, [.ref a10])), (a10, .inl (cI, 6, .inl (fun _ => 0)))]) H := hP
  have hD : va_D A (w0 ++ [(o, .inr (0, [.int 0, .ref q1, .ref q2, .ref q3, .ref q4, .ref q5, .ref q6, .ref q7, .ref q8, .ref q9, .ref q10, .null, .null, .int 0, .int 0, .int 0, .int 0, .int 0, .int 0, .int 0])), (q1, .inr (2, [.ref a1])), (a1, .inl (cI, 16, .inl (fun _ => 0))), (q2, .inr (2, [.ref a2])), (a2, .inl (cI, 8, .inl (fun _ => 0))), (q3, .inr (2, [.ref a3])), (a3, .inl (cI, 8, .inl (fun _ => 0))), (q4, .inr (2, [.ref a4])), (a4, .inl (cI, 8, .inl (fun _ => 0))), (q5, .inr (2, [.ref a5])), (a5, .inl (cI, 8, .inl (fun _ => 0))), (q6, .inr (2, [.ref a6])), (a6, .inl (cI, 8, .inl (fun _ => 0))), (q7, .inr (2, [.ref a7])), (a7, .inl (cI, 8, .inl (fun _ => 0))), (q8, .inr (2, [.ref a8])), (a8, .inl (cI, 32, .inl (fun _ => 0))), (q9, .inr (2, [.ref a9])), (a9, .inl (cI, 32, .inl (fun _ => 0))), (q10, .inr (2, [.ref a10])), (a10, .inl (cI, 6, .inl (fun _ => 0)))]) := hD
  refine lv_aload_n hx hb dX0_init_134 rfl (lv_at hl 0 rfl) ?_
  refine k_new (ci := 2) hx hb hts inT_X2 tyX2 tyX2_ok hown kX0_9 kin_X2 kini_X2 hK hP hD hS hA rfl dfX2 (Nat.le_of_ble_eq_true rfl) (Nat.le_of_ble_eq_true rfl) dX0_init_135 (fun q11 H hP hD hS => ?_)
  refine lv_dup hx hb dX0_init_138 rfl ?_
  refine lv_iconst (v := 3) hx hb dX0_init_139 (by decide) ?_
  refine kn_top (x' := nI 3) (by decide) ?_
  refine k_ini (mc := 1) (ms := 3) hx hb hml hown hts hl.1 hP hK hN hS (c_row_init H.size 3 (by omega) (fun q h => hA q (Nat.le_trans hS.1 h)) hD) eX0_11 rfl rfl (Nat.le_of_ble_eq_true rfl) ⟨Nat.le_of_ble_eq_true rfl, Nat.le_of_ble_eq_true rfl⟩ ⟨rfl, rfl⟩ ⟨Nat.le_of_ble_eq_true rfl, Nat.le_of_ble_eq_true rfl⟩ dX0_init_140 (fun ws11 H locs hp hD hP hS => ?_)
  obtain ⟨a11, rfl⟩ := hp
  have hP := app_P hP
  have hD := app_D hD
  have hP : va_P (dC, dI) vwCl (w0 ++ [(o, .inr (0, [.int 0, .ref q1, .ref q2, .ref q3, .ref q4, .ref q5, .ref q6, .ref q7, .ref q8, .ref q9, .ref q10, .null, .null, .int 0, .int 0, .int 0, .int 0, .int 0, .int 0, .int 0])), (q1, .inr (2, [.ref a1])), (a1, .inl (cI, 16, .inl (fun _ => 0))), (q2, .inr (2, [.ref a2])), (a2, .inl (cI, 8, .inl (fun _ => 0))), (q3, .inr (2, [.ref a3])), (a3, .inl (cI, 8, .inl (fun _ => 0))), (q4, .inr (2, [.ref a4])), (a4, .inl (cI, 8, .inl (fun _ => 0))), (q5, .inr (2, [.ref a5])), (a5, .inl (cI, 8, .inl (fun _ => 0))), (q6, .inr (2, [.ref a6])), (a6, .inl (cI, 8, .inl (fun _ => 0))), (q7, .inr (2, [.ref a7])), (a7, .inl (cI, 8, .inl (fun _ => 0))), (q8, .inr (2, [.ref a8])), (a8, .inl (cI, 32, .inl (fun _ => 0))), (q9, .inr (2, [.ref a9])), (a9, .inl (cI, 32, .inl (fun _ => 0))), (q10, .inr (2, [.ref a10])), (a10, .inl (cI, 6, .inl (fun _ => 0))), (q11, .inr (2, [.ref a11])), (a11, .inl (cI, 3, .inl (fun _ => 0)))]) H := hP
  have hD : va_D A (w0 ++ [(o, .inr (0, [.int 0, .ref q1, .ref q2, .ref q3, .ref q4, .ref q5, .ref q6, .ref q7, .ref q8, .ref q9, .ref q10, .null, .null, .int 0, .int 0, .int 0, .int 0, .int 0, .int 0, .int 0])), (q1, .inr (2, [.ref a1])), (a1, .inl (cI, 16, .inl (fun _ => 0))), (q2, .inr (2, [.ref a2])), (a2, .inl (cI, 8, .inl (fun _ => 0))), (q3, .inr (2, [.ref a3])), (a3, .inl (cI, 8, .inl (fun _ => 0))), (q4, .inr (2, [.ref a4])), (a4, .inl (cI, 8, .inl (fun _ => 0))), (q5, .inr (2, [.ref a5])), (a5, .inl (cI, 8, .inl (fun _ => 0))), (q6, .inr (2, [.ref a6])), (a6, .inl (cI, 8, .inl (fun _ => 0))), (q7, .inr (2, [.ref a7])), (a7, .inl (cI, 8, .inl (fun _ => 0))), (q8, .inr (2, [.ref a8])), (a8, .inl (cI, 32, .inl (fun _ => 0))), (q9, .inr (2, [.ref a9])), (a9, .inl (cI, 32, .inl (fun _ => 0))), (q10, .inr (2, [.ref a10])), (a10, .inl (cI, 6, .inl (fun _ => 0))), (q11, .inr (2, [.ref a11])), (a11, .inl (cI, 3, .inl (fun _ => 0)))]) := hD
  refine W.widen (k := 22) (n := 148) (by omega) (by omega) ?_
  refine k_putF (q0 := w0.length) (ci := 0) (ty := .object "RoofsOfSnow$Row") hx hb hts inT_X0 tyX0 tyX0_ok nmX0 hown hin hK hP hD hS getAt rfl 11 (by decide) rfl rfl kX0_47 rfl (by decide +kernel) rfl rfl (Nat.le_of_ble_eq_true rfl) setAt dX0_init_143 (fun H locs hP hD hS => ?_)
  have hP : va_P (dC, dI) vwCl (w0 ++ [(o, .inr (0, [.int 0, .ref q1, .ref q2, .ref q3, .ref q4, .ref q5, .ref q6, .ref q7, .ref q8, .ref q9, .ref q10, .ref q11, .null, .int 0, .int 0, .int 0, .int 0, .int 0, .int 0, .int 0])), (q1, .inr (2, [.ref a1])), (a1, .inl (cI, 16, .inl (fun _ => 0))), (q2, .inr (2, [.ref a2])), (a2, .inl (cI, 8, .inl (fun _ => 0))), (q3, .inr (2, [.ref a3])), (a3, .inl (cI, 8, .inl (fun _ => 0))), (q4, .inr (2, [.ref a4])), (a4, .inl (cI, 8, .inl (fun _ => 0))), (q5, .inr (2, [.ref a5])), (a5, .inl (cI, 8, .inl (fun _ => 0))), (q6, .inr (2, [.ref a6])), (a6, .inl (cI, 8, .inl (fun _ => 0))), (q7, .inr (2, [.ref a7])), (a7, .inl (cI, 8, .inl (fun _ => 0))), (q8, .inr (2, [.ref a8])), (a8, .inl (cI, 32, .inl (fun _ => 0))), (q9, .inr (2, [.ref a9])), (a9, .inl (cI, 32, .inl (fun _ => 0))), (q10, .inr (2, [.ref a10])), (a10, .inl (cI, 6, .inl (fun _ => 0))), (q11, .inr (2, [.ref a11])), (a11, .inl (cI, 3, .inl (fun _ => 0)))]) H := hP
  have hD : va_D A (w0 ++ [(o, .inr (0, [.int 0, .ref q1, .ref q2, .ref q3, .ref q4, .ref q5, .ref q6, .ref q7, .ref q8, .ref q9, .ref q10, .ref q11, .null, .int 0, .int 0, .int 0, .int 0, .int 0, .int 0, .int 0])), (q1, .inr (2, [.ref a1])), (a1, .inl (cI, 16, .inl (fun _ => 0))), (q2, .inr (2, [.ref a2])), (a2, .inl (cI, 8, .inl (fun _ => 0))), (q3, .inr (2, [.ref a3])), (a3, .inl (cI, 8, .inl (fun _ => 0))), (q4, .inr (2, [.ref a4])), (a4, .inl (cI, 8, .inl (fun _ => 0))), (q5, .inr (2, [.ref a5])), (a5, .inl (cI, 8, .inl (fun _ => 0))), (q6, .inr (2, [.ref a6])), (a6, .inl (cI, 8, .inl (fun _ => 0))), (q7, .inr (2, [.ref a7])), (a7, .inl (cI, 8, .inl (fun _ => 0))), (q8, .inr (2, [.ref a8])), (a8, .inl (cI, 32, .inl (fun _ => 0))), (q9, .inr (2, [.ref a9])), (a9, .inl (cI, 32, .inl (fun _ => 0))), (q10, .inr (2, [.ref a10])), (a10, .inl (cI, 6, .inl (fun _ => 0))), (q11, .inr (2, [.ref a11])), (a11, .inl (cI, 3, .inl (fun _ => 0)))]) := hD
  refine lv_aload_n hx hb dX0_init_146 rfl (lv_at hl 0 rfl) ?_
  refine k_new (ci := 2) hx hb hts inT_X2 tyX2 tyX2_ok hown kX0_9 kin_X2 kini_X2 hK hP hD hS hA rfl dfX2 (Nat.le_of_ble_eq_true rfl) (Nat.le_of_ble_eq_true rfl) dX0_init_147 (fun q12 H hP hD hS => ?_)
  refine lv_dup hx hb dX0_init_150 rfl ?_
  refine lv_bipush (v := 9) hx hb dX0_init_151 (by decide) ?_
  refine kn_top (x' := nI 9) (by decide) ?_
  refine k_ini (mc := 1) (ms := 9) hx hb hml hown hts hl.1 hP hK hN hS (c_row_init H.size 9 (by omega) (fun q h => hA q (Nat.le_trans hS.1 h)) hD) eX0_11 rfl rfl (Nat.le_of_ble_eq_true rfl) ⟨Nat.le_of_ble_eq_true rfl, Nat.le_of_ble_eq_true rfl⟩ ⟨rfl, rfl⟩ ⟨Nat.le_of_ble_eq_true rfl, Nat.le_of_ble_eq_true rfl⟩ dX0_init_153 (fun ws12 H locs hp hD hP hS => ?_)
  obtain ⟨a12, rfl⟩ := hp
  have hP := app_P hP
  have hD := app_D hD
  have hP : va_P (dC, dI) vwCl (w0 ++ [(o, .inr (0, [.int 0, .ref q1, .ref q2, .ref q3, .ref q4, .ref q5, .ref q6, .ref q7, .ref q8, .ref q9, .ref q10, .ref q11, .null, .int 0, .int 0, .int 0, .int 0, .int 0, .int 0, .int 0])), (q1, .inr (2, [.ref a1])), (a1, .inl (cI, 16, .inl (fun _ => 0))), (q2, .inr (2, [.ref a2])), (a2, .inl (cI, 8, .inl (fun _ => 0))), (q3, .inr (2, [.ref a3])), (a3, .inl (cI, 8, .inl (fun _ => 0))), (q4, .inr (2, [.ref a4])), (a4, .inl (cI, 8, .inl (fun _ => 0))), (q5, .inr (2, [.ref a5])), (a5, .inl (cI, 8, .inl (fun _ => 0))), (q6, .inr (2, [.ref a6])), (a6, .inl (cI, 8, .inl (fun _ => 0))), (q7, .inr (2, [.ref a7])), (a7, .inl (cI, 8, .inl (fun _ => 0))), (q8, .inr (2, [.ref a8])), (a8, .inl (cI, 32, .inl (fun _ => 0))), (q9, .inr (2, [.ref a9])), (a9, .inl (cI, 32, .inl (fun _ => 0))), (q10, .inr (2, [.ref a10])), (a10, .inl (cI, 6, .inl (fun _ => 0))), (q11, .inr (2, [.ref a11])), (a11, .inl (cI, 3, .inl (fun _ => 0))), (q12, .inr (2, [.ref a12])), (a12, .inl (cI, 9, .inl (fun _ => 0)))]) H := hP
  have hD : va_D A (w0 ++ [(o, .inr (0, [.int 0, .ref q1, .ref q2, .ref q3, .ref q4, .ref q5, .ref q6, .ref q7, .ref q8, .ref q9, .ref q10, .ref q11, .null, .int 0, .int 0, .int 0, .int 0, .int 0, .int 0, .int 0])), (q1, .inr (2, [.ref a1])), (a1, .inl (cI, 16, .inl (fun _ => 0))), (q2, .inr (2, [.ref a2])), (a2, .inl (cI, 8, .inl (fun _ => 0))), (q3, .inr (2, [.ref a3])), (a3, .inl (cI, 8, .inl (fun _ => 0))), (q4, .inr (2, [.ref a4])), (a4, .inl (cI, 8, .inl (fun _ => 0))), (q5, .inr (2, [.ref a5])), (a5, .inl (cI, 8, .inl (fun _ => 0))), (q6, .inr (2, [.ref a6])), (a6, .inl (cI, 8, .inl (fun _ => 0))), (q7, .inr (2, [.ref a7])), (a7, .inl (cI, 8, .inl (fun _ => 0))), (q8, .inr (2, [.ref a8])), (a8, .inl (cI, 32, .inl (fun _ => 0))), (q9, .inr (2, [.ref a9])), (a9, .inl (cI, 32, .inl (fun _ => 0))), (q10, .inr (2, [.ref a10])), (a10, .inl (cI, 6, .inl (fun _ => 0))), (q11, .inr (2, [.ref a11])), (a11, .inl (cI, 3, .inl (fun _ => 0))), (q12, .inr (2, [.ref a12])), (a12, .inl (cI, 9, .inl (fun _ => 0)))]) := hD
  refine W.widen (k := 24) (n := 158) (by omega) (by omega) ?_
  refine k_putF (q0 := w0.length) (ci := 0) (ty := .object "RoofsOfSnow$Row") hx hb hts inT_X0 tyX0 tyX0_ok nmX0 hown hin hK hP hD hS getAt rfl 12 (by decide) rfl rfl kX0_50 rfl (by decide +kernel) rfl rfl (Nat.le_of_ble_eq_true rfl) setAt dX0_init_156 (fun H locs hP hD hS => ?_)
  have hP : va_P (dC, dI) vwCl (w0 ++ [(o, .inr (0, [.int 0, .ref q1, .ref q2, .ref q3, .ref q4, .ref q5, .ref q6, .ref q7, .ref q8, .ref q9, .ref q10, .ref q11, .ref q12, .int 0, .int 0, .int 0, .int 0, .int 0, .int 0, .int 0])), (q1, .inr (2, [.ref a1])), (a1, .inl (cI, 16, .inl (fun _ => 0))), (q2, .inr (2, [.ref a2])), (a2, .inl (cI, 8, .inl (fun _ => 0))), (q3, .inr (2, [.ref a3])), (a3, .inl (cI, 8, .inl (fun _ => 0))), (q4, .inr (2, [.ref a4])), (a4, .inl (cI, 8, .inl (fun _ => 0))), (q5, .inr (2, [.ref a5])), (a5, .inl (cI, 8, .inl (fun _ => 0))), (q6, .inr (2, [.ref a6])), (a6, .inl (cI, 8, .inl (fun _ => 0))), (q7, .inr (2, [.ref a7])), (a7, .inl (cI, 8, .inl (fun _ => 0))), (q8, .inr (2, [.ref a8])), (a8, .inl (cI, 32, .inl (fun _ => 0))), (q9, .inr (2, [.ref a9])), (a9, .inl (cI, 32, .inl (fun _ => 0))), (q10, .inr (2, [.ref a10])), (a10, .inl (cI, 6, .inl (fun _ => 0))), (q11, .inr (2, [.ref a11])), (a11, .inl (cI, 3, .inl (fun _ => 0))), (q12, .inr (2, [.ref a12])), (a12, .inl (cI, 9, .inl (fun _ => 0)))]) H := hP
  have hD : va_D A (w0 ++ [(o, .inr (0, [.int 0, .ref q1, .ref q2, .ref q3, .ref q4, .ref q5, .ref q6, .ref q7, .ref q8, .ref q9, .ref q10, .ref q11, .ref q12, .int 0, .int 0, .int 0, .int 0, .int 0, .int 0, .int 0])), (q1, .inr (2, [.ref a1])), (a1, .inl (cI, 16, .inl (fun _ => 0))), (q2, .inr (2, [.ref a2])), (a2, .inl (cI, 8, .inl (fun _ => 0))), (q3, .inr (2, [.ref a3])), (a3, .inl (cI, 8, .inl (fun _ => 0))), (q4, .inr (2, [.ref a4])), (a4, .inl (cI, 8, .inl (fun _ => 0))), (q5, .inr (2, [.ref a5])), (a5, .inl (cI, 8, .inl (fun _ => 0))), (q6, .inr (2, [.ref a6])), (a6, .inl (cI, 8, .inl (fun _ => 0))), (q7, .inr (2, [.ref a7])), (a7, .inl (cI, 8, .inl (fun _ => 0))), (q8, .inr (2, [.ref a8])), (a8, .inl (cI, 32, .inl (fun _ => 0))), (q9, .inr (2, [.ref a9])), (a9, .inl (cI, 32, .inl (fun _ => 0))), (q10, .inr (2, [.ref a10])), (a10, .inl (cI, 6, .inl (fun _ => 0))), (q11, .inr (2, [.ref a11])), (a11, .inl (cI, 3, .inl (fun _ => 0))), (q12, .inr (2, [.ref a12])), (a12, .inl (cI, 9, .inl (fun _ => 0)))]) := hD
  exact W.vret hx hb hr (fun t ht hW => ⟨rfl, ⟨_, ⟨kAt [o, q1, a1, q2, a2, q3, a3, q4, a4, q5, a5, q6, a6, q7, a7, q8, a8, q9, a9, q10, a10, q11, a11, q12, a12], rfl, rfl⟩, hD, kB.of hP hK hN ht hW⟩, hS.F ht⟩) hS.2.2 dX0_init_159 hlocks
set_option maxHeartbeats 4000000 in
set_option maxRecDepth 100000 in
theorem c_villageN_init (sz : Nat) (pa nx : Nat) (hA : ∀ q, sz ≤ q → A q) (hD : va_D A (w0 ++ [(o, .inr (5, [.null, .null, .null, .null, .null, .null, .null, .null, .int 0, .int 0, .int 0, .int 0, .int 0]))])) : Met l yX6_init (.code yX6_init cX6_init 3 none :: kT) ({ frames := 2, cells := 12, slots := 78, locals := 45 } : Room) (va_Pc [.ref o, .ref pa, .null] (kBz sz (dC, dI) [(cI, .int)] (w0 ++ [(o, .inr (5, [.null, .null, .null, .null, .null, .null, .null, .null, .int 0, .int 0, .int 0, .int 0, .int 0]))]))) (kM (fun ws' => ∃ a : Nat → Nat, a 0 = o ∧ ws' = w0 ++ kTab a 13 (vE cI a zA zS pa .null)) A (dC, dI) [(cI, .int)]) 12 78 A := by
  refine kMet (by decide) (fun p e s m args below meth c ls hx hb hr hml hts hown hlocks hname hargs hB hl => ?_) (Nat.le_of_ble_eq_true rfl)
  obtain ⟨hsz, hP, hK, hN⟩ := hB
  have hA : ∀ q, s.heap.size ≤ q → A q := fun q h => hA q (hsz ▸ h)
  have hl : lv_has ls 3 [(0, .ref o), (1, .ref pa), (2, .null)] := hl
  have hS : va_S A s.heap s.heap [] := va_S.rf
  have hin : meth.name = "<init>" := hname
  refine lv_aload_n hx hb dX6_init_0 rfl (lv_at hl 0 rfl) ?_
  refine W.objInit hx hb hown (hts _ kobj_X6) (hts _ k_objI) (hts _ k_objC) rfl (by rw [hml]; exact hl.1) rfl dX6_init_1 (Nat.le_of_ble_eq_true rfl) (Nat.le_of_ble_eq_true rfl) ?_
  refine W.eq (g2 := F0 m 4 ls []) rfl ?_
  refine lv_aload_n hx hb dX6_init_4 rfl (lv_at hl 0 rfl) ?_
  refine k_new (ci := 2) hx hb hts inT_X2 tyX2 tyX2_ok hown kX6_9 kin_X2 kini_X2 hK hP hD hS hA rfl dfX2 (Nat.le_of_ble_eq_true rfl) (Nat.le_of_ble_eq_true rfl) dX6_init_5 (fun q1 H hP hD hS => ?_)
  refine lv_dup hx hb dX6_init_8 rfl ?_
  refine lv_bipush (v := 16) hx hb dX6_init_9 (by decide) ?_
  refine kn_top (x' := nI 16) (by decide) ?_
  refine k_ini (mc := 1) (ms := 16) hx hb hml hown hts hl.1 hP hK hN hS (c_row_init H.size 16 (by omega) (fun q h => hA q (Nat.le_trans hS.1 h)) hD) eX6_11 rfl rfl (Nat.le_of_ble_eq_true rfl) ⟨Nat.le_of_ble_eq_true rfl, Nat.le_of_ble_eq_true rfl⟩ ⟨rfl, rfl⟩ ⟨Nat.le_of_ble_eq_true rfl, Nat.le_of_ble_eq_true rfl⟩ dX6_init_11 (fun ws1 H locs hp hD hP hS => ?_)
  obtain ⟨a1, rfl⟩ := hp
  have hP := app_P hP
  have hD := app_D hD
  have hP : va_P (dC, dI) vwCl (w0 ++ [(o, .inr (5, [.null, .null, .null, .null, .null, .null, .null, .null, .int 0, .int 0, .int 0, .int 0, .int 0])), (q1, .inr (2, [.ref a1])), (a1, .inl (cI, 16, .inl (fun _ => 0)))]) H := hP
  have hD : va_D A (w0 ++ [(o, .inr (5, [.null, .null, .null, .null, .null, .null, .null, .null, .int 0, .int 0, .int 0, .int 0, .int 0])), (q1, .inr (2, [.ref a1])), (a1, .inl (cI, 16, .inl (fun _ => 0)))]) := hD
  refine W.widen (k := 2) (n := 17) (by omega) (by omega) ?_
  refine k_putF (q0 := w0.length) (ci := 5) (ty := .object "RoofsOfSnow$Row") hx hb hts inT_X6 tyX6 tyX6_ok nmX6 hown hin hK hP hD hS getAt rfl 1 (by decide) rfl rfl kX6_14 rfl (by decide +kernel) rfl rfl (Nat.le_of_ble_eq_true rfl) setAt dX6_init_14 (fun H locs hP hD hS => ?_)
  have hP : va_P (dC, dI) vwCl (w0 ++ [(o, .inr (5, [.null, .ref q1, .null, .null, .null, .null, .null, .null, .int 0, .int 0, .int 0, .int 0, .int 0])), (q1, .inr (2, [.ref a1])), (a1, .inl (cI, 16, .inl (fun _ => 0)))]) H := hP
  have hD : va_D A (w0 ++ [(o, .inr (5, [.null, .ref q1, .null, .null, .null, .null, .null, .null, .int 0, .int 0, .int 0, .int 0, .int 0])), (q1, .inr (2, [.ref a1])), (a1, .inl (cI, 16, .inl (fun _ => 0)))]) := hD
  refine lv_aload_n hx hb dX6_init_17 rfl (lv_at hl 0 rfl) ?_
  refine k_new (ci := 2) hx hb hts inT_X2 tyX2 tyX2_ok hown kX6_9 kin_X2 kini_X2 hK hP hD hS hA rfl dfX2 (Nat.le_of_ble_eq_true rfl) (Nat.le_of_ble_eq_true rfl) dX6_init_18 (fun q2 H hP hD hS => ?_)
  refine lv_dup hx hb dX6_init_21 rfl ?_
  refine lv_bipush (v := 8) hx hb dX6_init_22 (by decide) ?_
  refine kn_top (x' := nI 8) (by decide) ?_
  refine k_ini (mc := 1) (ms := 8) hx hb hml hown hts hl.1 hP hK hN hS (c_row_init H.size 8 (by omega) (fun q h => hA q (Nat.le_trans hS.1 h)) hD) eX6_11 rfl rfl (Nat.le_of_ble_eq_true rfl) ⟨Nat.le_of_ble_eq_true rfl, Nat.le_of_ble_eq_true rfl⟩ ⟨rfl, rfl⟩ ⟨Nat.le_of_ble_eq_true rfl, Nat.le_of_ble_eq_true rfl⟩ dX6_init_24 (fun ws2 H locs hp hD hP hS => ?_)
  obtain ⟨a2, rfl⟩ := hp
  have hP := app_P hP
  have hD := app_D hD
  have hP : va_P (dC, dI) vwCl (w0 ++ [(o, .inr (5, [.null, .ref q1, .null, .null, .null, .null, .null, .null, .int 0, .int 0, .int 0, .int 0, .int 0])), (q1, .inr (2, [.ref a1])), (a1, .inl (cI, 16, .inl (fun _ => 0))), (q2, .inr (2, [.ref a2])), (a2, .inl (cI, 8, .inl (fun _ => 0)))]) H := hP
  have hD : va_D A (w0 ++ [(o, .inr (5, [.null, .ref q1, .null, .null, .null, .null, .null, .null, .int 0, .int 0, .int 0, .int 0, .int 0])), (q1, .inr (2, [.ref a1])), (a1, .inl (cI, 16, .inl (fun _ => 0))), (q2, .inr (2, [.ref a2])), (a2, .inl (cI, 8, .inl (fun _ => 0)))]) := hD
  refine W.widen (k := 4) (n := 26) (by omega) (by omega) ?_
  refine k_putF (q0 := w0.length) (ci := 5) (ty := .object "RoofsOfSnow$Row") hx hb hts inT_X6 tyX6 tyX6_ok nmX6 hown hin hK hP hD hS getAt rfl 2 (by decide) rfl rfl kX6_20 rfl (by decide +kernel) rfl rfl (Nat.le_of_ble_eq_true rfl) setAt dX6_init_27 (fun H locs hP hD hS => ?_)
  have hP : va_P (dC, dI) vwCl (w0 ++ [(o, .inr (5, [.null, .ref q1, .ref q2, .null, .null, .null, .null, .null, .int 0, .int 0, .int 0, .int 0, .int 0])), (q1, .inr (2, [.ref a1])), (a1, .inl (cI, 16, .inl (fun _ => 0))), (q2, .inr (2, [.ref a2])), (a2, .inl (cI, 8, .inl (fun _ => 0)))]) H := hP
  have hD : va_D A (w0 ++ [(o, .inr (5, [.null, .ref q1, .ref q2, .null, .null, .null, .null, .null, .int 0, .int 0, .int 0, .int 0, .int 0])), (q1, .inr (2, [.ref a1])), (a1, .inl (cI, 16, .inl (fun _ => 0))), (q2, .inr (2, [.ref a2])), (a2, .inl (cI, 8, .inl (fun _ => 0)))]) := hD
  refine lv_aload_n hx hb dX6_init_30 rfl (lv_at hl 0 rfl) ?_
  refine k_new (ci := 2) hx hb hts inT_X2 tyX2 tyX2_ok hown kX6_9 kin_X2 kini_X2 hK hP hD hS hA rfl dfX2 (Nat.le_of_ble_eq_true rfl) (Nat.le_of_ble_eq_true rfl) dX6_init_31 (fun q3 H hP hD hS => ?_)
  refine lv_dup hx hb dX6_init_34 rfl ?_
  refine lv_bipush (v := 8) hx hb dX6_init_35 (by decide) ?_
  refine kn_top (x' := nI 8) (by decide) ?_
  refine k_ini (mc := 1) (ms := 8) hx hb hml hown hts hl.1 hP hK hN hS (c_row_init H.size 8 (by omega) (fun q h => hA q (Nat.le_trans hS.1 h)) hD) eX6_11 rfl rfl (Nat.le_of_ble_eq_true rfl) ⟨Nat.le_of_ble_eq_true rfl, Nat.le_of_ble_eq_true rfl⟩ ⟨rfl, rfl⟩ ⟨Nat.le_of_ble_eq_true rfl, Nat.le_of_ble_eq_true rfl⟩ dX6_init_37 (fun ws3 H locs hp hD hP hS => ?_)
  obtain ⟨a3, rfl⟩ := hp
  have hP := app_P hP
  have hD := app_D hD
  have hP : va_P (dC, dI) vwCl (w0 ++ [(o, .inr (5, [.null, .ref q1, .ref q2, .null, .null, .null, .null, .null, .int 0, .int 0, .int 0, .int 0, .int 0])), (q1, .inr (2, [.ref a1])), (a1, .inl (cI, 16, .inl (fun _ => 0))), (q2, .inr (2, [.ref a2])), (a2, .inl (cI, 8, .inl (fun _ => 0))), (q3, .inr (2, [.ref a3])), (a3, .inl (cI, 8, .inl (fun _ => 0)))]) H := hP
  have hD : va_D A (w0 ++ [(o, .inr (5, [.null, .ref q1, .ref q2, .null, .null, .null, .null, .null, .int 0, .int 0, .int 0, .int 0, .int 0])), (q1, .inr (2, [.ref a1])), (a1, .inl (cI, 16, .inl (fun _ => 0))), (q2, .inr (2, [.ref a2])), (a2, .inl (cI, 8, .inl (fun _ => 0))), (q3, .inr (2, [.ref a3])), (a3, .inl (cI, 8, .inl (fun _ => 0)))]) := hD
  refine W.widen (k := 6) (n := 35) (by omega) (by omega) ?_
  refine k_putF (q0 := w0.length) (ci := 5) (ty := .object "RoofsOfSnow$Row") hx hb hts inT_X6 tyX6 tyX6_ok nmX6 hown hin hK hP hD hS getAt rfl 3 (by decide) rfl rfl kX6_23 rfl (by decide +kernel) rfl rfl (Nat.le_of_ble_eq_true rfl) setAt dX6_init_40 (fun H locs hP hD hS => ?_)
  have hP : va_P (dC, dI) vwCl (w0 ++ [(o, .inr (5, [.null, .ref q1, .ref q2, .ref q3, .null, .null, .null, .null, .int 0, .int 0, .int 0, .int 0, .int 0])), (q1, .inr (2, [.ref a1])), (a1, .inl (cI, 16, .inl (fun _ => 0))), (q2, .inr (2, [.ref a2])), (a2, .inl (cI, 8, .inl (fun _ => 0))), (q3, .inr (2, [.ref a3])), (a3, .inl (cI, 8, .inl (fun _ => 0)))]) H := hP
  have hD : va_D A (w0 ++ [(o, .inr (5, [.null, .ref q1, .ref q2, .ref q3, .null, .null, .null, .null, .int 0, .int 0, .int 0, .int 0, .int 0])), (q1, .inr (2, [.ref a1])), (a1, .inl (cI, 16, .inl (fun _ => 0))), (q2, .inr (2, [.ref a2])), (a2, .inl (cI, 8, .inl (fun _ => 0))), (q3, .inr (2, [.ref a3])), (a3, .inl (cI, 8, .inl (fun _ => 0)))]) := hD
  refine lv_aload_n hx hb dX6_init_43 rfl (lv_at hl 0 rfl) ?_
  refine k_new (ci := 2) hx hb hts inT_X2 tyX2 tyX2_ok hown kX6_9 kin_X2 kini_X2 hK hP hD hS hA rfl dfX2 (Nat.le_of_ble_eq_true rfl) (Nat.le_of_ble_eq_true rfl) dX6_init_44 (fun q4 H hP hD hS => ?_)
  refine lv_dup hx hb dX6_init_47 rfl ?_
  refine lv_bipush (v := 8) hx hb dX6_init_48 (by decide) ?_
  refine kn_top (x' := nI 8) (by decide) ?_
  refine k_ini (mc := 1) (ms := 8) hx hb hml hown hts hl.1 hP hK hN hS (c_row_init H.size 8 (by omega) (fun q h => hA q (Nat.le_trans hS.1 h)) hD) eX6_11 rfl rfl (Nat.le_of_ble_eq_true rfl) ⟨Nat.le_of_ble_eq_true rfl, Nat.le_of_ble_eq_true rfl⟩ ⟨rfl, rfl⟩ ⟨Nat.le_of_ble_eq_true rfl, Nat.le_of_ble_eq_true rfl⟩ dX6_init_50 (fun ws4 H locs hp hD hP hS => ?_)
  obtain ⟨a4, rfl⟩ := hp
  have hP := app_P hP
  have hD := app_D hD
  have hP : va_P (dC, dI) vwCl (w0 ++ [(o, .inr (5, [.null, .ref q1, .ref q2, .ref q3, .null, .null, .null, .null, .int 0, .int 0, .int 0, .int 0, .int 0])), (q1, .inr (2, [.ref a1])), (a1, .inl (cI, 16, .inl (fun _ => 0))), (q2, .inr (2, [.ref a2])), (a2, .inl (cI, 8, .inl (fun _ => 0))), (q3, .inr (2, [.ref a3])), (a3, .inl (cI, 8, .inl (fun _ => 0))), (q4, .inr (2, [.ref a4])), (a4, .inl (cI, 8, .inl (fun _ => 0)))]) H := hP
  have hD : va_D A (w0 ++ [(o, .inr (5, [.null, .ref q1, .ref q2, .ref q3, .null, .null, .null, .null, .int 0, .int 0, .int 0, .int 0, .int 0])), (q1, .inr (2, [.ref a1])), (a1, .inl (cI, 16, .inl (fun _ => 0))), (q2, .inr (2, [.ref a2])), (a2, .inl (cI, 8, .inl (fun _ => 0))), (q3, .inr (2, [.ref a3])), (a3, .inl (cI, 8, .inl (fun _ => 0))), (q4, .inr (2, [.ref a4])), (a4, .inl (cI, 8, .inl (fun _ => 0)))]) := hD
  refine W.widen (k := 8) (n := 44) (by omega) (by omega) ?_
  refine k_putF (q0 := w0.length) (ci := 5) (ty := .object "RoofsOfSnow$Row") hx hb hts inT_X6 tyX6 tyX6_ok nmX6 hown hin hK hP hD hS getAt rfl 4 (by decide) rfl rfl kX6_26 rfl (by decide +kernel) rfl rfl (Nat.le_of_ble_eq_true rfl) setAt dX6_init_53 (fun H locs hP hD hS => ?_)
  have hP : va_P (dC, dI) vwCl (w0 ++ [(o, .inr (5, [.null, .ref q1, .ref q2, .ref q3, .ref q4, .null, .null, .null, .int 0, .int 0, .int 0, .int 0, .int 0])), (q1, .inr (2, [.ref a1])), (a1, .inl (cI, 16, .inl (fun _ => 0))), (q2, .inr (2, [.ref a2])), (a2, .inl (cI, 8, .inl (fun _ => 0))), (q3, .inr (2, [.ref a3])), (a3, .inl (cI, 8, .inl (fun _ => 0))), (q4, .inr (2, [.ref a4])), (a4, .inl (cI, 8, .inl (fun _ => 0)))]) H := hP
  have hD : va_D A (w0 ++ [(o, .inr (5, [.null, .ref q1, .ref q2, .ref q3, .ref q4, .null, .null, .null, .int 0, .int 0, .int 0, .int 0, .int 0])), (q1, .inr (2, [.ref a1])), (a1, .inl (cI, 16, .inl (fun _ => 0))), (q2, .inr (2, [.ref a2])), (a2, .inl (cI, 8, .inl (fun _ => 0))), (q3, .inr (2, [.ref a3])), (a3, .inl (cI, 8, .inl (fun _ => 0))), (q4, .inr (2, [.ref a4])), (a4, .inl (cI, 8, .inl (fun _ => 0)))]) := hD
  refine lv_aload_n hx hb dX6_init_56 rfl (lv_at hl 0 rfl) ?_
  refine k_new (ci := 2) hx hb hts inT_X2 tyX2 tyX2_ok hown kX6_9 kin_X2 kini_X2 hK hP hD hS hA rfl dfX2 (Nat.le_of_ble_eq_true rfl) (Nat.le_of_ble_eq_true rfl) dX6_init_57 (fun q5 H hP hD hS => ?_)
  refine lv_dup hx hb dX6_init_60 rfl ?_
  refine lv_bipush (v := 24) hx hb dX6_init_61 (by decide) ?_
  refine kn_top (x' := nI 24) (by decide) ?_
  refine k_ini (mc := 1) (ms := 24) hx hb hml hown hts hl.1 hP hK hN hS (c_row_init H.size 24 (by omega) (fun q h => hA q (Nat.le_trans hS.1 h)) hD) eX6_11 rfl rfl (Nat.le_of_ble_eq_true rfl) ⟨Nat.le_of_ble_eq_true rfl, Nat.le_of_ble_eq_true rfl⟩ ⟨rfl, rfl⟩ ⟨Nat.le_of_ble_eq_true rfl, Nat.le_of_ble_eq_true rfl⟩ dX6_init_63 (fun ws5 H locs hp hD hP hS => ?_)
  obtain ⟨a5, rfl⟩ := hp
  have hP := app_P hP
  have hD := app_D hD
  have hP : va_P (dC, dI) vwCl (w0 ++ [(o, .inr (5, [.null, .ref q1, .ref q2, .ref q3, .ref q4, .null, .null, .null, .int 0, .int 0, .int 0, .int 0, .int 0])), (q1, .inr (2, [.ref a1])), (a1, .inl (cI, 16, .inl (fun _ => 0))), (q2, .inr (2, [.ref a2])), (a2, .inl (cI, 8, .inl (fun _ => 0))), (q3, .inr (2, [.ref a3])), (a3, .inl (cI, 8, .inl (fun _ => 0))), (q4, .inr (2, [.ref a4])), (a4, .inl (cI, 8, .inl (fun _ => 0))), (q5, .inr (2, [.ref a5])), (a5, .inl (cI, 24, .inl (fun _ => 0)))]) H := hP
  have hD : va_D A (w0 ++ [(o, .inr (5, [.null, .ref q1, .ref q2, .ref q3, .ref q4, .null, .null, .null, .int 0, .int 0, .int 0, .int 0, .int 0])), (q1, .inr (2, [.ref a1])), (a1, .inl (cI, 16, .inl (fun _ => 0))), (q2, .inr (2, [.ref a2])), (a2, .inl (cI, 8, .inl (fun _ => 0))), (q3, .inr (2, [.ref a3])), (a3, .inl (cI, 8, .inl (fun _ => 0))), (q4, .inr (2, [.ref a4])), (a4, .inl (cI, 8, .inl (fun _ => 0))), (q5, .inr (2, [.ref a5])), (a5, .inl (cI, 24, .inl (fun _ => 0)))]) := hD
  refine W.widen (k := 10) (n := 69) (by omega) (by omega) ?_
  refine k_putF (q0 := w0.length) (ci := 5) (ty := .object "RoofsOfSnow$Row") hx hb hts inT_X6 tyX6 tyX6_ok nmX6 hown hin hK hP hD hS getAt rfl 5 (by decide) rfl rfl kX6_29 rfl (by decide +kernel) rfl rfl (Nat.le_of_ble_eq_true rfl) setAt dX6_init_66 (fun H locs hP hD hS => ?_)
  have hP : va_P (dC, dI) vwCl (w0 ++ [(o, .inr (5, [.null, .ref q1, .ref q2, .ref q3, .ref q4, .ref q5, .null, .null, .int 0, .int 0, .int 0, .int 0, .int 0])), (q1, .inr (2, [.ref a1])), (a1, .inl (cI, 16, .inl (fun _ => 0))), (q2, .inr (2, [.ref a2])), (a2, .inl (cI, 8, .inl (fun _ => 0))), (q3, .inr (2, [.ref a3])), (a3, .inl (cI, 8, .inl (fun _ => 0))), (q4, .inr (2, [.ref a4])), (a4, .inl (cI, 8, .inl (fun _ => 0))), (q5, .inr (2, [.ref a5])), (a5, .inl (cI, 24, .inl (fun _ => 0)))]) H := hP
  have hD : va_D A (w0 ++ [(o, .inr (5, [.null, .ref q1, .ref q2, .ref q3, .ref q4, .ref q5, .null, .null, .int 0, .int 0, .int 0, .int 0, .int 0])), (q1, .inr (2, [.ref a1])), (a1, .inl (cI, 16, .inl (fun _ => 0))), (q2, .inr (2, [.ref a2])), (a2, .inl (cI, 8, .inl (fun _ => 0))), (q3, .inr (2, [.ref a3])), (a3, .inl (cI, 8, .inl (fun _ => 0))), (q4, .inr (2, [.ref a4])), (a4, .inl (cI, 8, .inl (fun _ => 0))), (q5, .inr (2, [.ref a5])), (a5, .inl (cI, 24, .inl (fun _ => 0)))]) := hD
  refine lv_aload_n hx hb dX6_init_69 rfl (lv_at hl 0 rfl) ?_
  refine k_new (ci := 2) hx hb hts inT_X2 tyX2 tyX2_ok hown kX6_9 kin_X2 kini_X2 hK hP hD hS hA rfl dfX2 (Nat.le_of_ble_eq_true rfl) (Nat.le_of_ble_eq_true rfl) dX6_init_70 (fun q6 H hP hD hS => ?_)
  refine lv_dup hx hb dX6_init_73 rfl ?_
  refine lv_bipush (v := 8) hx hb dX6_init_74 (by decide) ?_
  refine kn_top (x' := nI 8) (by decide) ?_
  refine k_ini (mc := 1) (ms := 8) hx hb hml hown hts hl.1 hP hK hN hS (c_row_init H.size 8 (by omega) (fun q h => hA q (Nat.le_trans hS.1 h)) hD) eX6_11 rfl rfl (Nat.le_of_ble_eq_true rfl) ⟨Nat.le_of_ble_eq_true rfl, Nat.le_of_ble_eq_true rfl⟩ ⟨rfl, rfl⟩ ⟨Nat.le_of_ble_eq_true rfl, Nat.le_of_ble_eq_true rfl⟩ dX6_init_76 (fun ws6 H locs hp hD hP hS => ?_)
  obtain ⟨a6, rfl⟩ := hp
  have hP := app_P hP
  have hD := app_D hD
  have hP : va_P (dC, dI) vwCl (w0 ++ [(o, .inr (5, [.null, .ref q1, .ref q2, .ref q3, .ref q4, .ref q5, .null, .null, .int 0, .int 0, .int 0, .int 0, .int 0])), (q1, .inr (2, [.ref a1])), (a1, .inl (cI, 16, .inl (fun _ => 0))), (q2, .inr (2, [.ref a2])), (a2, .inl (cI, 8, .inl (fun _ => 0))), (q3, .inr (2, [.ref a3])), (a3, .inl (cI, 8, .inl (fun _ => 0))), (q4, .inr (2, [.ref a4])), (a4, .inl (cI, 8, .inl (fun _ => 0))), (q5, .inr (2, [.ref a5])), (a5, .inl (cI, 24, .inl (fun _ => 0))), (q6, .inr (2, [.ref a6])), (a6, .inl (cI, 8, .inl (fun _ => 0)))]) H := hP
  have hD : va_D A (w0 ++ [(o, .inr (5, [.null, .ref q1, .ref q2, .ref q3, .ref q4, .ref q5, .null, .null, .int 0, .int 0, .int 0, .int 0, .int 0])), (q1, .inr (2, [.ref a1])), (a1, .inl (cI, 16, .inl (fun _ => 0))), (q2, .inr (2, [.ref a2])), (a2, .inl (cI, 8, .inl (fun _ => 0))), (q3, .inr (2, [.ref a3])), (a3, .inl (cI, 8, .inl (fun _ => 0))), (q4, .inr (2, [.ref a4])), (a4, .inl (cI, 8, .inl (fun _ => 0))), (q5, .inr (2, [.ref a5])), (a5, .inl (cI, 24, .inl (fun _ => 0))), (q6, .inr (2, [.ref a6])), (a6, .inl (cI, 8, .inl (fun _ => 0)))]) := hD
  refine W.widen (k := 12) (n := 78) (by omega) (by omega) ?_
  refine k_putF (q0 := w0.length) (ci := 5) (ty := .object "RoofsOfSnow$Row") hx hb hts inT_X6 tyX6 tyX6_ok nmX6 hown hin hK hP hD hS getAt rfl 6 (by decide) rfl rfl kX6_32 rfl (by decide +kernel) rfl rfl (Nat.le_of_ble_eq_true rfl) setAt dX6_init_79 (fun H locs hP hD hS => ?_)
  have hP : va_P (dC, dI) vwCl (w0 ++ [(o, .inr (5, [.null, .ref q1, .ref q2, .ref q3, .ref q4, .ref q5, .ref q6, .null, .int 0, .int 0, .int 0, .int 0, .int 0])), (q1, .inr (2, [.ref a1])), (a1, .inl (cI, 16, .inl (fun _ => 0))), (q2, .inr (2, [.ref a2])), (a2, .inl (cI, 8, .inl (fun _ => 0))), (q3, .inr (2, [.ref a3])), (a3, .inl (cI, 8, .inl (fun _ => 0))), (q4, .inr (2, [.ref a4])), (a4, .inl (cI, 8, .inl (fun _ => 0))), (q5, .inr (2, [.ref a5])), (a5, .inl (cI, 24, .inl (fun _ => 0))), (q6, .inr (2, [.ref a6])), (a6, .inl (cI, 8, .inl (fun _ => 0)))]) H := hP
  have hD : va_D A (w0 ++ [(o, .inr (5, [.null, .ref q1, .ref q2, .ref q3, .ref q4, .ref q5, .ref q6, .null, .int 0, .int 0, .int 0, .int 0, .int 0])), (q1, .inr (2, [.ref a1])), (a1, .inl (cI, 16, .inl (fun _ => 0))), (q2, .inr (2, [.ref a2])), (a2, .inl (cI, 8, .inl (fun _ => 0))), (q3, .inr (2, [.ref a3])), (a3, .inl (cI, 8, .inl (fun _ => 0))), (q4, .inr (2, [.ref a4])), (a4, .inl (cI, 8, .inl (fun _ => 0))), (q5, .inr (2, [.ref a5])), (a5, .inl (cI, 24, .inl (fun _ => 0))), (q6, .inr (2, [.ref a6])), (a6, .inl (cI, 8, .inl (fun _ => 0)))]) := hD
  refine lv_aload_n hx hb dX6_init_82 rfl (lv_at hl 0 rfl) ?_
  refine lv_iconst (v := 0) hx hb dX6_init_83 (by decide) ?_
  refine k_put (q0 := w0.length) (ci := 5) (ty := .int) hx hb hts inT_X6 tyX6 tyX6_ok nmX6 hown hK hP hD hS getAt rfl 8 (by decide) rfl kX6_35 rfl (by decide +kernel) rfl rfl (Nat.le_of_ble_eq_true rfl) setAt dX6_init_84 (fun H locs hP hS => ?_)
  have hD := setD hD (z := .inr (5, [.null, .ref q1, .ref q2, .ref q3, .ref q4, .ref q5, .ref q6, .null, .int 0, .int 0, .int 0, .int 0, .int 0]))
  have hP : va_P (dC, dI) vwCl (w0 ++ [(o, .inr (5, [.null, .ref q1, .ref q2, .ref q3, .ref q4, .ref q5, .ref q6, .null, .int 0, .int 0, .int 0, .int 0, .int 0])), (q1, .inr (2, [.ref a1])), (a1, .inl (cI, 16, .inl (fun _ => 0))), (q2, .inr (2, [.ref a2])), (a2, .inl (cI, 8, .inl (fun _ => 0))), (q3, .inr (2, [.ref a3])), (a3, .inl (cI, 8, .inl (fun _ => 0))), (q4, .inr (2, [.ref a4])), (a4, .inl (cI, 8, .inl (fun _ => 0))), (q5, .inr (2, [.ref a5])), (a5, .inl (cI, 24, .inl (fun _ => 0))), (q6, .inr (2, [.ref a6])), (a6, .inl (cI, 8, .inl (fun _ => 0)))]) H := hP
  have hD : va_D A (w0 ++ [(o, .inr (5, [.null, .ref q1, .ref q2, .ref q3, .ref q4, .ref q5, .ref q6, .null, .int 0, .int 0, .int 0, .int 0, .int 0])), (q1, .inr (2, [.ref a1])), (a1, .inl (cI, 16, .inl (fun _ => 0))), (q2, .inr (2, [.ref a2])), (a2, .inl (cI, 8, .inl (fun _ => 0))), (q3, .inr (2, [.ref a3])), (a3, .inl (cI, 8, .inl (fun _ => 0))), (q4, .inr (2, [.ref a4])), (a4, .inl (cI, 8, .inl (fun _ => 0))), (q5, .inr (2, [.ref a5])), (a5, .inl (cI, 24, .inl (fun _ => 0))), (q6, .inr (2, [.ref a6])), (a6, .inl (cI, 8, .inl (fun _ => 0)))]) := hD
  refine lv_aload_n hx hb dX6_init_87 rfl (lv_at hl 0 rfl) ?_
  refine lv_iconst (v := 0) hx hb dX6_init_88 (by decide) ?_
  refine k_put (q0 := w0.length) (ci := 5) (ty := .int) hx hb hts inT_X6 tyX6 tyX6_ok nmX6 hown hK hP hD hS getAt rfl 9 (by decide) rfl kX6_39 rfl (by decide +kernel) rfl rfl (Nat.le_of_ble_eq_true rfl) setAt dX6_init_89 (fun H locs hP hS => ?_)
  have hD := setD hD (z := .inr (5, [.null, .ref q1, .ref q2, .ref q3, .ref q4, .ref q5, .ref q6, .null, .int 0, .int 0, .int 0, .int 0, .int 0]))
  have hP : va_P (dC, dI) vwCl (w0 ++ [(o, .inr (5, [.null, .ref q1, .ref q2, .ref q3, .ref q4, .ref q5, .ref q6, .null, .int 0, .int 0, .int 0, .int 0, .int 0])), (q1, .inr (2, [.ref a1])), (a1, .inl (cI, 16, .inl (fun _ => 0))), (q2, .inr (2, [.ref a2])), (a2, .inl (cI, 8, .inl (fun _ => 0))), (q3, .inr (2, [.ref a3])), (a3, .inl (cI, 8, .inl (fun _ => 0))), (q4, .inr (2, [.ref a4])), (a4, .inl (cI, 8, .inl (fun _ => 0))), (q5, .inr (2, [.ref a5])), (a5, .inl (cI, 24, .inl (fun _ => 0))), (q6, .inr (2, [.ref a6])), (a6, .inl (cI, 8, .inl (fun _ => 0)))]) H := hP
  have hD : va_D A (w0 ++ [(o, .inr (5, [.null, .ref q1, .ref q2, .ref q3, .ref q4, .ref q5, .ref q6, .null, .int 0, .int 0, .int 0, .int 0, .int 0])), (q1, .inr (2, [.ref a1])), (a1, .inl (cI, 16, .inl (fun _ => 0))), (q2, .inr (2, [.ref a2])), (a2, .inl (cI, 8, .inl (fun _ => 0))), (q3, .inr (2, [.ref a3])), (a3, .inl (cI, 8, .inl (fun _ => 0))), (q4, .inr (2, [.ref a4])), (a4, .inl (cI, 8, .inl (fun _ => 0))), (q5, .inr (2, [.ref a5])), (a5, .inl (cI, 24, .inl (fun _ => 0))), (q6, .inr (2, [.ref a6])), (a6, .inl (cI, 8, .inl (fun _ => 0)))]) := hD
  refine lv_aload_n hx hb dX6_init_92 rfl (lv_at hl 0 rfl) ?_
  refine lv_iconst (v := 0) hx hb dX6_init_93 (by decide) ?_
  refine k_put (q0 := w0.length) (ci := 5) (ty := .int) hx hb hts inT_X6 tyX6 tyX6_ok nmX6 hown hK hP hD hS getAt rfl 10 (by decide) rfl kX6_42 rfl (by decide +kernel) rfl rfl (Nat.le_of_ble_eq_true rfl) setAt dX6_init_94 (fun H locs hP hS => ?_)
  have hD := setD hD (z := .inr (5, [.null, .ref q1, .ref q2, .ref q3, .ref q4, .ref q5, .ref q6, .null, .int 0, .int 0, .int 0, .int 0, .int 0]))
  have hP : va_P (dC, dI) vwCl (w0 ++ [(o, .inr (5, [.null, .ref q1, .ref q2, .ref q3, .ref q4, .ref q5, .ref q6, .null, .int 0, .int 0, .int 0, .int 0, .int 0])), (q1, .inr (2, [.ref a1])), (a1, .inl (cI, 16, .inl (fun _ => 0))), (q2, .inr (2, [.ref a2])), (a2, .inl (cI, 8, .inl (fun _ => 0))), (q3, .inr (2, [.ref a3])), (a3, .inl (cI, 8, .inl (fun _ => 0))), (q4, .inr (2, [.ref a4])), (a4, .inl (cI, 8, .inl (fun _ => 0))), (q5, .inr (2, [.ref a5])), (a5, .inl (cI, 24, .inl (fun _ => 0))), (q6, .inr (2, [.ref a6])), (a6, .inl (cI, 8, .inl (fun _ => 0)))]) H := hP
  have hD : va_D A (w0 ++ [(o, .inr (5, [.null, .ref q1, .ref q2, .ref q3, .ref q4, .ref q5, .ref q6, .null, .int 0, .int 0, .int 0, .int 0, .int 0])), (q1, .inr (2, [.ref a1])), (a1, .inl (cI, 16, .inl (fun _ => 0))), (q2, .inr (2, [.ref a2])), (a2, .inl (cI, 8, .inl (fun _ => 0))), (q3, .inr (2, [.ref a3])), (a3, .inl (cI, 8, .inl (fun _ => 0))), (q4, .inr (2, [.ref a4])), (a4, .inl (cI, 8, .inl (fun _ => 0))), (q5, .inr (2, [.ref a5])), (a5, .inl (cI, 24, .inl (fun _ => 0))), (q6, .inr (2, [.ref a6])), (a6, .inl (cI, 8, .inl (fun _ => 0)))]) := hD
  refine lv_aload_n hx hb dX6_init_97 rfl (lv_at hl 0 rfl) ?_
  refine lv_iconst (v := 0) hx hb dX6_init_98 (by decide) ?_
  refine k_put (q0 := w0.length) (ci := 5) (ty := .int) hx hb hts inT_X6 tyX6 tyX6_ok nmX6 hown hK hP hD hS getAt rfl 11 (by decide) rfl kX6_45 rfl (by decide +kernel) rfl rfl (Nat.le_of_ble_eq_true rfl) setAt dX6_init_99 (fun H locs hP hS => ?_)
  have hD := setD hD (z := .inr (5, [.null, .ref q1, .ref q2, .ref q3, .ref q4, .ref q5, .ref q6, .null, .int 0, .int 0, .int 0, .int 0, .int 0]))
  have hP : va_P (dC, dI) vwCl (w0 ++ [(o, .inr (5, [.null, .ref q1, .ref q2, .ref q3, .ref q4, .ref q5, .ref q6, .null, .int 0, .int 0, .int 0, .int 0, .int 0])), (q1, .inr (2, [.ref a1])), (a1, .inl (cI, 16, .inl (fun _ => 0))), (q2, .inr (2, [.ref a2])), (a2, .inl (cI, 8, .inl (fun _ => 0))), (q3, .inr (2, [.ref a3])), (a3, .inl (cI, 8, .inl (fun _ => 0))), (q4, .inr (2, [.ref a4])), (a4, .inl (cI, 8, .inl (fun _ => 0))), (q5, .inr (2, [.ref a5])), (a5, .inl (cI, 24, .inl (fun _ => 0))), (q6, .inr (2, [.ref a6])), (a6, .inl (cI, 8, .inl (fun _ => 0)))]) H := hP
  have hD : va_D A (w0 ++ [(o, .inr (5, [.null, .ref q1, .ref q2, .ref q3, .ref q4, .ref q5, .ref q6, .null, .int 0, .int 0, .int 0, .int 0, .int 0])), (q1, .inr (2, [.ref a1])), (a1, .inl (cI, 16, .inl (fun _ => 0))), (q2, .inr (2, [.ref a2])), (a2, .inl (cI, 8, .inl (fun _ => 0))), (q3, .inr (2, [.ref a3])), (a3, .inl (cI, 8, .inl (fun _ => 0))), (q4, .inr (2, [.ref a4])), (a4, .inl (cI, 8, .inl (fun _ => 0))), (q5, .inr (2, [.ref a5])), (a5, .inl (cI, 24, .inl (fun _ => 0))), (q6, .inr (2, [.ref a6])), (a6, .inl (cI, 8, .inl (fun _ => 0)))]) := hD
  refine lv_aload_n hx hb dX6_init_102 rfl (lv_at hl 0 rfl) ?_
  refine lv_iconst (v := 0) hx hb dX6_init_103 (by decide) ?_
  refine k_put (q0 := w0.length) (ci := 5) (ty := .int) hx hb hts inT_X6 tyX6 tyX6_ok nmX6 hown hK hP hD hS getAt rfl 12 (by decide) rfl kX6_48 rfl (by decide +kernel) rfl rfl (Nat.le_of_ble_eq_true rfl) setAt dX6_init_104 (fun H locs hP hS => ?_)
  have hD := setD hD (z := .inr (5, [.null, .ref q1, .ref q2, .ref q3, .ref q4, .ref q5, .ref q6, .null, .int 0, .int 0, .int 0, .int 0, .int 0]))
  have hP : va_P (dC, dI) vwCl (w0 ++ [(o, .inr (5, [.null, .ref q1, .ref q2, .ref q3, .ref q4, .ref q5, .ref q6, .null, .int 0, .int 0, .int 0, .int 0, .int 0])), (q1, .inr (2, [.ref a1])), (a1, .inl (cI, 16, .inl (fun _ => 0))), (q2, .inr (2, [.ref a2])), (a2, .inl (cI, 8, .inl (fun _ => 0))), (q3, .inr (2, [.ref a3])), (a3, .inl (cI, 8, .inl (fun _ => 0))), (q4, .inr (2, [.ref a4])), (a4, .inl (cI, 8, .inl (fun _ => 0))), (q5, .inr (2, [.ref a5])), (a5, .inl (cI, 24, .inl (fun _ => 0))), (q6, .inr (2, [.ref a6])), (a6, .inl (cI, 8, .inl (fun _ => 0)))]) H := hP
  have hD : va_D A (w0 ++ [(o, .inr (5, [.null, .ref q1, .ref q2, .ref q3, .ref q4, .ref q5, .ref q6, .null, .int 0, .int 0, .int 0, .int 0, .int 0])), (q1, .inr (2, [.ref a1])), (a1, .inl (cI, 16, .inl (fun _ => 0))), (q2, .inr (2, [.ref a2])), (a2, .inl (cI, 8, .inl (fun _ => 0))), (q3, .inr (2, [.ref a3])), (a3, .inl (cI, 8, .inl (fun _ => 0))), (q4, .inr (2, [.ref a4])), (a4, .inl (cI, 8, .inl (fun _ => 0))), (q5, .inr (2, [.ref a5])), (a5, .inl (cI, 24, .inl (fun _ => 0))), (q6, .inr (2, [.ref a6])), (a6, .inl (cI, 8, .inl (fun _ => 0)))]) := hD
  refine lv_aload_n hx hb dX6_init_107 rfl (lv_at hl 0 rfl) ?_
  refine lv_aload_n hx hb dX6_init_108 rfl (lv_at hl 1 rfl) ?_
  refine k_putF (q0 := w0.length) (ci := 5) (ty := .object "RoofsOfSnow$Plan") hx hb hts inT_X6 tyX6 tyX6_ok nmX6 hown hin hK hP hD hS getAt rfl 0 (by decide) rfl rfl kX6_51 rfl (by decide +kernel) rfl rfl (Nat.le_of_ble_eq_true rfl) setAt dX6_init_109 (fun H locs hP hD hS => ?_)
  have hP : va_P (dC, dI) vwCl (w0 ++ [(o, .inr (5, [.ref pa, .ref q1, .ref q2, .ref q3, .ref q4, .ref q5, .ref q6, .null, .int 0, .int 0, .int 0, .int 0, .int 0])), (q1, .inr (2, [.ref a1])), (a1, .inl (cI, 16, .inl (fun _ => 0))), (q2, .inr (2, [.ref a2])), (a2, .inl (cI, 8, .inl (fun _ => 0))), (q3, .inr (2, [.ref a3])), (a3, .inl (cI, 8, .inl (fun _ => 0))), (q4, .inr (2, [.ref a4])), (a4, .inl (cI, 8, .inl (fun _ => 0))), (q5, .inr (2, [.ref a5])), (a5, .inl (cI, 24, .inl (fun _ => 0))), (q6, .inr (2, [.ref a6])), (a6, .inl (cI, 8, .inl (fun _ => 0)))]) H := hP
  have hD : va_D A (w0 ++ [(o, .inr (5, [.ref pa, .ref q1, .ref q2, .ref q3, .ref q4, .ref q5, .ref q6, .null, .int 0, .int 0, .int 0, .int 0, .int 0])), (q1, .inr (2, [.ref a1])), (a1, .inl (cI, 16, .inl (fun _ => 0))), (q2, .inr (2, [.ref a2])), (a2, .inl (cI, 8, .inl (fun _ => 0))), (q3, .inr (2, [.ref a3])), (a3, .inl (cI, 8, .inl (fun _ => 0))), (q4, .inr (2, [.ref a4])), (a4, .inl (cI, 8, .inl (fun _ => 0))), (q5, .inr (2, [.ref a5])), (a5, .inl (cI, 24, .inl (fun _ => 0))), (q6, .inr (2, [.ref a6])), (a6, .inl (cI, 8, .inl (fun _ => 0)))]) := hD
  refine lv_aload_n hx hb dX6_init_112 rfl (lv_at hl 0 rfl) ?_
  refine lv_aload_nN hx hb dX6_init_113 rfl (lv_at hl 2 rfl) ?_
  refine k_putF (q0 := w0.length) (ci := 5) (ty := .object "RoofsOfSnow$Village") hx hb hts inT_X6 tyX6 tyX6_ok nmX6 hown hin hK hP hD hS getAt rfl 7 (by decide) rfl rfl kX6_55 rfl (by decide +kernel) rfl rfl (Nat.le_of_ble_eq_true rfl) setAt dX6_init_114 (fun H locs hP hD hS => ?_)
  have hP : va_P (dC, dI) vwCl (w0 ++ [(o, .inr (5, [.ref pa, .ref q1, .ref q2, .ref q3, .ref q4, .ref q5, .ref q6, .null, .int 0, .int 0, .int 0, .int 0, .int 0])), (q1, .inr (2, [.ref a1])), (a1, .inl (cI, 16, .inl (fun _ => 0))), (q2, .inr (2, [.ref a2])), (a2, .inl (cI, 8, .inl (fun _ => 0))), (q3, .inr (2, [.ref a3])), (a3, .inl (cI, 8, .inl (fun _ => 0))), (q4, .inr (2, [.ref a4])), (a4, .inl (cI, 8, .inl (fun _ => 0))), (q5, .inr (2, [.ref a5])), (a5, .inl (cI, 24, .inl (fun _ => 0))), (q6, .inr (2, [.ref a6])), (a6, .inl (cI, 8, .inl (fun _ => 0)))]) H := hP
  have hD : va_D A (w0 ++ [(o, .inr (5, [.ref pa, .ref q1, .ref q2, .ref q3, .ref q4, .ref q5, .ref q6, .null, .int 0, .int 0, .int 0, .int 0, .int 0])), (q1, .inr (2, [.ref a1])), (a1, .inl (cI, 16, .inl (fun _ => 0))), (q2, .inr (2, [.ref a2])), (a2, .inl (cI, 8, .inl (fun _ => 0))), (q3, .inr (2, [.ref a3])), (a3, .inl (cI, 8, .inl (fun _ => 0))), (q4, .inr (2, [.ref a4])), (a4, .inl (cI, 8, .inl (fun _ => 0))), (q5, .inr (2, [.ref a5])), (a5, .inl (cI, 24, .inl (fun _ => 0))), (q6, .inr (2, [.ref a6])), (a6, .inl (cI, 8, .inl (fun _ => 0)))]) := hD
  exact W.vret hx hb hr (fun t ht hW => ⟨rfl, ⟨_, ⟨kAt [o, q1, a1, q2, a2, q3, a3, q4, a4, q5, a5, q6, a6], rfl, rfl⟩, hD, kB.of hP hK hN ht hW⟩, hS.F ht⟩) hS.2.2 dX6_init_117 hlocks
set_option maxHeartbeats 4000000 in
set_option maxRecDepth 100000 in
theorem c_village_init (sz : Nat) (pa nx : Nat) (hA : ∀ q, sz ≤ q → A q) (hD : va_D A (w0 ++ [(o, .inr (5, [.null, .null, .null, .null, .null, .null, .null, .null, .int 0, .int 0, .int 0, .int 0, .int 0]))])) : Met l yX6_init (.code yX6_init cX6_init 3 none :: kT) ({ frames := 2, cells := 12, slots := 78, locals := 45 } : Room) (va_Pc [.ref o, .ref pa, .ref nx] (kBz sz (dC, dI) [(cI, .int)] (w0 ++ [(o, .inr (5, [.null, .null, .null, .null, .null, .null, .null, .null, .int 0, .int 0, .int 0, .int 0, .int 0]))]))) (kM (fun ws' => ∃ a : Nat → Nat, a 0 = o ∧ ws' = w0 ++ kTab a 13 (vE cI a zA zS pa (.ref nx))) A (dC, dI) [(cI, .int)]) 12 78 A := by
  refine kMet (by decide) (fun p e s m args below meth c ls hx hb hr hml hts hown hlocks hname hargs hB hl => ?_) (Nat.le_of_ble_eq_true rfl)
  obtain ⟨hsz, hP, hK, hN⟩ := hB
  have hA : ∀ q, s.heap.size ≤ q → A q := fun q h => hA q (hsz ▸ h)
  have hl : lv_has ls 3 [(0, .ref o), (1, .ref pa), (2, .ref nx)] := hl
  have hS : va_S A s.heap s.heap [] := va_S.rf
  have hin : meth.name = "<init>" := hname
  refine lv_aload_n hx hb dX6_init_0 rfl (lv_at hl 0 rfl) ?_
  refine W.objInit hx hb hown (hts _ kobj_X6) (hts _ k_objI) (hts _ k_objC) rfl (by rw [hml]; exact hl.1) rfl dX6_init_1 (Nat.le_of_ble_eq_true rfl) (Nat.le_of_ble_eq_true rfl) ?_
  refine W.eq (g2 := F0 m 4 ls []) rfl ?_
  refine lv_aload_n hx hb dX6_init_4 rfl (lv_at hl 0 rfl) ?_
  refine k_new (ci := 2) hx hb hts inT_X2 tyX2 tyX2_ok hown kX6_9 kin_X2 kini_X2 hK hP hD hS hA rfl dfX2 (Nat.le_of_ble_eq_true rfl) (Nat.le_of_ble_eq_true rfl) dX6_init_5 (fun q1 H hP hD hS => ?_)
  refine lv_dup hx hb dX6_init_8 rfl ?_
  refine lv_bipush (v := 16) hx hb dX6_init_9 (by decide) ?_
  refine kn_top (x' := nI 16) (by decide) ?_
  refine k_ini (mc := 1) (ms := 16) hx hb hml hown hts hl.1 hP hK hN hS (c_row_init H.size 16 (by omega) (fun q h => hA q (Nat.le_trans hS.1 h)) hD) eX6_11 rfl rfl (Nat.le_of_ble_eq_true rfl) ⟨Nat.le_of_ble_eq_true rfl, Nat.le_of_ble_eq_true rfl⟩ ⟨rfl, rfl⟩ ⟨Nat.le_of_ble_eq_true rfl, Nat.le_of_ble_eq_true rfl⟩ dX6_init_11 (fun ws1 H locs hp hD hP hS => ?_)
  obtain ⟨a1, rfl⟩ := hp
  have hP := app_P hP
  have hD := app_D hD
  have hP : va_P (dC, dI) vwCl (w0 ++ [(o, .inr (5, [.null, .null, .null, .null, .null, .null, .null, .null, .int 0, .int 0, .int 0, .int 0, .int 0])), (q1, .inr (2, [.ref a1])), (a1, .inl (cI, 16, .inl (fun _ => 0)))]) H := hP
  have hD : va_D A (w0 ++ [(o, .inr (5, [.null, .null, .null, .null, .null, .null, .null, .null, .int 0, .int 0, .int 0, .int 0, .int 0])), (q1, .inr (2, [.ref a1])), (a1, .inl (cI, 16, .inl (fun _ => 0)))]) := hD
  refine W.widen (k := 2) (n := 17) (by omega) (by omega) ?_
  refine k_putF (q0 := w0.length) (ci := 5) (ty := .object "RoofsOfSnow$Row") hx hb hts inT_X6 tyX6 tyX6_ok nmX6 hown hin hK hP hD hS getAt rfl 1 (by decide) rfl rfl kX6_14 rfl (by decide +kernel) rfl rfl (Nat.le_of_ble_eq_true rfl) setAt dX6_init_14 (fun H locs hP hD hS => ?_)
  have hP : va_P (dC, dI) vwCl (w0 ++ [(o, .inr (5, [.null, .ref q1, .null, .null, .null, .null, .null, .null, .int 0, .int 0, .int 0, .int 0, .int 0])), (q1, .inr (2, [.ref a1])), (a1, .inl (cI, 16, .inl (fun _ => 0)))]) H := hP
  have hD : va_D A (w0 ++ [(o, .inr (5, [.null, .ref q1, .null, .null, .null, .null, .null, .null, .int 0, .int 0, .int 0, .int 0, .int 0])), (q1, .inr (2, [.ref a1])), (a1, .inl (cI, 16, .inl (fun _ => 0)))]) := hD
  refine lv_aload_n hx hb dX6_init_17 rfl (lv_at hl 0 rfl) ?_
  refine k_new (ci := 2) hx hb hts inT_X2 tyX2 tyX2_ok hown kX6_9 kin_X2 kini_X2 hK hP hD hS hA rfl dfX2 (Nat.le_of_ble_eq_true rfl) (Nat.le_of_ble_eq_true rfl) dX6_init_18 (fun q2 H hP hD hS => ?_)
  refine lv_dup hx hb dX6_init_21 rfl ?_
  refine lv_bipush (v := 8) hx hb dX6_init_22 (by decide) ?_
  refine kn_top (x' := nI 8) (by decide) ?_
  refine k_ini (mc := 1) (ms := 8) hx hb hml hown hts hl.1 hP hK hN hS (c_row_init H.size 8 (by omega) (fun q h => hA q (Nat.le_trans hS.1 h)) hD) eX6_11 rfl rfl (Nat.le_of_ble_eq_true rfl) ⟨Nat.le_of_ble_eq_true rfl, Nat.le_of_ble_eq_true rfl⟩ ⟨rfl, rfl⟩ ⟨Nat.le_of_ble_eq_true rfl, Nat.le_of_ble_eq_true rfl⟩ dX6_init_24 (fun ws2 H locs hp hD hP hS => ?_)
  obtain ⟨a2, rfl⟩ := hp
  have hP := app_P hP
  have hD := app_D hD
  have hP : va_P (dC, dI) vwCl (w0 ++ [(o, .inr (5, [.null, .ref q1, .null, .null, .null, .null, .null, .null, .int 0, .int 0, .int 0, .int 0, .int 0])), (q1, .inr (2, [.ref a1])), (a1, .inl (cI, 16, .inl (fun _ => 0))), (q2, .inr (2, [.ref a2])), (a2, .inl (cI, 8, .inl (fun _ => 0)))]) H := hP
  have hD : va_D A (w0 ++ [(o, .inr (5, [.null, .ref q1, .null, .null, .null, .null, .null, .null, .int 0, .int 0, .int 0, .int 0, .int 0])), (q1, .inr (2, [.ref a1])), (a1, .inl (cI, 16, .inl (fun _ => 0))), (q2, .inr (2, [.ref a2])), (a2, .inl (cI, 8, .inl (fun _ => 0)))]) := hD
  refine W.widen (k := 4) (n := 26) (by omega) (by omega) ?_
  refine k_putF (q0 := w0.length) (ci := 5) (ty := .object "RoofsOfSnow$Row") hx hb hts inT_X6 tyX6 tyX6_ok nmX6 hown hin hK hP hD hS getAt rfl 2 (by decide) rfl rfl kX6_20 rfl (by decide +kernel) rfl rfl (Nat.le_of_ble_eq_true rfl) setAt dX6_init_27 (fun H locs hP hD hS => ?_)
  have hP : va_P (dC, dI) vwCl (w0 ++ [(o, .inr (5, [.null, .ref q1, .ref q2, .null, .null, .null, .null, .null, .int 0, .int 0, .int 0, .int 0, .int 0])), (q1, .inr (2, [.ref a1])), (a1, .inl (cI, 16, .inl (fun _ => 0))), (q2, .inr (2, [.ref a2])), (a2, .inl (cI, 8, .inl (fun _ => 0)))]) H := hP
  have hD : va_D A (w0 ++ [(o, .inr (5, [.null, .ref q1, .ref q2, .null, .null, .null, .null, .null, .int 0, .int 0, .int 0, .int 0, .int 0])), (q1, .inr (2, [.ref a1])), (a1, .inl (cI, 16, .inl (fun _ => 0))), (q2, .inr (2, [.ref a2])), (a2, .inl (cI, 8, .inl (fun _ => 0)))]) := hD
  refine lv_aload_n hx hb dX6_init_30 rfl (lv_at hl 0 rfl) ?_
  refine k_new (ci := 2) hx hb hts inT_X2 tyX2 tyX2_ok hown kX6_9 kin_X2 kini_X2 hK hP hD hS hA rfl dfX2 (Nat.le_of_ble_eq_true rfl) (Nat.le_of_ble_eq_true rfl) dX6_init_31 (fun q3 H hP hD hS => ?_)
  refine lv_dup hx hb dX6_init_34 rfl ?_
  refine lv_bipush (v := 8) hx hb dX6_init_35 (by decide) ?_
  refine kn_top (x' := nI 8) (by decide) ?_
  refine k_ini (mc := 1) (ms := 8) hx hb hml hown hts hl.1 hP hK hN hS (c_row_init H.size 8 (by omega) (fun q h => hA q (Nat.le_trans hS.1 h)) hD) eX6_11 rfl rfl (Nat.le_of_ble_eq_true rfl) ⟨Nat.le_of_ble_eq_true rfl, Nat.le_of_ble_eq_true rfl⟩ ⟨rfl, rfl⟩ ⟨Nat.le_of_ble_eq_true rfl, Nat.le_of_ble_eq_true rfl⟩ dX6_init_37 (fun ws3 H locs hp hD hP hS => ?_)
  obtain ⟨a3, rfl⟩ := hp
  have hP := app_P hP
  have hD := app_D hD
  have hP : va_P (dC, dI) vwCl (w0 ++ [(o, .inr (5, [.null, .ref q1, .ref q2, .null, .null, .null, .null, .null, .int 0, .int 0, .int 0, .int 0, .int 0])), (q1, .inr (2, [.ref a1])), (a1, .inl (cI, 16, .inl (fun _ => 0))), (q2, .inr (2, [.ref a2])), (a2, .inl (cI, 8, .inl (fun _ => 0))), (q3, .inr (2, [.ref a3])), (a3, .inl (cI, 8, .inl (fun _ => 0)))]) H := hP
  have hD : va_D A (w0 ++ [(o, .inr (5, [.null, .ref q1, .ref q2, .null, .null, .null, .null, .null, .int 0, .int 0, .int 0, .int 0, .int 0])), (q1, .inr (2, [.ref a1])), (a1, .inl (cI, 16, .inl (fun _ => 0))), (q2, .inr (2, [.ref a2])), (a2, .inl (cI, 8, .inl (fun _ => 0))), (q3, .inr (2, [.ref a3])), (a3, .inl (cI, 8, .inl (fun _ => 0)))]) := hD
  refine W.widen (k := 6) (n := 35) (by omega) (by omega) ?_
  refine k_putF (q0 := w0.length) (ci := 5) (ty := .object "RoofsOfSnow$Row") hx hb hts inT_X6 tyX6 tyX6_ok nmX6 hown hin hK hP hD hS getAt rfl 3 (by decide) rfl rfl kX6_23 rfl (by decide +kernel) rfl rfl (Nat.le_of_ble_eq_true rfl) setAt dX6_init_40 (fun H locs hP hD hS => ?_)
  have hP : va_P (dC, dI) vwCl (w0 ++ [(o, .inr (5, [.null, .ref q1, .ref q2, .ref q3, .null, .null, .null, .null, .int 0, .int 0, .int 0, .int 0, .int 0])), (q1, .inr (2, [.ref a1])), (a1, .inl (cI, 16, .inl (fun _ => 0))), (q2, .inr (2, [.ref a2])), (a2, .inl (cI, 8, .inl (fun _ => 0))), (q3, .inr (2, [.ref a3])), (a3, .inl (cI, 8, .inl (fun _ => 0)))]) H := hP
  have hD : va_D A (w0 ++ [(o, .inr (5, [.null, .ref q1, .ref q2, .ref q3, .null, .null, .null, .null, .int 0, .int 0, .int 0, .int 0, .int 0])), (q1, .inr (2, [.ref a1])), (a1, .inl (cI, 16, .inl (fun _ => 0))), (q2, .inr (2, [.ref a2])), (a2, .inl (cI, 8, .inl (fun _ => 0))), (q3, .inr (2, [.ref a3])), (a3, .inl (cI, 8, .inl (fun _ => 0)))]) := hD
  refine lv_aload_n hx hb dX6_init_43 rfl (lv_at hl 0 rfl) ?_
  refine k_new (ci := 2) hx hb hts inT_X2 tyX2 tyX2_ok hown kX6_9 kin_X2 kini_X2 hK hP hD hS hA rfl dfX2 (Nat.le_of_ble_eq_true rfl) (Nat.le_of_ble_eq_true rfl) dX6_init_44 (fun q4 H hP hD hS => ?_)
  refine lv_dup hx hb dX6_init_47 rfl ?_
  refine lv_bipush (v := 8) hx hb dX6_init_48 (by decide) ?_
  refine kn_top (x' := nI 8) (by decide) ?_
  refine k_ini (mc := 1) (ms := 8) hx hb hml hown hts hl.1 hP hK hN hS (c_row_init H.size 8 (by omega) (fun q h => hA q (Nat.le_trans hS.1 h)) hD) eX6_11 rfl rfl (Nat.le_of_ble_eq_true rfl) ⟨Nat.le_of_ble_eq_true rfl, Nat.le_of_ble_eq_true rfl⟩ ⟨rfl, rfl⟩ ⟨Nat.le_of_ble_eq_true rfl, Nat.le_of_ble_eq_true rfl⟩ dX6_init_50 (fun ws4 H locs hp hD hP hS => ?_)
  obtain ⟨a4, rfl⟩ := hp
  have hP := app_P hP
  have hD := app_D hD
  have hP : va_P (dC, dI) vwCl (w0 ++ [(o, .inr (5, [.null, .ref q1, .ref q2, .ref q3, .null, .null, .null, .null, .int 0, .int 0, .int 0, .int 0, .int 0])), (q1, .inr (2, [.ref a1])), (a1, .inl (cI, 16, .inl (fun _ => 0))), (q2, .inr (2, [.ref a2])), (a2, .inl (cI, 8, .inl (fun _ => 0))), (q3, .inr (2, [.ref a3])), (a3, .inl (cI, 8, .inl (fun _ => 0))), (q4, .inr (2, [.ref a4])), (a4, .inl (cI, 8, .inl (fun _ => 0)))]) H := hP
  have hD : va_D A (w0 ++ [(o, .inr (5, [.null, .ref q1, .ref q2, .ref q3, .null, .null, .null, .null, .int 0, .int 0, .int 0, .int 0, .int 0])), (q1, .inr (2, [.ref a1])), (a1, .inl (cI, 16, .inl (fun _ => 0))), (q2, .inr (2, [.ref a2])), (a2, .inl (cI, 8, .inl (fun _ => 0))), (q3, .inr (2, [.ref a3])), (a3, .inl (cI, 8, .inl (fun _ => 0))), (q4, .inr (2, [.ref a4])), (a4, .inl (cI, 8, .inl (fun _ => 0)))]) := hD
  refine W.widen (k := 8) (n := 44) (by omega) (by omega) ?_
  refine k_putF (q0 := w0.length) (ci := 5) (ty := .object "RoofsOfSnow$Row") hx hb hts inT_X6 tyX6 tyX6_ok nmX6 hown hin hK hP hD hS getAt rfl 4 (by decide) rfl rfl kX6_26 rfl (by decide +kernel) rfl rfl (Nat.le_of_ble_eq_true rfl) setAt dX6_init_53 (fun H locs hP hD hS => ?_)
  have hP : va_P (dC, dI) vwCl (w0 ++ [(o, .inr (5, [.null, .ref q1, .ref q2, .ref q3, .ref q4, .null, .null, .null, .int 0, .int 0, .int 0, .int 0, .int 0])), (q1, .inr (2, [.ref a1])), (a1, .inl (cI, 16, .inl (fun _ => 0))), (q2, .inr (2, [.ref a2])), (a2, .inl (cI, 8, .inl (fun _ => 0))), (q3, .inr (2, [.ref a3])), (a3, .inl (cI, 8, .inl (fun _ => 0))), (q4, .inr (2, [.ref a4])), (a4, .inl (cI, 8, .inl (fun _ => 0)))]) H := hP
  have hD : va_D A (w0 ++ [(o, .inr (5, [.null, .ref q1, .ref q2, .ref q3, .ref q4, .null, .null, .null, .int 0, .int 0, .int 0, .int 0, .int 0])), (q1, .inr (2, [.ref a1])), (a1, .inl (cI, 16, .inl (fun _ => 0))), (q2, .inr (2, [.ref a2])), (a2, .inl (cI, 8, .inl (fun _ => 0))), (q3, .inr (2, [.ref a3])), (a3, .inl (cI, 8, .inl (fun _ => 0))), (q4, .inr (2, [.ref a4])), (a4, .inl (cI, 8, .inl (fun _ => 0)))]) := hD
  refine lv_aload_n hx hb dX6_init_56 rfl (lv_at hl 0 rfl) ?_
  refine k_new (ci := 2) hx hb hts inT_X2 tyX2 tyX2_ok hown kX6_9 kin_X2 kini_X2 hK hP hD hS hA rfl dfX2 (Nat.le_of_ble_eq_true rfl) (Nat.le_of_ble_eq_true rfl) dX6_init_57 (fun q5 H hP hD hS => ?_)
  refine lv_dup hx hb dX6_init_60 rfl ?_
  refine lv_bipush (v := 24) hx hb dX6_init_61 (by decide) ?_
  refine kn_top (x' := nI 24) (by decide) ?_
  refine k_ini (mc := 1) (ms := 24) hx hb hml hown hts hl.1 hP hK hN hS (c_row_init H.size 24 (by omega) (fun q h => hA q (Nat.le_trans hS.1 h)) hD) eX6_11 rfl rfl (Nat.le_of_ble_eq_true rfl) ⟨Nat.le_of_ble_eq_true rfl, Nat.le_of_ble_eq_true rfl⟩ ⟨rfl, rfl⟩ ⟨Nat.le_of_ble_eq_true rfl, Nat.le_of_ble_eq_true rfl⟩ dX6_init_63 (fun ws5 H locs hp hD hP hS => ?_)
  obtain ⟨a5, rfl⟩ := hp
  have hP := app_P hP
  have hD := app_D hD
  have hP : va_P (dC, dI) vwCl (w0 ++ [(o, .inr (5, [.null, .ref q1, .ref q2, .ref q3, .ref q4, .null, .null, .null, .int 0, .int 0, .int 0, .int 0, .int 0])), (q1, .inr (2, [.ref a1])), (a1, .inl (cI, 16, .inl (fun _ => 0))), (q2, .inr (2, [.ref a2])), (a2, .inl (cI, 8, .inl (fun _ => 0))), (q3, .inr (2, [.ref a3])), (a3, .inl (cI, 8, .inl (fun _ => 0))), (q4, .inr (2, [.ref a4])), (a4, .inl (cI, 8, .inl (fun _ => 0))), (q5, .inr (2, [.ref a5])), (a5, .inl (cI, 24, .inl (fun _ => 0)))]) H := hP
  have hD : va_D A (w0 ++ [(o, .inr (5, [.null, .ref q1, .ref q2, .ref q3, .ref q4, .null, .null, .null, .int 0, .int 0, .int 0, .int 0, .int 0])), (q1, .inr (2, [.ref a1])), (a1, .inl (cI, 16, .inl (fun _ => 0))), (q2, .inr (2, [.ref a2])), (a2, .inl (cI, 8, .inl (fun _ => 0))), (q3, .inr (2, [.ref a3])), (a3, .inl (cI, 8, .inl (fun _ => 0))), (q4, .inr (2, [.ref a4])), (a4, .inl (cI, 8, .inl (fun _ => 0))), (q5, .inr (2, [.ref a5])), (a5, .inl (cI, 24, .inl (fun _ => 0)))]) := hD
  refine W.widen (k := 10) (n := 69) (by omega) (by omega) ?_
  refine k_putF (q0 := w0.length) (ci := 5) (ty := .object "RoofsOfSnow$Row") hx hb hts inT_X6 tyX6 tyX6_ok nmX6 hown hin hK hP hD hS getAt rfl 5 (by decide) rfl rfl kX6_29 rfl (by decide +kernel) rfl rfl (Nat.le_of_ble_eq_true rfl) setAt dX6_init_66 (fun H locs hP hD hS => ?_)
  have hP : va_P (dC, dI) vwCl (w0 ++ [(o, .inr (5, [.null, .ref q1, .ref q2, .ref q3, .ref q4, .ref q5, .null, .null, .int 0, .int 0, .int 0, .int 0, .int 0])), (q1, .inr (2, [.ref a1])), (a1, .inl (cI, 16, .inl (fun _ => 0))), (q2, .inr (2, [.ref a2])), (a2, .inl (cI, 8, .inl (fun _ => 0))), (q3, .inr (2, [.ref a3])), (a3, .inl (cI, 8, .inl (fun _ => 0))), (q4, .inr (2, [.ref a4])), (a4, .inl (cI, 8, .inl (fun _ => 0))), (q5, .inr (2, [.ref a5])), (a5, .inl (cI, 24, .inl (fun _ => 0)))]) H := hP
  have hD : va_D A (w0 ++ [(o, .inr (5, [.null, .ref q1, .ref q2, .ref q3, .ref q4, .ref q5, .null, .null, .int 0, .int 0, .int 0, .int 0, .int 0])), (q1, .inr (2, [.ref a1])), (a1, .inl (cI, 16, .inl (fun _ => 0))), (q2, .inr (2, [.ref a2])), (a2, .inl (cI, 8, .inl (fun _ => 0))), (q3, .inr (2, [.ref a3])), (a3, .inl (cI, 8, .inl (fun _ => 0))), (q4, .inr (2, [.ref a4])), (a4, .inl (cI, 8, .inl (fun _ => 0))), (q5, .inr (2, [.ref a5])), (a5, .inl (cI, 24, .inl (fun _ => 0)))]) := hD
  refine lv_aload_n hx hb dX6_init_69 rfl (lv_at hl 0 rfl) ?_
  refine k_new (ci := 2) hx hb hts inT_X2 tyX2 tyX2_ok hown kX6_9 kin_X2 kini_X2 hK hP hD hS hA rfl dfX2 (Nat.le_of_ble_eq_true rfl) (Nat.le_of_ble_eq_true rfl) dX6_init_70 (fun q6 H hP hD hS => ?_)
  refine lv_dup hx hb dX6_init_73 rfl ?_
  refine lv_bipush (v := 8) hx hb dX6_init_74 (by decide) ?_
  refine kn_top (x' := nI 8) (by decide) ?_
  refine k_ini (mc := 1) (ms := 8) hx hb hml hown hts hl.1 hP hK hN hS (c_row_init H.size 8 (by omega) (fun q h => hA q (Nat.le_trans hS.1 h)) hD) eX6_11 rfl rfl (Nat.le_of_ble_eq_true rfl) ⟨Nat.le_of_ble_eq_true rfl, Nat.le_of_ble_eq_true rfl⟩ ⟨rfl, rfl⟩ ⟨Nat.le_of_ble_eq_true rfl, Nat.le_of_ble_eq_true rfl⟩ dX6_init_76 (fun ws6 H locs hp hD hP hS => ?_)
  obtain ⟨a6, rfl⟩ := hp
  have hP := app_P hP
  have hD := app_D hD
  have hP : va_P (dC, dI) vwCl (w0 ++ [(o, .inr (5, [.null, .ref q1, .ref q2, .ref q3, .ref q4, .ref q5, .null, .null, .int 0, .int 0, .int 0, .int 0, .int 0])), (q1, .inr (2, [.ref a1])), (a1, .inl (cI, 16, .inl (fun _ => 0))), (q2, .inr (2, [.ref a2])), (a2, .inl (cI, 8, .inl (fun _ => 0))), (q3, .inr (2, [.ref a3])), (a3, .inl (cI, 8, .inl (fun _ => 0))), (q4, .inr (2, [.ref a4])), (a4, .inl (cI, 8, .inl (fun _ => 0))), (q5, .inr (2, [.ref a5])), (a5, .inl (cI, 24, .inl (fun _ => 0))), (q6, .inr (2, [.ref a6])), (a6, .inl (cI, 8, .inl (fun _ => 0)))]) H := hP
  have hD : va_D A (w0 ++ [(o, .inr (5, [.null, .ref q1, .ref q2, .ref q3, .ref q4, .ref q5, .null, .null, .int 0, .int 0, .int 0, .int 0, .int 0])), (q1, .inr (2, [.ref a1])), (a1, .inl (cI, 16, .inl (fun _ => 0))), (q2, .inr (2, [.ref a2])), (a2, .inl (cI, 8, .inl (fun _ => 0))), (q3, .inr (2, [.ref a3])), (a3, .inl (cI, 8, .inl (fun _ => 0))), (q4, .inr (2, [.ref a4])), (a4, .inl (cI, 8, .inl (fun _ => 0))), (q5, .inr (2, [.ref a5])), (a5, .inl (cI, 24, .inl (fun _ => 0))), (q6, .inr (2, [.ref a6])), (a6, .inl (cI, 8, .inl (fun _ => 0)))]) := hD
  refine W.widen (k := 12) (n := 78) (by omega) (by omega) ?_
  refine k_putF (q0 := w0.length) (ci := 5) (ty := .object "RoofsOfSnow$Row") hx hb hts inT_X6 tyX6 tyX6_ok nmX6 hown hin hK hP hD hS getAt rfl 6 (by decide) rfl rfl kX6_32 rfl (by decide +kernel) rfl rfl (Nat.le_of_ble_eq_true rfl) setAt dX6_init_79 (fun H locs hP hD hS => ?_)
  have hP : va_P (dC, dI) vwCl (w0 ++ [(o, .inr (5, [.null, .ref q1, .ref q2, .ref q3, .ref q4, .ref q5, .ref q6, .null, .int 0, .int 0, .int 0, .int 0, .int 0])), (q1, .inr (2, [.ref a1])), (a1, .inl (cI, 16, .inl (fun _ => 0))), (q2, .inr (2, [.ref a2])), (a2, .inl (cI, 8, .inl (fun _ => 0))), (q3, .inr (2, [.ref a3])), (a3, .inl (cI, 8, .inl (fun _ => 0))), (q4, .inr (2, [.ref a4])), (a4, .inl (cI, 8, .inl (fun _ => 0))), (q5, .inr (2, [.ref a5])), (a5, .inl (cI, 24, .inl (fun _ => 0))), (q6, .inr (2, [.ref a6])), (a6, .inl (cI, 8, .inl (fun _ => 0)))]) H := hP
  have hD : va_D A (w0 ++ [(o, .inr (5, [.null, .ref q1, .ref q2, .ref q3, .ref q4, .ref q5, .ref q6, .null, .int 0, .int 0, .int 0, .int 0, .int 0])), (q1, .inr (2, [.ref a1])), (a1, .inl (cI, 16, .inl (fun _ => 0))), (q2, .inr (2, [.ref a2])), (a2, .inl (cI, 8, .inl (fun _ => 0))), (q3, .inr (2, [.ref a3])), (a3, .inl (cI, 8, .inl (fun _ => 0))), (q4, .inr (2, [.ref a4])), (a4, .inl (cI, 8, .inl (fun _ => 0))), (q5, .inr (2, [.ref a5])), (a5, .inl (cI, 24, .inl (fun _ => 0))), (q6, .inr (2, [.ref a6])), (a6, .inl (cI, 8, .inl (fun _ => 0)))]) := hD
  refine lv_aload_n hx hb dX6_init_82 rfl (lv_at hl 0 rfl) ?_
  refine lv_iconst (v := 0) hx hb dX6_init_83 (by decide) ?_
  refine k_put (q0 := w0.length) (ci := 5) (ty := .int) hx hb hts inT_X6 tyX6 tyX6_ok nmX6 hown hK hP hD hS getAt rfl 8 (by decide) rfl kX6_35 rfl (by decide +kernel) rfl rfl (Nat.le_of_ble_eq_true rfl) setAt dX6_init_84 (fun H locs hP hS => ?_)
  have hD := setD hD (z := .inr (5, [.null, .ref q1, .ref q2, .ref q3, .ref q4, .ref q5, .ref q6, .null, .int 0, .int 0, .int 0, .int 0, .int 0]))
  have hP : va_P (dC, dI) vwCl (w0 ++ [(o, .inr (5, [.null, .ref q1, .ref q2, .ref q3, .ref q4, .ref q5, .ref q6, .null, .int 0, .int 0, .int 0, .int 0, .int 0])), (q1, .inr (2, [.ref a1])), (a1, .inl (cI, 16, .inl (fun _ => 0))), (q2, .inr (2, [.ref a2])), (a2, .inl (cI, 8, .inl (fun _ => 0))), (q3, .inr (2, [.ref a3])), (a3, .inl (cI, 8, .inl (fun _ => 0))), (q4, .inr (2, [.ref a4])), (a4, .inl (cI, 8, .inl (fun _ => 0))), (q5, .inr (2, [.ref a5])), (a5, .inl (cI, 24, .inl (fun _ => 0))), (q6, .inr (2, [.ref a6])), (a6, .inl (cI, 8, .inl (fun _ => 0)))]) H := hP
  have hD : va_D A (w0 ++ [(o, .inr (5, [.null, .ref q1, .ref q2, .ref q3, .ref q4, .ref q5, .ref q6, .null, .int 0, .int 0, .int 0, .int 0, .int 0])), (q1, .inr (2, [.ref a1])), (a1, .inl (cI, 16, .inl (fun _ => 0))), (q2, .inr (2, [.ref a2])), (a2, .inl (cI, 8, .inl (fun _ => 0))), (q3, .inr (2, [.ref a3])), (a3, .inl (cI, 8, .inl (fun _ => 0))), (q4, .inr (2, [.ref a4])), (a4, .inl (cI, 8, .inl (fun _ => 0))), (q5, .inr (2, [.ref a5])), (a5, .inl (cI, 24, .inl (fun _ => 0))), (q6, .inr (2, [.ref a6])), (a6, .inl (cI, 8, .inl (fun _ => 0)))]) := hD
  refine lv_aload_n hx hb dX6_init_87 rfl (lv_at hl 0 rfl) ?_
  refine lv_iconst (v := 0) hx hb dX6_init_88 (by decide) ?_
  refine k_put (q0 := w0.length) (ci := 5) (ty := .int) hx hb hts inT_X6 tyX6 tyX6_ok nmX6 hown hK hP hD hS getAt rfl 9 (by decide) rfl kX6_39 rfl (by decide +kernel) rfl rfl (Nat.le_of_ble_eq_true rfl) setAt dX6_init_89 (fun H locs hP hS => ?_)
  have hD := setD hD (z := .inr (5, [.null, .ref q1, .ref q2, .ref q3, .ref q4, .ref q5, .ref q6, .null, .int 0, .int 0, .int 0, .int 0, .int 0]))
  have hP : va_P (dC, dI) vwCl (w0 ++ [(o, .inr (5, [.null, .ref q1, .ref q2, .ref q3, .ref q4, .ref q5, .ref q6, .null, .int 0, .int 0, .int 0, .int 0, .int 0])), (q1, .inr (2, [.ref a1])), (a1, .inl (cI, 16, .inl (fun _ => 0))), (q2, .inr (2, [.ref a2])), (a2, .inl (cI, 8, .inl (fun _ => 0))), (q3, .inr (2, [.ref a3])), (a3, .inl (cI, 8, .inl (fun _ => 0))), (q4, .inr (2, [.ref a4])), (a4, .inl (cI, 8, .inl (fun _ => 0))), (q5, .inr (2, [.ref a5])), (a5, .inl (cI, 24, .inl (fun _ => 0))), (q6, .inr (2, [.ref a6])), (a6, .inl (cI, 8, .inl (fun _ => 0)))]) H := hP
  have hD : va_D A (w0 ++ [(o, .inr (5, [.null, .ref q1, .ref q2, .ref q3, .ref q4, .ref q5, .ref q6, .null, .int 0, .int 0, .int 0, .int 0, .int 0])), (q1, .inr (2, [.ref a1])), (a1, .inl (cI, 16, .inl (fun _ => 0))), (q2, .inr (2, [.ref a2])), (a2, .inl (cI, 8, .inl (fun _ => 0))), (q3, .inr (2, [.ref a3])), (a3, .inl (cI, 8, .inl (fun _ => 0))), (q4, .inr (2, [.ref a4])), (a4, .inl (cI, 8, .inl (fun _ => 0))), (q5, .inr (2, [.ref a5])), (a5, .inl (cI, 24, .inl (fun _ => 0))), (q6, .inr (2, [.ref a6])), (a6, .inl (cI, 8, .inl (fun _ => 0)))]) := hD
  refine lv_aload_n hx hb dX6_init_92 rfl (lv_at hl 0 rfl) ?_
  refine lv_iconst (v := 0) hx hb dX6_init_93 (by decide) ?_
  refine k_put (q0 := w0.length) (ci := 5) (ty := .int) hx hb hts inT_X6 tyX6 tyX6_ok nmX6 hown hK hP hD hS getAt rfl 10 (by decide) rfl kX6_42 rfl (by decide +kernel) rfl rfl (Nat.le_of_ble_eq_true rfl) setAt dX6_init_94 (fun H locs hP hS => ?_)
  have hD := setD hD (z := .inr (5, [.null, .ref q1, .ref q2, .ref q3, .ref q4, .ref q5, .ref q6, .null, .int 0, .int 0, .int 0, .int 0, .int 0]))
  have hP : va_P (dC, dI) vwCl (w0 ++ [(o, .inr (5, [.null, .ref q1, .ref q2, .ref q3, .ref q4, .ref q5, .ref q6, .null, .int 0, .int 0, .int 0, .int 0, .int 0])), (q1, .inr (2, [.ref a1])), (a1, .inl (cI, 16, .inl (fun _ => 0))), (q2, .inr (2, [.ref a2])), (a2, .inl (cI, 8, .inl (fun _ => 0))), (q3, .inr (2, [.ref a3])), (a3, .inl (cI, 8, .inl (fun _ => 0))), (q4, .inr (2, [.ref a4])), (a4, .inl (cI, 8, .inl (fun _ => 0))), (q5, .inr (2, [.ref a5])), (a5, .inl (cI, 24, .inl (fun _ => 0))), (q6, .inr (2, [.ref a6])), (a6, .inl (cI, 8, .inl (fun _ => 0)))]) H := hP
  have hD : va_D A (w0 ++ [(o, .inr (5, [.null, .ref q1, .ref q2, .ref q3, .ref q4, .ref q5, .ref q6, .null, .int 0, .int 0, .int 0, .int 0, .int 0])), (q1, .inr (2, [.ref a1])), (a1, .inl (cI, 16, .inl (fun _ => 0))), (q2, .inr (2, [.ref a2])), (a2, .inl (cI, 8, .inl (fun _ => 0))), (q3, .inr (2, [.ref a3])), (a3, .inl (cI, 8, .inl (fun _ => 0))), (q4, .inr (2, [.ref a4])), (a4, .inl (cI, 8, .inl (fun _ => 0))), (q5, .inr (2, [.ref a5])), (a5, .inl (cI, 24, .inl (fun _ => 0))), (q6, .inr (2, [.ref a6])), (a6, .inl (cI, 8, .inl (fun _ => 0)))]) := hD
  refine lv_aload_n hx hb dX6_init_97 rfl (lv_at hl 0 rfl) ?_
  refine lv_iconst (v := 0) hx hb dX6_init_98 (by decide) ?_
  refine k_put (q0 := w0.length) (ci := 5) (ty := .int) hx hb hts inT_X6 tyX6 tyX6_ok nmX6 hown hK hP hD hS getAt rfl 11 (by decide) rfl kX6_45 rfl (by decide +kernel) rfl rfl (Nat.le_of_ble_eq_true rfl) setAt dX6_init_99 (fun H locs hP hS => ?_)
  have hD := setD hD (z := .inr (5, [.null, .ref q1, .ref q2, .ref q3, .ref q4, .ref q5, .ref q6, .null, .int 0, .int 0, .int 0, .int 0, .int 0]))
  have hP : va_P (dC, dI) vwCl (w0 ++ [(o, .inr (5, [.null, .ref q1, .ref q2, .ref q3, .ref q4, .ref q5, .ref q6, .null, .int 0, .int 0, .int 0, .int 0, .int 0])), (q1, .inr (2, [.ref a1])), (a1, .inl (cI, 16, .inl (fun _ => 0))), (q2, .inr (2, [.ref a2])), (a2, .inl (cI, 8, .inl (fun _ => 0))), (q3, .inr (2, [.ref a3])), (a3, .inl (cI, 8, .inl (fun _ => 0))), (q4, .inr (2, [.ref a4])), (a4, .inl (cI, 8, .inl (fun _ => 0))), (q5, .inr (2, [.ref a5])), (a5, .inl (cI, 24, .inl (fun _ => 0))), (q6, .inr (2, [.ref a6])), (a6, .inl (cI, 8, .inl (fun _ => 0)))]) H := hP
  have hD : va_D A (w0 ++ [(o, .inr (5, [.null, .ref q1, .ref q2, .ref q3, .ref q4, .ref q5, .ref q6, .null, .int 0, .int 0, .int 0, .int 0, .int 0])), (q1, .inr (2, [.ref a1])), (a1, .inl (cI, 16, .inl (fun _ => 0))), (q2, .inr (2, [.ref a2])), (a2, .inl (cI, 8, .inl (fun _ => 0))), (q3, .inr (2, [.ref a3])), (a3, .inl (cI, 8, .inl (fun _ => 0))), (q4, .inr (2, [.ref a4])), (a4, .inl (cI, 8, .inl (fun _ => 0))), (q5, .inr (2, [.ref a5])), (a5, .inl (cI, 24, .inl (fun _ => 0))), (q6, .inr (2, [.ref a6])), (a6, .inl (cI, 8, .inl (fun _ => 0)))]) := hD
  refine lv_aload_n hx hb dX6_init_102 rfl (lv_at hl 0 rfl) ?_
  refine lv_iconst (v := 0) hx hb dX6_init_103 (by decide) ?_
  refine k_put (q0 := w0.length) (ci := 5) (ty := .int) hx hb hts inT_X6 tyX6 tyX6_ok nmX6 hown hK hP hD hS getAt rfl 12 (by decide) rfl kX6_48 rfl (by decide +kernel) rfl rfl (Nat.le_of_ble_eq_true rfl) setAt dX6_init_104 (fun H locs hP hS => ?_)
  have hD := setD hD (z := .inr (5, [.null, .ref q1, .ref q2, .ref q3, .ref q4, .ref q5, .ref q6, .null, .int 0, .int 0, .int 0, .int 0, .int 0]))
  have hP : va_P (dC, dI) vwCl (w0 ++ [(o, .inr (5, [.null, .ref q1, .ref q2, .ref q3, .ref q4, .ref q5, .ref q6, .null, .int 0, .int 0, .int 0, .int 0, .int 0])), (q1, .inr (2, [.ref a1])), (a1, .inl (cI, 16, .inl (fun _ => 0))), (q2, .inr (2, [.ref a2])), (a2, .inl (cI, 8, .inl (fun _ => 0))), (q3, .inr (2, [.ref a3])), (a3, .inl (cI, 8, .inl (fun _ => 0))), (q4, .inr (2, [.ref a4])), (a4, .inl (cI, 8, .inl (fun _ => 0))), (q5, .inr (2, [.ref a5])), (a5, .inl (cI, 24, .inl (fun _ => 0))), (q6, .inr (2, [.ref a6])), (a6, .inl (cI, 8, .inl (fun _ => 0)))]) H := hP
  have hD : va_D A (w0 ++ [(o, .inr (5, [.null, .ref q1, .ref q2, .ref q3, .ref q4, .ref q5, .ref q6, .null, .int 0, .int 0, .int 0, .int 0, .int 0])), (q1, .inr (2, [.ref a1])), (a1, .inl (cI, 16, .inl (fun _ => 0))), (q2, .inr (2, [.ref a2])), (a2, .inl (cI, 8, .inl (fun _ => 0))), (q3, .inr (2, [.ref a3])), (a3, .inl (cI, 8, .inl (fun _ => 0))), (q4, .inr (2, [.ref a4])), (a4, .inl (cI, 8, .inl (fun _ => 0))), (q5, .inr (2, [.ref a5])), (a5, .inl (cI, 24, .inl (fun _ => 0))), (q6, .inr (2, [.ref a6])), (a6, .inl (cI, 8, .inl (fun _ => 0)))]) := hD
  refine lv_aload_n hx hb dX6_init_107 rfl (lv_at hl 0 rfl) ?_
  refine lv_aload_n hx hb dX6_init_108 rfl (lv_at hl 1 rfl) ?_
  refine k_putF (q0 := w0.length) (ci := 5) (ty := .object "RoofsOfSnow$Plan") hx hb hts inT_X6 tyX6 tyX6_ok nmX6 hown hin hK hP hD hS getAt rfl 0 (by decide) rfl rfl kX6_51 rfl (by decide +kernel) rfl rfl (Nat.le_of_ble_eq_true rfl) setAt dX6_init_109 (fun H locs hP hD hS => ?_)
  have hP : va_P (dC, dI) vwCl (w0 ++ [(o, .inr (5, [.ref pa, .ref q1, .ref q2, .ref q3, .ref q4, .ref q5, .ref q6, .null, .int 0, .int 0, .int 0, .int 0, .int 0])), (q1, .inr (2, [.ref a1])), (a1, .inl (cI, 16, .inl (fun _ => 0))), (q2, .inr (2, [.ref a2])), (a2, .inl (cI, 8, .inl (fun _ => 0))), (q3, .inr (2, [.ref a3])), (a3, .inl (cI, 8, .inl (fun _ => 0))), (q4, .inr (2, [.ref a4])), (a4, .inl (cI, 8, .inl (fun _ => 0))), (q5, .inr (2, [.ref a5])), (a5, .inl (cI, 24, .inl (fun _ => 0))), (q6, .inr (2, [.ref a6])), (a6, .inl (cI, 8, .inl (fun _ => 0)))]) H := hP
  have hD : va_D A (w0 ++ [(o, .inr (5, [.ref pa, .ref q1, .ref q2, .ref q3, .ref q4, .ref q5, .ref q6, .null, .int 0, .int 0, .int 0, .int 0, .int 0])), (q1, .inr (2, [.ref a1])), (a1, .inl (cI, 16, .inl (fun _ => 0))), (q2, .inr (2, [.ref a2])), (a2, .inl (cI, 8, .inl (fun _ => 0))), (q3, .inr (2, [.ref a3])), (a3, .inl (cI, 8, .inl (fun _ => 0))), (q4, .inr (2, [.ref a4])), (a4, .inl (cI, 8, .inl (fun _ => 0))), (q5, .inr (2, [.ref a5])), (a5, .inl (cI, 24, .inl (fun _ => 0))), (q6, .inr (2, [.ref a6])), (a6, .inl (cI, 8, .inl (fun _ => 0)))]) := hD
  refine lv_aload_n hx hb dX6_init_112 rfl (lv_at hl 0 rfl) ?_
  refine lv_aload_n hx hb dX6_init_113 rfl (lv_at hl 2 rfl) ?_
  refine k_putF (q0 := w0.length) (ci := 5) (ty := .object "RoofsOfSnow$Village") hx hb hts inT_X6 tyX6 tyX6_ok nmX6 hown hin hK hP hD hS getAt rfl 7 (by decide) rfl rfl kX6_55 rfl (by decide +kernel) rfl rfl (Nat.le_of_ble_eq_true rfl) setAt dX6_init_114 (fun H locs hP hD hS => ?_)
  have hP : va_P (dC, dI) vwCl (w0 ++ [(o, .inr (5, [.ref pa, .ref q1, .ref q2, .ref q3, .ref q4, .ref q5, .ref q6, .ref nx, .int 0, .int 0, .int 0, .int 0, .int 0])), (q1, .inr (2, [.ref a1])), (a1, .inl (cI, 16, .inl (fun _ => 0))), (q2, .inr (2, [.ref a2])), (a2, .inl (cI, 8, .inl (fun _ => 0))), (q3, .inr (2, [.ref a3])), (a3, .inl (cI, 8, .inl (fun _ => 0))), (q4, .inr (2, [.ref a4])), (a4, .inl (cI, 8, .inl (fun _ => 0))), (q5, .inr (2, [.ref a5])), (a5, .inl (cI, 24, .inl (fun _ => 0))), (q6, .inr (2, [.ref a6])), (a6, .inl (cI, 8, .inl (fun _ => 0)))]) H := hP
  have hD : va_D A (w0 ++ [(o, .inr (5, [.ref pa, .ref q1, .ref q2, .ref q3, .ref q4, .ref q5, .ref q6, .ref nx, .int 0, .int 0, .int 0, .int 0, .int 0])), (q1, .inr (2, [.ref a1])), (a1, .inl (cI, 16, .inl (fun _ => 0))), (q2, .inr (2, [.ref a2])), (a2, .inl (cI, 8, .inl (fun _ => 0))), (q3, .inr (2, [.ref a3])), (a3, .inl (cI, 8, .inl (fun _ => 0))), (q4, .inr (2, [.ref a4])), (a4, .inl (cI, 8, .inl (fun _ => 0))), (q5, .inr (2, [.ref a5])), (a5, .inl (cI, 24, .inl (fun _ => 0))), (q6, .inr (2, [.ref a6])), (a6, .inl (cI, 8, .inl (fun _ => 0)))]) := hD
  exact W.vret hx hb hr (fun t ht hW => ⟨rfl, ⟨_, ⟨kAt [o, q1, a1, q2, a2, q3, a3, q4, a4, q5, a5, q6, a6], rfl, rfl⟩, hD, kB.of hP hK hN ht hW⟩, hS.F ht⟩) hS.2.2 dX6_init_117 hlocks
end CINI

