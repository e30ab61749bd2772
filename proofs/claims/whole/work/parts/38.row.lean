/-! Row: every place is looked at before it is used -/
theorem kn0 {i : Int32} (h : ¬ i < 0) : 0 ≤ i.toInt := by
  rw [Int32.lt_iff_toInt_lt, k0I] at h
  omega
theorem knl {i : Int32} {n : Nat} (h : ¬ i < 0) (h2 : ¬ nI n ≤ i) (hn : n < 2 ^ 31) : i.toNatClampNeg < n := by
  have h3 := kI_ltN h2 hn
  have h4 := kn0 h
  rw [kcl_toNat]
  omega
section ROW
variable {l : Launch} {dC : Nat → ClassId} {dI : Nat → Nat → Nat} {cI : ClassId} {ws ws' : va_W} {o a n e0 e1 : Nat} {f : Nat → Int32} {A : Nat → Prop}
set_option maxHeartbeats 4000000 in
set_option maxRecDepth 100000 in
theorem c_rg (ho : ws[e0]? = some (o, .inr (2, [.ref a]))) (ha : ws[e1]? = some (a, .inl (cI, n, .inl f))) (hn : n < 2 ^ 31) (i : Int32) : Met l yX2_get (.code yX2_get cX2_get 2 (some .int) :: kT) ({ frames := 0, cells := 0, slots := 0, locals := 0 } : Room) (va_Pc [.ref o, .int i] (kB (dC, dI) [(cI, .int)] ws)) (kR (some (.int (rg n f i)))) 0 0 (fun _ => False) := by
  refine kMet (by decide) (fun p e s m args below meth c ls hx hb hr hml hts hown hlocks hname hargs hB hl => ?_) (Nat.le_of_ble_eq_true rfl)
  obtain ⟨hP, hK, hN⟩ := hB
  have hl : lv_has ls 2 [(0, .ref o), (1, .int i)] := hl
  refine lv_iload_n hx hb dX2_get_0 rfl (lv_at hl 1 rfl) ?_
  refine lv_if_lt (tgt := 22) hx hb dX2_get_1 (by decide) (fun h1 => ?_) (fun h1 => ?_)
  · refine lv_iconst (v := 0) hx hb dX2_get_22 (by decide) ?_
    exact W.iret (v := 0) hx hb hr (fun t ht hW => ⟨by rw [rg, if_pos h1], ht⟩) (fun _ h => absurd h List.not_mem_nil) dX2_get_23 hlocks
  · refine lv_iload_n hx hb dX2_get_4 rfl (lv_at hl 1 rfl) ?_
    refine lv_aload_n hx hb dX2_get_5 rfl (lv_at hl 0 rfl) ?_
    refine k_get (q0 := e0) (ci := 2) (v := .ref a) hx hb hts inT_X2 hown hK hP ho rfl 0 (by decide) rfl kX2_13 rfl dX2_get_6 ?_
    refine va_alen (v := nI n) hx hb hK hP e1 0 ha rfl rfl dX2_get_9 ?_
    refine lv_icmp_ge (tgt := 22) hx hb dX2_get_10 (by decide) (fun h2 => ?_) (fun h2 => ?_)
    · refine lv_iconst (v := 0) hx hb dX2_get_22 (by decide) ?_
      exact W.iret (v := 0) hx hb hr (fun t ht hW => ⟨by rw [rg, if_neg h1, if_pos h2], ht⟩) (fun _ h => absurd h List.not_mem_nil) dX2_get_23 hlocks
    · refine lv_aload_n hx hb dX2_get_13 rfl (lv_at hl 0 rfl) ?_
      refine k_get (q0 := e0) (ci := 2) (v := .ref a) hx hb hts inT_X2 hown hK hP ho rfl 0 (by decide) rfl kX2_13 rfl dX2_get_14 ?_
      refine lv_iload_n hx hb dX2_get_17 rfl (lv_at hl 1 rfl) ?_
      refine kn_iald (f := f) (v := f i.toNatClampNeg) hx hb hK hP e1 ha i.toNatClampNeg (kNat (kn0 h1)) (knl h1 h2 hn) hn rfl dX2_get_18 ?_
      refine lv_goto (tgt := 23) hx hb dX2_get_19 (by decide) ?_
      exact W.iret (v := f i.toNatClampNeg) hx hb hr (fun t ht hW => ⟨by rw [rg, if_neg h1, if_neg h2], ht⟩) (fun _ h => absurd h List.not_mem_nil) dX2_get_23 hlocks
theorem rset_self {x : Nat × va_E} (h : ws[e1]? = some x) : ws.set e1 x = ws := by
  obtain ⟨h1, h2⟩ := List.getElem?_eq_some_iff.mp h
  rw [← h2, List.set_getElem_self]
set_option maxHeartbeats 4000000 in
set_option maxRecDepth 100000 in
theorem c_rs (ho : ws[e0]? = some (o, .inr (2, [.ref a]))) (ha : ws[e1]? = some (a, .inl (cI, n, .inl f))) (hn : n < 2 ^ 31) (hD : va_D A ws) (i x : Int32) (hset : ws.set e1 (a, .inl (cI, n, .inl (rs n f i x))) = ws') : Met l yX2_set (.code yX2_set cX2_set 3 none :: kT) ({ frames := 0, cells := 0, slots := 0, locals := 0 } : Room) (va_Pc [.ref o, .int i, .int x] (kB (dC, dI) [(cI, .int)] ws)) (kQ none (kB (dC, dI) [(cI, .int)] ws') A) 0 0 A := by
  refine kMet (by decide) (fun p e s m args below meth c ls hx hb hr hml hts hown hlocks hname hargs hB hl => ?_) (Nat.le_of_ble_eq_true rfl)
  obtain ⟨hP, hK, hN⟩ := hB
  have hl : lv_has ls 3 [(0, .ref o), (1, .int i), (2, .int x)] := hl
  have hS : va_S A s.heap s.heap [] := va_S.rf
  refine lv_iload_n hx hb dX2_set_0 rfl (lv_at hl 1 rfl) ?_
  refine lv_if_lt (tgt := 20) hx hb dX2_set_1 (by decide) (fun h1 => ?_) (fun h1 => ?_)
  · have e9 : ws' = ws := by rw [← hset, rs, if_pos h1]; exact rset_self ha
    exact W.vret hx hb hr (fun t ht hW => ⟨rfl, by rw [e9]; exact kB.of hP hK hN ht hW, hS.F ht⟩) hS.2.2 dX2_set_20 hlocks
  · refine lv_iload_n hx hb dX2_set_4 rfl (lv_at hl 1 rfl) ?_
    refine lv_aload_n hx hb dX2_set_5 rfl (lv_at hl 0 rfl) ?_
    refine k_get (q0 := e0) (ci := 2) (v := .ref a) hx hb hts inT_X2 hown hK hP ho rfl 0 (by decide) rfl kX2_13 rfl dX2_set_6 ?_
    refine va_alen (v := nI n) hx hb hK hP e1 0 ha rfl rfl dX2_set_9 ?_
    refine lv_icmp_ge (tgt := 20) hx hb dX2_set_10 (by decide) (fun h2 => ?_) (fun h2 => ?_)
    · have e9 : ws' = ws := by rw [← hset, rs, if_neg h1, if_pos h2]; exact rset_self ha
      exact W.vret hx hb hr (fun t ht hW => ⟨rfl, by rw [e9]; exact kB.of hP hK hN ht hW, hS.F ht⟩) hS.2.2 dX2_set_20 hlocks
    · refine lv_aload_n hx hb dX2_set_13 rfl (lv_at hl 0 rfl) ?_
      refine k_get (q0 := e0) (ci := 2) (v := .ref a) hx hb hts inT_X2 hown hK hP ho rfl 0 (by decide) rfl kX2_13 rfl dX2_set_14 ?_
      refine lv_iload_n hx hb dX2_set_17 rfl (lv_at hl 1 rfl) ?_
      refine lv_iload_n hx hb dX2_set_18 rfl (lv_at hl 2 rfl) ?_
      have hset2 : ws.set e1 (a, .inl (cI, n, .inl (upd f i.toNatClampNeg x))) = ws' := by rw [← hset, rs, if_neg h1, if_neg h2]
      refine kn_iast (f := f) (ws' := ws') hx hb hK hP hD hS e1 ha i.toNatClampNeg (kNat (kn0 h1)) (knl h1 h2 hn) hn hset2 dX2_set_19 (fun H locs hP hS => ?_)
      exact W.vret hx hb hr (fun t ht hW => ⟨rfl, kB.of hP hK hN ht hW, hS.F ht⟩) hS.2.2 dX2_set_20 hlocks
end ROW
