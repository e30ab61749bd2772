section CCHAIN
variable {l : Launch} {dC : Nat → ClassId} {dI : Nat → Nat → Nat} {cI : ClassId} {w0 : va_W} {A : Nat → Prop}
def pChain (cI : ClassId) (w0 : va_W) (pa : Nat) (v : Value) (ws' : va_W) : Prop := ∃ b0 b1 b2 b3 b4 b5 : Nat → Nat, v = .ref (b5 0) ∧ ws' = ((((((w0 ++ kTab b0 13 (vE cI b0 zA zS pa .null)) ++ kTab b1 13 (vE cI b1 zA zS pa (.ref (b0 0)))) ++ kTab b2 13 (vE cI b2 zA zS pa (.ref (b1 0)))) ++ kTab b3 13 (vE cI b3 zA zS pa (.ref (b2 0)))) ++ kTab b4 13 (vE cI b4 zA zS pa (.ref (b3 0)))) ++ kTab b5 13 (vE cI b5 zA zS pa (.ref (b4 0))))
set_option maxHeartbeats 4000000 in
set_option maxRecDepth 100000 in
theorem c_chainOf (sz pa : Nat) (hA : ∀ q, sz ≤ q → A q) (hD : va_D A w0) : Met l yX7_chainOf (.code yX7_chainOf cX7_chainOf 4 (some (.object "RoofsOfSnow$Village")) :: kT) ({ frames := 3, cells := 78, slots := 546, locals := 70 } : Room) (va_Pc [.ref pa, .int 5] (kBz sz (dC, dI) [(cI, .int)] w0)) (kMv (pChain cI w0 pa) A (dC, dI) [(cI, .int)]) 78 546 A := by
  refine kMet (by decide) (fun p e s m args below meth c ls hx hb hr hml hts hown hlocks hname hargs hB hl => ?_) (Nat.le_of_ble_eq_true rfl)
  obtain ⟨hsz, hP, hK, hN⟩ := hB
  have hA : ∀ q, s.heap.size ≤ q → A q := fun q h => hA q (hsz ▸ h)
  have hl : lv_has ls 4 [(0, .ref pa), (1, .int 5)] := hl
  have hS : va_S A s.heap s.heap [] := va_S.rf
  refine lv_null hx hb dX7_chainOf_0 ?_
  refine lv_astore_nN (lv' := [(2, .null), (0, .ref pa), (1, .int 5)]) hx hb dX7_chainOf_1 rfl hl (by decide) rfl (fun ls hl => ?_)
  refine lv_iconst (v := 0) hx hb dX7_chainOf_2 (by decide) ?_
  refine lv_istore_n (lv' := [(3, .int 0), (2, .null), (0, .ref pa), (1, .int 5)]) hx hb dX7_chainOf_3 rfl hl (by decide) rfl (fun ls hl => ?_)
  refine lv_iload_n hx hb dX7_chainOf_4 rfl (lv_at hl 0 rfl) ?_
  refine lv_iload_n hx hb dX7_chainOf_5 rfl (lv_at hl 3 rfl) ?_
  refine lv_icmp_gt (tgt := 25) hx hb dX7_chainOf_6 (by decide) (fun h => absurd h (by decide)) (fun _ => ?_)
  refine k_new (ci := 5) hx hb hts inT_X6 tyX6 tyX6_ok hown kX7_35 kin_X6 kini_X6 hK hP hD hS hA rfl dfX6 (Nat.le_of_ble_eq_true rfl) (Nat.le_of_ble_eq_true rfl) dX7_chainOf_9 (fun q0 H hP hD hS => ?_)
  refine lv_dup hx hb dX7_chainOf_12 rfl ?_
  refine lv_aload_n hx hb dX7_chainOf_13 rfl (lv_at hl 2 rfl) ?_
  refine lv_aload_nN hx hb dX7_chainOf_14 rfl (lv_at hl 1 rfl) ?_
  refine k_ini (mc := 12) (ms := 78) hx hb hml hown hts hl.1 hP hK hN hS (c_villageN_init H.size pa 0 (fun q h => hA q (Nat.le_trans hS.1 h)) hD) eX7_37 rfl rfl (Nat.le_of_ble_eq_true rfl) ⟨Nat.le_of_ble_eq_true rfl, Nat.le_of_ble_eq_true rfl⟩ ⟨rfl, rfl⟩ ⟨Nat.le_of_ble_eq_true rfl, Nat.le_of_ble_eq_true rfl⟩ dX7_chainOf_15 (fun ws0 H locs hp hD hP hS => ?_)
  obtain ⟨b0, hb0, rfl⟩ := hp
  rw [← hb0]
  refine W.widen (k := 13) (n := 91) (by omega) (by omega) ?_
  refine lv_astore_n (lv' := [(2, .ref (b0 0)), (3, .int 0), (0, .ref pa), (1, .int 5)]) hx hb dX7_chainOf_18 rfl hl (by decide) rfl (fun ls hl => ?_)
  refine lv_iinc (v := 1) (lv' := [(3, .int 1), (2, .ref (b0 0)), (0, .ref pa), (1, .int 5)]) hx hb dX7_chainOf_19 hl (k := 1) rfl (by decide) (by decide) rfl (fun ls hl => ?_)
  refine lv_goto (tgt := 4) hx hb dX7_chainOf_22 (by decide) ?_
  refine lv_iload_n hx hb dX7_chainOf_4 rfl (lv_at hl 0 rfl) ?_
  refine lv_iload_n hx hb dX7_chainOf_5 rfl (lv_at hl 3 rfl) ?_
  refine lv_icmp_gt (tgt := 25) hx hb dX7_chainOf_6 (by decide) (fun h => absurd h (by decide)) (fun _ => ?_)
  refine k_new (ci := 5) hx hb hts inT_X6 tyX6 tyX6_ok hown kX7_35 kin_X6 kini_X6 hK hP hD hS hA rfl dfX6 (Nat.le_of_ble_eq_true rfl) (Nat.le_of_ble_eq_true rfl) dX7_chainOf_9 (fun q1 H hP hD hS => ?_)
  refine lv_dup hx hb dX7_chainOf_12 rfl ?_
  refine lv_aload_n hx hb dX7_chainOf_13 rfl (lv_at hl 2 rfl) ?_
  refine lv_aload_n hx hb dX7_chainOf_14 rfl (lv_at hl 1 rfl) ?_
  refine k_ini (mc := 12) (ms := 78) hx hb hml hown hts hl.1 hP hK hN hS (c_village_init H.size pa (b0 0) (fun q h => hA q (Nat.le_trans hS.1 h)) hD) eX7_37 rfl rfl (Nat.le_of_ble_eq_true rfl) ⟨Nat.le_of_ble_eq_true rfl, Nat.le_of_ble_eq_true rfl⟩ ⟨rfl, rfl⟩ ⟨Nat.le_of_ble_eq_true rfl, Nat.le_of_ble_eq_true rfl⟩ dX7_chainOf_15 (fun ws1 H locs hp hD hP hS => ?_)
  obtain ⟨b1, hb1, rfl⟩ := hp
  rw [← hb1]
  refine W.widen (k := 26) (n := 182) (by omega) (by omega) ?_
  refine lv_astore_n (lv' := [(2, .ref (b1 0)), (3, .int 1), (0, .ref pa), (1, .int 5)]) hx hb dX7_chainOf_18 rfl hl (by decide) rfl (fun ls hl => ?_)
  refine lv_iinc (v := 2) (lv' := [(3, .int 2), (2, .ref (b1 0)), (0, .ref pa), (1, .int 5)]) hx hb dX7_chainOf_19 hl (k := 1) rfl (by decide) (by decide) rfl (fun ls hl => ?_)
  refine lv_goto (tgt := 4) hx hb dX7_chainOf_22 (by decide) ?_
  refine lv_iload_n hx hb dX7_chainOf_4 rfl (lv_at hl 0 rfl) ?_
  refine lv_iload_n hx hb dX7_chainOf_5 rfl (lv_at hl 3 rfl) ?_
  refine lv_icmp_gt (tgt := 25) hx hb dX7_chainOf_6 (by decide) (fun h => absurd h (by decide)) (fun _ => ?_)
  refine k_new (ci := 5) hx hb hts inT_X6 tyX6 tyX6_ok hown kX7_35 kin_X6 kini_X6 hK hP hD hS hA rfl dfX6 (Nat.le_of_ble_eq_true rfl) (Nat.le_of_ble_eq_true rfl) dX7_chainOf_9 (fun q2 H hP hD hS => ?_)
  refine lv_dup hx hb dX7_chainOf_12 rfl ?_
  refine lv_aload_n hx hb dX7_chainOf_13 rfl (lv_at hl 2 rfl) ?_
  refine lv_aload_n hx hb dX7_chainOf_14 rfl (lv_at hl 1 rfl) ?_
  refine k_ini (mc := 12) (ms := 78) hx hb hml hown hts hl.1 hP hK hN hS (c_village_init H.size pa (b1 0) (fun q h => hA q (Nat.le_trans hS.1 h)) hD) eX7_37 rfl rfl (Nat.le_of_ble_eq_true rfl) ⟨Nat.le_of_ble_eq_true rfl, Nat.le_of_ble_eq_true rfl⟩ ⟨rfl, rfl⟩ ⟨Nat.le_of_ble_eq_true rfl, Nat.le_of_ble_eq_true rfl⟩ dX7_chainOf_15 (fun ws2 H locs hp hD hP hS => ?_)
  obtain ⟨b2, hb2, rfl⟩ := hp
  rw [← hb2]
  refine W.widen (k := 39) (n := 273) (by omega) (by omega) ?_
  refine lv_astore_n (lv' := [(2, .ref (b2 0)), (3, .int 2), (0, .ref pa), (1, .int 5)]) hx hb dX7_chainOf_18 rfl hl (by decide) rfl (fun ls hl => ?_)
  refine lv_iinc (v := 3) (lv' := [(3, .int 3), (2, .ref (b2 0)), (0, .ref pa), (1, .int 5)]) hx hb dX7_chainOf_19 hl (k := 1) rfl (by decide) (by decide) rfl (fun ls hl => ?_)
  refine lv_goto (tgt := 4) hx hb dX7_chainOf_22 (by decide) ?_
  refine lv_iload_n hx hb dX7_chainOf_4 rfl (lv_at hl 0 rfl) ?_
  refine lv_iload_n hx hb dX7_chainOf_5 rfl (lv_at hl 3 rfl) ?_
  refine lv_icmp_gt (tgt := 25) hx hb dX7_chainOf_6 (by decide) (fun h => absurd h (by decide)) (fun _ => ?_)
  refine k_new (ci := 5) hx hb hts inT_X6 tyX6 tyX6_ok hown kX7_35 kin_X6 kini_X6 hK hP hD hS hA rfl dfX6 (Nat.le_of_ble_eq_true rfl) (Nat.le_of_ble_eq_true rfl) dX7_chainOf_9 (fun q3 H hP hD hS => ?_)
  refine lv_dup hx hb dX7_chainOf_12 rfl ?_
  refine lv_aload_n hx hb dX7_chainOf_13 rfl (lv_at hl 2 rfl) ?_
  refine lv_aload_n hx hb dX7_chainOf_14 rfl (lv_at hl 1 rfl) ?_
  refine k_ini (mc := 12) (ms := 78) hx hb hml hown hts hl.1 hP hK hN hS (c_village_init H.size pa (b2 0) (fun q h => hA q (Nat.le_trans hS.1 h)) hD) eX7_37 rfl rfl (Nat.le_of_ble_eq_true rfl) ⟨Nat.le_of_ble_eq_true rfl, Nat.le_of_ble_eq_true rfl⟩ ⟨rfl, rfl⟩ ⟨Nat.le_of_ble_eq_true rfl, Nat.le_of_ble_eq_true rfl⟩ dX7_chainOf_15 (fun ws3 H locs hp hD hP hS => ?_)
  obtain ⟨b3, hb3, rfl⟩ := hp
  rw [← hb3]
  refine W.widen (k := 52) (n := 364) (by omega) (by omega) ?_
  refine lv_astore_n (lv' := [(2, .ref (b3 0)), (3, .int 3), (0, .ref pa), (1, .int 5)]) hx hb dX7_chainOf_18 rfl hl (by decide) rfl (fun ls hl => ?_)
  refine lv_iinc (v := 4) (lv' := [(3, .int 4), (2, .ref (b3 0)), (0, .ref pa), (1, .int 5)]) hx hb dX7_chainOf_19 hl (k := 1) rfl (by decide) (by decide) rfl (fun ls hl => ?_)
  refine lv_goto (tgt := 4) hx hb dX7_chainOf_22 (by decide) ?_
  refine lv_iload_n hx hb dX7_chainOf_4 rfl (lv_at hl 0 rfl) ?_
  refine lv_iload_n hx hb dX7_chainOf_5 rfl (lv_at hl 3 rfl) ?_
  refine lv_icmp_gt (tgt := 25) hx hb dX7_chainOf_6 (by decide) (fun h => absurd h (by decide)) (fun _ => ?_)
  refine k_new (ci := 5) hx hb hts inT_X6 tyX6 tyX6_ok hown kX7_35 kin_X6 kini_X6 hK hP hD hS hA rfl dfX6 (Nat.le_of_ble_eq_true rfl) (Nat.le_of_ble_eq_true rfl) dX7_chainOf_9 (fun q4 H hP hD hS => ?_)
  refine lv_dup hx hb dX7_chainOf_12 rfl ?_
  refine lv_aload_n hx hb dX7_chainOf_13 rfl (lv_at hl 2 rfl) ?_
  refine lv_aload_n hx hb dX7_chainOf_14 rfl (lv_at hl 1 rfl) ?_
  refine k_ini (mc := 12) (ms := 78) hx hb hml hown hts hl.1 hP hK hN hS (c_village_init H.size pa (b3 0) (fun q h => hA q (Nat.le_trans hS.1 h)) hD) eX7_37 rfl rfl (Nat.le_of_ble_eq_true rfl) ⟨Nat.le_of_ble_eq_true rfl, Nat.le_of_ble_eq_true rfl⟩ ⟨rfl, rfl⟩ ⟨Nat.le_of_ble_eq_true rfl, Nat.le_of_ble_eq_true rfl⟩ dX7_chainOf_15 (fun ws4 H locs hp hD hP hS => ?_)
  obtain ⟨b4, hb4, rfl⟩ := hp
  rw [← hb4]
  refine W.widen (k := 65) (n := 455) (by omega) (by omega) ?_
  refine lv_astore_n (lv' := [(2, .ref (b4 0)), (3, .int 4), (0, .ref pa), (1, .int 5)]) hx hb dX7_chainOf_18 rfl hl (by decide) rfl (fun ls hl => ?_)
  refine lv_iinc (v := 5) (lv' := [(3, .int 5), (2, .ref (b4 0)), (0, .ref pa), (1, .int 5)]) hx hb dX7_chainOf_19 hl (k := 1) rfl (by decide) (by decide) rfl (fun ls hl => ?_)
  refine lv_goto (tgt := 4) hx hb dX7_chainOf_22 (by decide) ?_
  refine lv_iload_n hx hb dX7_chainOf_4 rfl (lv_at hl 0 rfl) ?_
  refine lv_iload_n hx hb dX7_chainOf_5 rfl (lv_at hl 3 rfl) ?_
  refine lv_icmp_gt (tgt := 25) hx hb dX7_chainOf_6 (by decide) (fun h => absurd h (by decide)) (fun _ => ?_)
  refine k_new (ci := 5) hx hb hts inT_X6 tyX6 tyX6_ok hown kX7_35 kin_X6 kini_X6 hK hP hD hS hA rfl dfX6 (Nat.le_of_ble_eq_true rfl) (Nat.le_of_ble_eq_true rfl) dX7_chainOf_9 (fun q5 H hP hD hS => ?_)
  refine lv_dup hx hb dX7_chainOf_12 rfl ?_
  refine lv_aload_n hx hb dX7_chainOf_13 rfl (lv_at hl 2 rfl) ?_
  refine lv_aload_n hx hb dX7_chainOf_14 rfl (lv_at hl 1 rfl) ?_
  refine k_ini (mc := 12) (ms := 78) hx hb hml hown hts hl.1 hP hK hN hS (c_village_init H.size pa (b4 0) (fun q h => hA q (Nat.le_trans hS.1 h)) hD) eX7_37 rfl rfl (Nat.le_of_ble_eq_true rfl) ⟨Nat.le_of_ble_eq_true rfl, Nat.le_of_ble_eq_true rfl⟩ ⟨rfl, rfl⟩ ⟨Nat.le_of_ble_eq_true rfl, Nat.le_of_ble_eq_true rfl⟩ dX7_chainOf_15 (fun ws5 H locs hp hD hP hS => ?_)
  obtain ⟨b5, hb5, rfl⟩ := hp
  rw [← hb5]
  refine W.widen (k := 78) (n := 546) (by omega) (by omega) ?_
  refine lv_astore_n (lv' := [(2, .ref (b5 0)), (3, .int 5), (0, .ref pa), (1, .int 5)]) hx hb dX7_chainOf_18 rfl hl (by decide) rfl (fun ls hl => ?_)
  refine lv_iinc (v := 6) (lv' := [(3, .int 6), (2, .ref (b5 0)), (0, .ref pa), (1, .int 5)]) hx hb dX7_chainOf_19 hl (k := 1) rfl (by decide) (by decide) rfl (fun ls hl => ?_)
  refine lv_goto (tgt := 4) hx hb dX7_chainOf_22 (by decide) ?_
  refine lv_iload_n hx hb dX7_chainOf_4 rfl (lv_at hl 0 rfl) ?_
  refine lv_iload_n hx hb dX7_chainOf_5 rfl (lv_at hl 3 rfl) ?_
  refine lv_icmp_gt (tgt := 25) hx hb dX7_chainOf_6 (by decide) (fun _ => ?_) (fun h => absurd (by decide) h)
  refine lv_aload_n hx hb dX7_chainOf_25 rfl (lv_at hl 1 rfl) ?_
  exact W.aret hx hb hr (Or.inl ⟨_, rfl⟩) (Or.inr ⟨_, rfl⟩) (fun t ht hW => ⟨⟨_, _, rfl, ⟨b0, b1, b2, b3, b4, b5, rfl, rfl⟩, hD, kB.of hP hK hN ht hW⟩, hS.F ht⟩) hS.2.2 dX7_chainOf_26 hlocks
end CCHAIN
