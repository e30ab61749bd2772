section ROW3
variable {l : Launch} {dC : Nat → ClassId} {dI : Nat → Nat → Nat} {cI : ClassId} {ws ws' : va_W} {o a n e0 e1 o2 a2 n2 e2 e3 : Nat} {f g : Nat → Int32} {A : Nat → Prop}
theorem rne2 (ho : ws[e2]? = some (o2, .inr (2, [.ref a2]))) (ha : ws[e1]? = some (a, .inl (cI, n, .inl f))) : e2 ≠ e1 := fun q => by
  subst q
  rw [ho] at ha
  cases ha
set_option maxHeartbeats 4000000 in
set_option maxRecDepth 100000 in
theorem c_rc (ho : ws[e0]? = some (o, .inr (2, [.ref a]))) (ha : ws[e1]? = some (a, .inl (cI, n, .inl f))) (hn : n < 2 ^ 31) (ho2 : ws[e2]? = some (o2, .inr (2, [.ref a2]))) (ha2 : ws[e3]? = some (a2, .inl (cI, n2, .inl g))) (hn2 : n2 < 2 ^ 31) (h31 : e3 ≠ e1) (hD : va_D A ws) (hset : ws.set e1 (a, .inl (cI, n, .inl (rc (min n n2) g f))) = ws') : Met l yX2_copyFrom (.code yX2_copyFrom cX2_copyFrom 3 none :: kT) ({ frames := 0, cells := 0, slots := 0, locals := 0 } : Room) (va_Pc [.ref o, .ref o2] (kB (dC, dI) [(cI, .int)] ws)) (kQ none (kB (dC, dI) [(cI, .int)] ws') A) 0 0 A := by
  refine kMet (by decide) (fun p e s m args below meth c ls hx hb hr hml hts hown hlocks hname hargs hB hl => ?_) (Nat.le_of_ble_eq_true rfl)
  obtain ⟨hP, hK, hN⟩ := hB
  have hl : lv_has ls 3 [(0, .ref o), (1, .ref o2)] := hl
  have hS : va_S A s.heap s.heap [] := va_S.rf
  have hne := rne ho ha
  have hne2 := rne2 ho2 ha
  refine lv_iconst (v := 0) hx hb dX2_copyFrom_0 (by decide) ?_
  refine lv_istore_n (lv' := [(2, .int (nI 0)), (0, .ref o), (1, .ref o2)]) hx hb dX2_copyFrom_1 rfl hl (by decide) rfl (fun ls hl => ?_)
  have loop : ∀ (k i : Nat), i + k = min n n2 → ∀ (H : Heap) (locs : List Loc) (ls : Array Slot), va_P (dC, dI) vwCl (ws.set e1 (a, .inl (cI, n, .inl (rc i g f)))) H → va_S A s.heap H locs → lv_has ls 3 [(2, .int (nI i)), (0, .ref o), (1, .ref o2)] → W p l e ({ frames := 0, cells := 0, slots := 0, locals := 0 } : Room) s m args below meth c H locs 0 0 (MQ below (kQ none (kB (dC, dI) [(cI, .int)] ws') A) args s 0 0 A) (F0 m 2 ls []) := by
    intro k
    induction k with
    | zero =>
      intro i hi H locs ls hP hS hl
      have e9 : i = min n n2 := by omega
      refine lv_iload_n hx hb dX2_copyFrom_2 rfl (lv_at hl 0 rfl) ?_
      refine lv_aload_n hx hb dX2_copyFrom_3 rfl (lv_at hl 1 rfl) ?_
      refine k_get (q0 := e0) (ci := 2) (v := .ref a) hx hb hts inT_X2 hown hK hP (rset_ne ho hne) rfl 0 (by decide) rfl kX2_13 rfl dX2_copyFrom_4 ?_
      refine va_alen (v := nI n) hx hb hK hP e1 0 (rset_at ha) rfl rfl dX2_copyFrom_7 ?_
      refine lv_icmp_ge (tgt := 38) hx hb dX2_copyFrom_8 (by decide) (fun _ => ?_) (fun h1 => ?_)
      · rw [e9, hset] at hP
        exact W.vret hx hb hr (fun t ht hW => ⟨rfl, kB.of hP hK hN ht hW, hS.F ht⟩) hS.2.2 dX2_copyFrom_38 hlocks
      · have h2 : i < n := knI_nle h1 (by omega) hn
        refine lv_iload_n hx hb dX2_copyFrom_11 rfl (lv_at hl 0 rfl) ?_
        refine lv_aload_n hx hb dX2_copyFrom_12 rfl (lv_at hl 2 rfl) ?_
        refine k_get (q0 := e2) (ci := 2) (v := .ref a2) hx hb hts inT_X2 hown hK hP (rset_ne ho2 hne2) rfl 0 (by decide) rfl kX2_13 rfl dX2_copyFrom_13 ?_
        refine va_alen (v := nI n2) hx hb hK hP e3 0 (rset_ne ha2 h31) rfl rfl dX2_copyFrom_16 ?_
        refine lv_icmp_ge (tgt := 38) hx hb dX2_copyFrom_17 (by decide) (fun _ => ?_) (fun h => absurd (nI_le (by omega) (by omega)) h)
        rw [e9, hset] at hP
        exact W.vret hx hb hr (fun t ht hW => ⟨rfl, kB.of hP hK hN ht hW, hS.F ht⟩) hS.2.2 dX2_copyFrom_38 hlocks
    | succ k ih =>
      intro i hi H locs ls hP hS hl
      refine lv_iload_n hx hb dX2_copyFrom_2 rfl (lv_at hl 0 rfl) ?_
      refine lv_aload_n hx hb dX2_copyFrom_3 rfl (lv_at hl 1 rfl) ?_
      refine k_get (q0 := e0) (ci := 2) (v := .ref a) hx hb hts inT_X2 hown hK hP (rset_ne ho hne) rfl 0 (by decide) rfl kX2_13 rfl dX2_copyFrom_4 ?_
      refine va_alen (v := nI n) hx hb hK hP e1 0 (rset_at ha) rfl rfl dX2_copyFrom_7 ?_
      refine lv_icmp_ge (tgt := 38) hx hb dX2_copyFrom_8 (by decide) (fun h => absurd h (nI_ge (by omega) (by omega))) (fun _ => ?_)
      refine lv_iload_n hx hb dX2_copyFrom_11 rfl (lv_at hl 0 rfl) ?_
      refine lv_aload_n hx hb dX2_copyFrom_12 rfl (lv_at hl 2 rfl) ?_
      refine k_get (q0 := e2) (ci := 2) (v := .ref a2) hx hb hts inT_X2 hown hK hP (rset_ne ho2 hne2) rfl 0 (by decide) rfl kX2_13 rfl dX2_copyFrom_13 ?_
      refine va_alen (v := nI n2) hx hb hK hP e3 0 (rset_ne ha2 h31) rfl rfl dX2_copyFrom_16 ?_
      refine lv_icmp_ge (tgt := 38) hx hb dX2_copyFrom_17 (by decide) (fun h => absurd h (nI_ge (by omega) (by omega))) (fun _ => ?_)
      refine lv_aload_n hx hb dX2_copyFrom_20 rfl (lv_at hl 1 rfl) ?_
      refine k_get (q0 := e0) (ci := 2) (v := .ref a) hx hb hts inT_X2 hown hK hP (rset_ne ho hne) rfl 0 (by decide) rfl kX2_13 rfl dX2_copyFrom_21 ?_
      refine lv_iload_n hx hb dX2_copyFrom_24 rfl (lv_at hl 0 rfl) ?_
      refine lv_aload_n hx hb dX2_copyFrom_25 rfl (lv_at hl 2 rfl) ?_
      refine k_get (q0 := e2) (ci := 2) (v := .ref a2) hx hb hts inT_X2 hown hK hP (rset_ne ho2 hne2) rfl 0 (by decide) rfl kX2_13 rfl dX2_copyFrom_26 ?_
      refine lv_iload_n hx hb dX2_copyFrom_29 rfl (lv_at hl 0 rfl) ?_
      refine kn_iald (f := g) (v := g i) hx hb hK hP e3 (rset_ne ha2 h31) i rfl (by omega) hn2 rfl dX2_copyFrom_30 ?_
      refine kn_iast (f := rc i g f) (ws' := ws.set e1 (a, .inl (cI, n, .inl (rc (i + 1) g f)))) hx hb hK hP (rset_D hD ha) hS e1 (rset_at ha) i rfl (by omega) hn (by rw [List.set_set, ← rc_step]) dX2_copyFrom_31 (fun H locs hP hS => ?_)
      refine lv_iinc (v := nI (i + 1)) (lv' := [(2, .int (nI (i + 1))), (0, .ref o), (1, .ref o2)]) hx hb dX2_copyFrom_32 hl (k := 0) rfl (nI_add _ _) (by decide) rfl (fun ls hl => ?_)
      refine lv_goto (tgt := 2) hx hb dX2_copyFrom_35 (by decide) ?_
      exact ih (i + 1) (by omega) H locs ls hP hS hl
  exact loop (min n n2) 0 (by omega) _ _ _ (by rw [rc_zero, rset_self ha]; exact hP) hS hl
end ROW3
