/-- the first i from g, the others from f -/
def rc (i : Nat) (g f : Nat → Int32) : Nat → Int32 := fun k => if k < i then g k else f k
theorem rc_zero (g f : Nat → Int32) : rc 0 g f = f := by
  funext k
  unfold rc
  rw [if_neg (by omega)]
theorem rc_step (i : Nat) (g f : Nat → Int32) : upd (rc i g f) i (g i) = rc (i + 1) g f := by
  funext k
  by_cases e : k = i
  · subst e
    rw [pk_us]
    unfold rc
    rw [if_pos (by omega)]
  · rw [pk_un e]
    unfold rc
    by_cases h : k < i
    · rw [if_pos h, if_pos (by omega)]
    · rw [if_neg h, if_neg (by omega)]
section ROW2
variable {l : Launch} {dC : Nat → ClassId} {dI : Nat → Nat → Nat} {cI : ClassId} {ws ws' : va_W} {o a n e0 e1 o2 a2 n2 e2 e3 : Nat} {f g : Nat → Int32} {A : Nat → Prop}
theorem rset_ne {x z : Nat × va_E} (h0 : ws[e0]? = some z) (hne : e0 ≠ e1) : (ws.set e1 x)[e0]? = some z := by
  rw [List.getElem?_set_ne (Ne.symm hne)]
  exact h0
theorem rset_at {x y : Nat × va_E} (h : ws[e1]? = some y) : (ws.set e1 x)[e1]? = some x := by
  have h1 := (List.getElem?_eq_some_iff.mp h).1
  rw [List.getElem?_set_self h1]
theorem rset_D {x y : va_E} (hD : va_D A ws) (h : ws[e1]? = some (a, y)) : va_D A (ws.set e1 (a, x)) := by
  have key : ∀ (k : Nat) (q : Nat × va_E), (ws.set e1 (a, x))[k]? = some q → ∃ q', ws[k]? = some q' ∧ q'.1 = q.1 := by
    intro k q hk
    by_cases e : k = e1
    · subst e
      rw [rset_at h] at hk
      cases hk
      exact ⟨_, h, rfl⟩
    · rw [List.getElem?_set_ne (Ne.symm e)] at hk
      exact ⟨q, hk, rfl⟩
  refine ⟨fun i j p q hp hq hpq => ?_, fun k q hk => ?_⟩
  · obtain ⟨p', h1, e1'⟩ := key i p hp
    obtain ⟨q', h2, e2'⟩ := key j q hq
    exact hD.1 i j p' q' h1 h2 (by rw [e1', e2', hpq])
  · obtain ⟨q', h1, e1'⟩ := key k q hk
    rw [← e1']
    exact hD.2 k q' h1
theorem rne (ho : ws[e0]? = some (o, .inr (2, [.ref a]))) (ha : ws[e1]? = some (a, .inl (cI, n, .inl f))) : e0 ≠ e1 := fun q => by
  subst q
  rw [ho] at ha
  cases ha
set_option maxHeartbeats 4000000 in
set_option maxRecDepth 100000 in
theorem c_ri (ho : ws[e0]? = some (o, .inr (2, [.ref a]))) (ha : ws[e1]? = some (a, .inl (cI, n, .inl f))) (hn : n < 2 ^ 31) (hD : va_D A ws) (i x : Int32) (hset : ws.set e1 (a, .inl (cI, n, .inl (rs n f i (rg n f i + x)))) = ws') : Met l yX2_increase (.code yX2_increase cX2_increase 3 none :: kT) ({ frames := 1, cells := 0, slots := 0, locals := 22 } : Room) (va_Pc [.ref o, .int i, .int x] (kB (dC, dI) [(cI, .int)] ws)) (kQ none (kB (dC, dI) [(cI, .int)] ws') A) 0 0 A := by
  refine kMet (by decide) (fun p e s m args below meth c ls hx hb hr hml hts hown hlocks hname hargs hB hl => ?_) (Nat.le_of_ble_eq_true rfl)
  obtain ⟨hP, hK, hN⟩ := hB
  have hl : lv_has ls 3 [(0, .ref o), (1, .int i), (2, .int x)] := hl
  have hS : va_S A s.heap s.heap [] := va_S.rf
  refine lv_aload_n hx hb dX2_increase_0 rfl (lv_at hl 0 rfl) ?_
  refine lv_iload_n hx hb dX2_increase_1 rfl (lv_at hl 1 rfl) ?_
  refine lv_aload_n hx hb dX2_increase_2 rfl (lv_at hl 0 rfl) ?_
  refine lv_iload_n hx hb dX2_increase_3 rfl (lv_at hl 1 rfl) ?_
  refine k_rV (v := .int (rg n f i)) (As := [.int i]) (rest := [.int i, .ref o]) hx hb hml hown hts hl.1 hP hK hN (c_rg ho ha hn i) eX2_19 (ci := 2) (q0 := e0) rfl rfl ho rfl rfl (Nat.le_of_ble_eq_true rfl) ⟨Nat.le_of_ble_eq_true rfl, Nat.le_of_ble_eq_true rfl⟩ ⟨rfl, rfl⟩ ⟨Nat.le_of_ble_eq_true rfl, Nat.le_of_ble_eq_true rfl⟩ dX2_increase_4 ?_
  refine lv_iload_n hx hb dX2_increase_7 rfl (lv_at hl 2 rfl) ?_
  refine lv_iadd hx hb dX2_increase_8 ?_
  refine k_wV (r := none) (As := [.int i, .int (rg n f i + x)]) (rest := []) hx hb hml hown hts hl.1 hP hK hN hS (c_rs ho ha hn hD i (rg n f i + x) hset) eX2_23 (ci := 2) (q0 := e0) rfl rfl ho rfl rfl (Nat.le_of_ble_eq_true rfl) ⟨Nat.le_of_ble_eq_true rfl, Nat.le_of_ble_eq_true rfl⟩ ⟨rfl, rfl⟩ ⟨Nat.le_of_ble_eq_true rfl, Nat.le_of_ble_eq_true rfl⟩ dX2_increase_9 (fun H locs hP hS => ?_)
  exact W.vret hx hb hr (fun t ht hW => ⟨rfl, kB.of hP hK hN ht hW, hS.F ht⟩) hS.2.2 dX2_increase_12 hlocks
set_option maxHeartbeats 4000000 in
set_option maxRecDepth 100000 in
theorem c_rf (ho : ws[e0]? = some (o, .inr (2, [.ref a]))) (ha : ws[e1]? = some (a, .inl (cI, n, .inl f))) (hn : n < 2 ^ 31) (hD : va_D A ws) (x : Int32) (hset : ws.set e1 (a, .inl (cI, n, .inl (rc n (fun _ => x) f))) = ws') : Met l yX2_fill (.code yX2_fill cX2_fill 3 none :: kT) ({ frames := 0, cells := 0, slots := 0, locals := 0 } : Room) (va_Pc [.ref o, .int x] (kB (dC, dI) [(cI, .int)] ws)) (kQ none (kB (dC, dI) [(cI, .int)] ws') A) 0 0 A := by
  refine kMet (by decide) (fun p e s m args below meth c ls hx hb hr hml hts hown hlocks hname hargs hB hl => ?_) (Nat.le_of_ble_eq_true rfl)
  obtain ⟨hP, hK, hN⟩ := hB
  have hl : lv_has ls 3 [(0, .ref o), (1, .int x)] := hl
  have hS : va_S A s.heap s.heap [] := va_S.rf
  have hne := rne ho ha
  refine lv_iconst (v := 0) hx hb dX2_fill_0 (by decide) ?_
  refine lv_istore_n (lv' := [(2, .int (nI 0)), (0, .ref o), (1, .int x)]) hx hb dX2_fill_1 rfl hl (by decide) rfl (fun ls hl => ?_)
  have loop : ∀ (k i : Nat), i + k = n → ∀ (H : Heap) (locs : List Loc) (ls : Array Slot), va_P (dC, dI) vwCl (ws.set e1 (a, .inl (cI, n, .inl (rc i (fun _ => x) f)))) H → va_S A s.heap H locs → lv_has ls 3 [(2, .int (nI i)), (0, .ref o), (1, .int x)] → W p l e ({ frames := 0, cells := 0, slots := 0, locals := 0 } : Room) s m args below meth c H locs 0 0 (MQ below (kQ none (kB (dC, dI) [(cI, .int)] ws') A) args s 0 0 A) (F0 m 2 ls []) := by
    intro k
    induction k with
    | zero =>
      intro i hi H locs ls hP hS hl
      refine lv_iload_n hx hb dX2_fill_2 rfl (lv_at hl 0 rfl) ?_
      refine lv_aload_n hx hb dX2_fill_3 rfl (lv_at hl 1 rfl) ?_
      refine k_get (q0 := e0) (ci := 2) (v := .ref a) hx hb hts inT_X2 hown hK hP (rset_ne ho hne) rfl 0 (by decide) rfl kX2_13 rfl dX2_fill_4 ?_
      refine va_alen (v := nI n) hx hb hK hP e1 0 (rset_at ha) rfl rfl dX2_fill_7 ?_
      refine lv_icmp_ge (tgt := 24) hx hb dX2_fill_8 (by decide) (fun _ => ?_) (fun h => absurd (nI_le (by omega) (by omega)) h)
      have e9 : i = n := by omega
      subst e9
      rw [hset] at hP
      exact W.vret hx hb hr (fun t ht hW => ⟨rfl, kB.of hP hK hN ht hW, hS.F ht⟩) hS.2.2 dX2_fill_24 hlocks
    | succ k ih =>
      intro i hi H locs ls hP hS hl
      refine lv_iload_n hx hb dX2_fill_2 rfl (lv_at hl 0 rfl) ?_
      refine lv_aload_n hx hb dX2_fill_3 rfl (lv_at hl 1 rfl) ?_
      refine k_get (q0 := e0) (ci := 2) (v := .ref a) hx hb hts inT_X2 hown hK hP (rset_ne ho hne) rfl 0 (by decide) rfl kX2_13 rfl dX2_fill_4 ?_
      refine va_alen (v := nI n) hx hb hK hP e1 0 (rset_at ha) rfl rfl dX2_fill_7 ?_
      refine lv_icmp_ge (tgt := 24) hx hb dX2_fill_8 (by decide) (fun h => absurd h (nI_ge (by omega) (by omega))) (fun _ => ?_)
      refine lv_aload_n hx hb dX2_fill_11 rfl (lv_at hl 1 rfl) ?_
      refine k_get (q0 := e0) (ci := 2) (v := .ref a) hx hb hts inT_X2 hown hK hP (rset_ne ho hne) rfl 0 (by decide) rfl kX2_13 rfl dX2_fill_12 ?_
      refine lv_iload_n hx hb dX2_fill_15 rfl (lv_at hl 0 rfl) ?_
      refine lv_iload_n hx hb dX2_fill_16 rfl (lv_at hl 2 rfl) ?_
      refine kn_iast (f := rc i (fun _ => x) f) (ws' := ws.set e1 (a, .inl (cI, n, .inl (rc (i + 1) (fun _ => x) f)))) hx hb hK hP (rset_D hD ha) hS e1 (rset_at ha) i rfl (by omega) hn (by rw [List.set_set, ← rc_step]) dX2_fill_17 (fun H locs hP hS => ?_)
      refine lv_iinc (v := nI (i + 1)) (lv' := [(2, .int (nI (i + 1))), (0, .ref o), (1, .int x)]) hx hb dX2_fill_18 hl (k := 0) rfl (nI_add _ _) (by decide) rfl (fun ls hl => ?_)
      refine lv_goto (tgt := 2) hx hb dX2_fill_21 (by decide) ?_
      exact ih (i + 1) (by omega) H locs ls hP hS hl
  exact loop n 0 (by omega) _ _ _ (by rw [rc_zero, rset_self ha]; exact hP) hS hl
end ROW2
