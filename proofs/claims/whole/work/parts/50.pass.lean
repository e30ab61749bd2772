section CLS
variable {l : Launch} {dC : Nat → ClassId} {dI : Nat → Nat → Nat} {cI : ClassId} {ad : Nat → Nat} {ML : Nat → Nat → Int32} {MS : Nat → Int32} {PL : Nat → Nat → Nat → Int32} {PS : Nat → Nat → Int32} {VL : Nat → Nat → Nat → Int32} {VS : Nat → Nat → Int32} {LL : Int64} {vn wn pn : Nat} {vl wl pl : Nat → Nat → Int32} {vs wz ps : Nat → Int32}
-- X6_passHour
def v_passHour_k3 (vl : Nat → Nat → Int32) (vs : Nat → Int32) (pl : Nat → Nat → Int32) (ps : Nat → Int32) (vl1 : Nat → Int32) (v2 : Int32) : (Nat → Int32) × (Nat → Int32) × (Nat → Int32) × Int32 × Int32 := ((v_passWeather (va_up vl 1 vl1) vs pl ps v2).1, (v_passWeather (va_up vl 1 vl1) vs pl ps v2).2.1, (v_passWeather (va_up vl 1 vl1) vs pl ps v2).2.2.1, (v_passWeather (va_up vl 1 vl1) vs pl ps v2).2.2.2.1, (v_passWeather (va_up vl 1 vl1) vs pl ps v2).2.2.2.2)
def v_passHour_L3 (vl : Nat → Nat → Int32) (vs : Nat → Int32) (pl : Nat → Nat → Int32) (ps : Nat → Int32) (v1 : Int32) (v2 : Int32) : Nat → Nat → (Nat → Int32) → (Nat → Int32)
  | 0, i, vl1 => vl1
  | n + 1, i, vl1 => v_passHour_L3 vl vs pl ps v1 v2 n (i + 1) (v_clearAt (va_up vl 1 vl1) vs pl ps (u_choose (va_up vl 1 vl1) vs pl ps v1 v2))
def v_passHour (vl : Nat → Nat → Int32) (vs : Nat → Int32) (pl : Nat → Nat → Int32) (ps : Nat → Int32) (v1 : Int32) (v2 : Int32) (v3 : Int32) : (Nat → Int32) × (Nat → Int32) × (Nat → Int32) × Int32 × Int32 := v_passHour_k3 vl vs pl ps (v_passHour_L3 vl vs pl ps v1 v2 v3.toNatClampNeg 0 (vl 1)) v2
set_option maxHeartbeats 4000000 in
set_option maxRecDepth 100000 in
theorem c_v_passHour (hI : kInj ad 183) (hv : vn < 9) (hvl : VL vn = vl) (hvs : VS vn = vs) (hpl : PL 0 = pl) (hps : PS 0 = ps) (v1 : Int32) (v2 : Int32) (v3 : Int32) : Met l yX6_passHour (.code yX6_passHour cX6_passHour 5 none :: kT) ({ frames := 5, cells := 0, slots := 0, locals := 120 } : Room) (va_Pc [.ref (ad (66 + 13 * vn)), .int v1, .int v2, .int v3] (kB (dC, dI) [(cI, .int)] (cws cI ad ML MS PL PS VL VS LL))) (kQ none (kB (dC, dI) [(cI, .int)] (cws cI ad ML MS PL PS (va_up VL vn (va_up (va_up (va_up vl 1 ((v_passHour vl vs pl ps v1 v2 v3).1)) 5 ((v_passHour vl vs pl ps v1 v2 v3).2.1)) 6 ((v_passHour vl vs pl ps v1 v2 v3).2.2.1))) (va_up VS vn (va_up (va_up vs 10 ((v_passHour vl vs pl ps v1 v2 v3).2.2.2.1)) 11 ((v_passHour vl vs pl ps v1 v2 v3).2.2.2.2))) LL)) (kAA ad 183)) 0 0 (kAA ad 183) := by
  refine kMet (by decide) (fun p e s m args below meth c ls hx hb hr hml hts hown hlocks hname hargs hB hl => ?_) (Nat.le_of_ble_eq_true rfl)
  obtain ⟨hP, hK, hN⟩ := hB
  have hl : lv_has ls 5 [(0, .ref (ad (66 + 13 * vn))), (1, .int v1), (2, .int v2), (3, .int v3)] := hl
  have hS : va_S (kAA ad 183) s.heap s.heap [] := va_S.rf
  refine lv_iconst (v := 0) hx hb dX6_passHour_0 (by decide) ?_
  refine lv_istore (lv' := [(4, .int 0), (0, .ref (ad (66 + 13 * vn))), (1, .int v1), (2, .int v2), (3, .int v3)]) hx hb dX6_passHour_1 hl (by decide) rfl (fun ls hl => ?_)
  have rest_3 : ∀ (vl1_3 : Nat → Int32), ∀ (H : Heap) (locs : List Loc) (ls : Array Slot), va_P (dC, dI) vwCl (cws cI ad ML MS PL PS (va_up VL vn (va_up vl 1 vl1_3)) VS LL) H → va_S (kAA ad 183) s.heap H locs → lv_has ls 5 [(0, .ref (ad (66 + 13 * vn))), (2, .int v2)] → (v_passHour vl vs pl ps v1 v2 v3) = v_passHour_k3 vl vs pl ps vl1_3 v2 → W p l e ({ frames := 5, cells := 0, slots := 0, locals := 120 } : Room) s m args below meth c H locs 0 0 (MQ below (kQ none (kB (dC, dI) [(cI, .int)] (cws cI ad ML MS PL PS (va_up VL vn (va_up (va_up (va_up vl 1 ((v_passHour vl vs pl ps v1 v2 v3).1)) 5 ((v_passHour vl vs pl ps v1 v2 v3).2.1)) 6 ((v_passHour vl vs pl ps v1 v2 v3).2.2.1))) (va_up VS vn (va_up (va_up vs 10 ((v_passHour vl vs pl ps v1 v2 v3).2.2.2.1)) 11 ((v_passHour vl vs pl ps v1 v2 v3).2.2.2.2))) LL)) (kAA ad 183)) args s 0 0 (kAA ad 183)) (F0 m 25 ls []) := by
    intro vl1_3 H locs ls hP hS hl  hF_3
    refine lv_aload_n hx hb dX6_passHour_25 rfl (lv_at hl 0 rfl) ?_
    refine lv_iload_n hx hb dX6_passHour_26 rfl (lv_at hl 1 rfl) ?_
    refine k_wV (r := none) (As := [.int v2]) (rest := []) hx hb hml hown hts hl.1 hP hK hN hS (c_v_passWeather (VL := (va_up VL vn (va_up vl 1 vl1_3))) (vl := (va_up vl 1 vl1_3)) (vs := vs) hI hv va_sf hvs hpl hps v2) eX6_133 (ci := 5) (q0 := 66 + 13 * vn) rfl rfl (xV (v := vn) hv hvs) rfl rfl (Nat.le_of_ble_eq_true rfl) ⟨Nat.le_of_ble_eq_true rfl, Nat.le_of_ble_eq_true rfl⟩ ⟨rfl, rfl⟩ ⟨Nat.le_of_ble_eq_true rfl, Nat.le_of_ble_eq_true rfl⟩ dX6_passHour_27 (fun H locs hP hS => ?_)
    obtain ⟨r_2, hr_2⟩ : ∃ z, z = (v_passWeather (va_up vl 1 vl1_3) vs pl ps v2) := ⟨_, rfl⟩
    rw [← hr_2] at hP
    have hP : va_P (dC, dI) vwCl (cws cI ad ML MS PL PS (va_up VL vn (va_up (va_up (va_up vl 1 r_2.1) 5 r_2.2.1) 6 r_2.2.2.1)) (va_up VS vn (va_up (va_up vs 10 r_2.2.2.2.1) 11 r_2.2.2.2.2)) LL) H := (cws_cg rfl rfl rfl rfl (va_trf rfl (va_tr (va_tr (va_uu _ _ _ _) rfl) rfl) (va_uu _ _ _ _)) (va_trf rfl rfl rfl) hP)
    have hE : (v_passHour vl vs pl ps v1 v2 v3) = (r_2.1, r_2.2.1, r_2.2.2.1, r_2.2.2.2.1, r_2.2.2.2.2) := by subst hr_2; exact hF_3.trans (by rw [v_passHour_k3])
    exact W.vret hx hb hr (fun t ht hW => ⟨rfl, by rw [hE]; exact kB.of (ws := cws cI ad ML MS PL PS (va_up VL vn (va_up (va_up (va_up vl 1 r_2.1) 5 r_2.2.1) 6 r_2.2.2.1)) (va_up VS vn (va_up (va_up vs 10 r_2.2.2.2.1) 11 r_2.2.2.2.2)) LL) hP hK hN ht hW, hS.F ht⟩) hS.2.2 dX6_passHour_30 hlocks
  have hN_3 : v3.toNatClampNeg < 2 ^ 31 := kcl_lt _
  have loop_3 : ∀ (n_3 i_3 : Nat) (vl1_3 : Nat → Int32), i_3 + n_3 = v3.toNatClampNeg → ∀ (H : Heap) (locs : List Loc) (ls : Array Slot), va_P (dC, dI) vwCl (cws cI ad ML MS PL PS (va_up VL vn (va_up vl 1 vl1_3)) VS LL) H → va_S (kAA ad 183) s.heap H locs → lv_has ls 5 [(0, .ref (ad (66 + 13 * vn))), (1, .int v1), (2, .int v2), (3, .int v3), (4, .int (nI i_3))] → (∀ (H : Heap) (locs : List Loc) (ls : Array Slot), va_P (dC, dI) vwCl (cws cI ad ML MS PL PS (va_up VL vn (va_up vl 1 (v_passHour_L3 vl vs pl ps v1 v2 n_3 i_3 vl1_3))) VS LL) H → va_S (kAA ad 183) s.heap H locs → lv_has ls 5 [(0, .ref (ad (66 + 13 * vn))), (2, .int v2)] → W p l e ({ frames := 5, cells := 0, slots := 0, locals := 120 } : Room) s m args below meth c H locs 0 0 (MQ below (kQ none (kB (dC, dI) [(cI, .int)] (cws cI ad ML MS PL PS (va_up VL vn (va_up (va_up (va_up vl 1 ((v_passHour vl vs pl ps v1 v2 v3).1)) 5 ((v_passHour vl vs pl ps v1 v2 v3).2.1)) 6 ((v_passHour vl vs pl ps v1 v2 v3).2.2.1))) (va_up VS vn (va_up (va_up vs 10 ((v_passHour vl vs pl ps v1 v2 v3).2.2.2.1)) 11 ((v_passHour vl vs pl ps v1 v2 v3).2.2.2.2))) LL)) (kAA ad 183)) args s 0 0 (kAA ad 183)) (F0 m 25 ls [])) → W p l e ({ frames := 5, cells := 0, slots := 0, locals := 120 } : Room) s m args below meth c H locs 0 0 (MQ below (kQ none (kB (dC, dI) [(cI, .int)] (cws cI ad ML MS PL PS (va_up VL vn (va_up (va_up (va_up vl 1 ((v_passHour vl vs pl ps v1 v2 v3).1)) 5 ((v_passHour vl vs pl ps v1 v2 v3).2.1)) 6 ((v_passHour vl vs pl ps v1 v2 v3).2.2.1))) (va_up VS vn (va_up (va_up vs 10 ((v_passHour vl vs pl ps v1 v2 v3).2.2.2.1)) 11 ((v_passHour vl vs pl ps v1 v2 v3).2.2.2.2))) LL)) (kAA ad 183)) args s 0 0 (kAA ad 183)) (F0 m 3 ls []) := by
    intro n_3
    induction n_3 with
    | zero =>
      intro i_3 vl1_3 hin_3 H locs ls hP hS hl  hk_3
      refine lv_iload hx hb dX6_passHour_3 (lv_at hl 4 rfl) ?_
      refine lv_iload_n hx hb dX6_passHour_5 rfl (lv_at hl 3 rfl) ?_
      refine lv_icmp_ge (tgt := 25) hx hb dX6_passHour_6 (by decide) (fun _ => ?_) (fun c_3 => absurd (kct_ge (N := v3.toNatClampNeg) rfl (by omega) (by omega)) c_3)
      have hL_3 : (v_passHour_L3 vl vs pl ps v1 v2 0 i_3 vl1_3) = vl1_3 := by rw [v_passHour_L3.eq_1]
      try rw [hL_3] at hk_3
      exact hk_3 _ _ _ hP hS (lv_sub hl [0, 2] rfl) 
    | succ n_3 ih_3 =>
      intro i_3 vl1_3 hin_3 H locs ls hP hS hl  hk_3
      refine lv_iload hx hb dX6_passHour_3 (lv_at hl 4 rfl) ?_
      refine lv_iload_n hx hb dX6_passHour_5 rfl (lv_at hl 3 rfl) ?_
      refine lv_icmp_ge (tgt := 25) hx hb dX6_passHour_6 (by decide) (fun c_4 => absurd c_4 (kct_lt (N := v3.toNatClampNeg) rfl (by omega))) (fun _ => ?_)
      refine lv_aload_n hx hb dX6_passHour_9 rfl (lv_at hl 0 rfl) ?_
      refine lv_aload_n hx hb dX6_passHour_10 rfl (lv_at hl 0 rfl) ?_
      refine lv_iload_n hx hb dX6_passHour_11 rfl (lv_at hl 1 rfl) ?_
      refine lv_iload_n hx hb dX6_passHour_12 rfl (lv_at hl 2 rfl) ?_
      refine k_rS (v := .int (u_choose (va_up vl 1 vl1_3) vs pl ps v1 v2)) (As := [.ref (ad (66 + 13 * vn)), .int v1, .int v2]) (rest := [.ref (ad (66 + 13 * vn))]) hx hb hml hown hts hl.1 kB.blind (fun U hU hW => kB.of hP hK hN hU hW) (c_u_choose (VL := (va_up VL vn (va_up vl 1 vl1_3))) (vl := (va_up vl 1 vl1_3)) (vs := vs) hI hv va_sf hvs hpl hps v1 v2) eX6_124 rfl rfl (Nat.le_of_ble_eq_true rfl) ⟨Nat.le_of_ble_eq_true rfl, Nat.le_of_ble_eq_true rfl⟩ ⟨rfl, rfl⟩ ⟨Nat.le_of_ble_eq_true rfl, Nat.le_of_ble_eq_true rfl⟩ dX6_passHour_13 ?_
      refine k_wV (r := none) (As := [.int (u_choose (va_up vl 1 vl1_3) vs pl ps v1 v2)]) (rest := []) hx hb hml hown hts hl.1 hP hK hN hS (c_v_clearAt (VL := (va_up VL vn (va_up vl 1 vl1_3))) (vl := (va_up vl 1 vl1_3)) (vs := vs) hI hv va_sf hvs hpl hps (u_choose (va_up vl 1 vl1_3) vs pl ps v1 v2)) eX6_130 (ci := 5) (q0 := 66 + 13 * vn) rfl rfl (xV (v := vn) hv hvs) rfl rfl (Nat.le_of_ble_eq_true rfl) ⟨Nat.le_of_ble_eq_true rfl, Nat.le_of_ble_eq_true rfl⟩ ⟨rfl, rfl⟩ ⟨Nat.le_of_ble_eq_true rfl, Nat.le_of_ble_eq_true rfl⟩ dX6_passHour_16 (fun H locs hP hS => ?_)
      obtain ⟨r_5, hr_5⟩ : ∃ z, z = (v_clearAt (va_up vl 1 vl1_3) vs pl ps (u_choose (va_up vl 1 vl1_3) vs pl ps v1 v2)) := ⟨_, rfl⟩
      rw [← hr_5] at hP
      have hP : va_P (dC, dI) vwCl (cws cI ad ML MS PL PS (va_up VL vn (va_up vl 1 r_5)) VS LL) H := (cws_cg rfl rfl rfl rfl (va_trf rfl (va_uu _ _ _ _) (va_uu _ _ _ _)) rfl hP)
      refine lv_iinc (v := (nI (i_3 + 1))) (lv' := [(4, .int (nI (i_3 + 1))), (0, .ref (ad (66 + 13 * vn))), (1, .int v1), (2, .int v2), (3, .int v3)]) hx hb dX6_passHour_19 hl (k := 4) rfl (nI_add _ _) (by decide) rfl (fun ls hl => ?_)
      refine lv_goto (tgt := 3) hx hb dX6_passHour_22 (by decide) ?_
      have hL_3 : (v_passHour_L3 vl vs pl ps v1 v2 (n_3 + 1) i_3 vl1_3) = (v_passHour_L3 vl vs pl ps v1 v2 n_3 (i_3 + 1) r_5) := by subst hr_5; rw [v_passHour_L3.eq_2]
      try rw [hL_3] at hk_3
      exact ih_3 (i_3 + 1) r_5 (by omega) _ _ _ hP hS (lv_sub hl [1, 2, 3, 4, 0] rfl)  hk_3
  have hP : va_P (dC, dI) vwCl (cws cI ad ML MS PL PS (va_up VL vn (va_up vl 1 (vl 1))) VS LL) s.heap := (cws_cg rfl rfl rfl rfl (va_ad rfl (Eq.trans hvl (va_ad rfl rfl))) rfl hP)
  exact loop_3 v3.toNatClampNeg 0 (vl 1) (by omega) _ _ _ hP hS (lv_sub hl [1, 2, 3, 4, 0] rfl)  (fun H locs ls hP hS hl  => rest_3 (v_passHour_L3 vl vs pl ps v1 v2 v3.toNatClampNeg 0 (vl 1)) _ _ _ hP hS hl  (by rw [v_passHour]))

end CLS
