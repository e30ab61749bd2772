section CLS
variable {l : Launch} {dC : Nat → ClassId} {dI : Nat → Nat → Nat} {cI : ClassId} {ad : Nat → Nat} {ML : Nat → Nat → Int32} {MS : Nat → Int32} {PL : Nat → Nat → Nat → Int32} {PS : Nat → Nat → Int32} {VL : Nat → Nat → Nat → Int32} {VS : Nat → Nat → Int32} {LL : Int64} {vn wn pn : Nat} {vl wl pl : Nat → Nat → Int32} {vs wz ps : Nat → Int32} {ga : Nat → Nat} {A : Nat → Prop}
-- J0_coder_7d493
def j_coder  : Int32 := 0
set_option maxHeartbeats 4000000 in
set_option maxRecDepth 100000 in
theorem c_j_coder  : Met l yJ0_coder_7d493 (.code yJ0_coder_7d493 cJ0_coder_7d493 1 (some .byte) :: kT) ({ frames := 0, cells := 0, slots := 0, locals := 0 } : Room) (va_Pc [.ref (ga 3)] (kG ga A)) (kR (some (.int j_coder))) 0 0 (fun _ => False) := by
  refine kMet (by decide) (fun p e s m args below meth c ls hx hb hr hml hts hown hlocks hname hargs hB hl => ?_) (Nat.le_of_ble_eq_true rfl)
  have hl : lv_has ls 1 [(0, .ref (ga 3))] := hl
  have hG : kG ga A s := hB
  have hS : va_S A s.heap s.heap [] := va_S.rf
  refine va_gets hx hb hG.comp hS hown (hts _ kJ0_38) (fun _ h => h) dJ0_coder_7d493_0 ?_
  refine lv_if_eq (tgt := 13) hx hb dJ0_coder_7d493_3 (by decide) (fun c_3 => absurd c_3 (by decide)) (fun _ => ?_)
  refine lv_aload_n hx hb dJ0_coder_7d493_6 rfl (lv_at hl 0 rfl) ?_
  refine vk_getf hx hb hG.coder hS hown (hts _ kJ0_15) (fun _ h => h) dJ0_coder_7d493_7 ?_
  refine lv_goto (tgt := 14) hx hb dJ0_coder_7d493_10 (by decide) ?_
  have hE : j_coder = 0 := by rw [j_coder]
  exact W.zret (v := 0) hx hb hr rfl (fun t ht hW => ⟨by rw [hE], ht⟩) (fun _ h => absurd h List.not_mem_nil) dJ0_coder_7d493_14 hlocks
-- J0_length_8abf5
def j_length  : Int32 := 10
set_option maxHeartbeats 4000000 in
set_option maxRecDepth 100000 in
theorem c_j_length  : Met l yJ0_length_8abf5 (.code yJ0_length_8abf5 cJ0_length_8abf5 1 (some .int) :: kT) ({ frames := 1, cells := 0, slots := 0, locals := 20 } : Room) (va_Pc [.ref (ga 3)] (kG ga A)) (kR (some (.int j_length))) 0 0 (fun _ => False) := by
  refine kMet (by decide) (fun p e s m args below meth c ls hx hb hr hml hts hown hlocks hname hargs hB hl => ?_) (Nat.le_of_ble_eq_true rfl)
  have hl : lv_has ls 1 [(0, .ref (ga 3))] := hl
  have hG : kG ga A s := hB
  have hS : va_S A s.heap s.heap [] := va_S.rf
  refine lv_aload_n hx hb dJ0_length_8abf5_0 rfl (lv_at hl 0 rfl) ?_
  refine vk_getf hx hb hG.val hS hown (hts _ kJ0_9) (fun _ h => h) dJ0_length_8abf5_1 ?_
  refine va_tlen hx hb hG.valT hS (v := 10) rfl dJ0_length_8abf5_4 ?_
  refine lv_aload_n hx hb dJ0_length_8abf5_5 rfl (lv_at hl 0 rfl) ?_
  refine k_rVG (b := ga 3) (v := .int 0) (As := []) (rest := [.int 10]) hx hb hml hown hts hl.1 (gRecv hG hS) kG.blind (fun U hU hW => kG.of hG hS hU hW) (c_j_coder) eJ0_335 rfl rfl (Nat.le_of_ble_eq_true rfl) ⟨Nat.le_of_ble_eq_true rfl, Nat.le_of_ble_eq_true rfl⟩ ⟨rfl, rfl⟩ ⟨Nat.le_of_ble_eq_true rfl, Nat.le_of_ble_eq_true rfl⟩ dJ0_length_8abf5_6 ?_
  refine lv_ishr hx hb dJ0_length_8abf5_9 ?_
  refine kn_top (x' := 10) (by decide) ?_
  have hE : j_length = 10 := by rw [j_length]
  exact W.iret (v := 10) hx hb hr (fun t ht hW => ⟨by rw [hE], ht⟩) (fun _ h => absurd h List.not_mem_nil) dJ0_length_8abf5_10 hlocks
-- J0_isLatin1_aae02
def j_isLatin1  : Int32 := 1
set_option maxHeartbeats 4000000 in
set_option maxRecDepth 100000 in
theorem c_j_isLatin1  : Met l yJ0_isLatin1_aae02 (.code yJ0_isLatin1_aae02 cJ0_isLatin1_aae02 1 (some .boolean) :: kT) ({ frames := 0, cells := 0, slots := 0, locals := 0 } : Room) (va_Pc [.ref (ga 3)] (kG ga A)) (kR (some (.int j_isLatin1))) 0 0 (fun _ => False) := by
  refine kMet (by decide) (fun p e s m args below meth c ls hx hb hr hml hts hown hlocks hname hargs hB hl => ?_) (Nat.le_of_ble_eq_true rfl)
  have hl : lv_has ls 1 [(0, .ref (ga 3))] := hl
  have hG : kG ga A s := hB
  have hS : va_S A s.heap s.heap [] := va_S.rf
  refine va_gets hx hb hG.comp hS hown (hts _ kJ0_38) (fun _ h => h) dJ0_isLatin1_aae02_0 ?_
  refine lv_if_eq (tgt := 17) hx hb dJ0_isLatin1_aae02_3 (by decide) (fun c_5 => absurd c_5 (by decide)) (fun _ => ?_)
  refine lv_aload_n hx hb dJ0_isLatin1_aae02_6 rfl (lv_at hl 0 rfl) ?_
  refine vk_getf hx hb hG.coder hS hown (hts _ kJ0_15) (fun _ h => h) dJ0_isLatin1_aae02_7 ?_
  refine lv_if_ne (tgt := 17) hx hb dJ0_isLatin1_aae02_10 (by decide) (fun c_6 => absurd (by decide) c_6) (fun _ => ?_)
  refine lv_iconst (v := 1) hx hb dJ0_isLatin1_aae02_13 (by decide) ?_
  refine lv_goto (tgt := 18) hx hb dJ0_isLatin1_aae02_14 (by decide) ?_
  have hE : j_isLatin1 = 1 := by rw [j_isLatin1]
  exact W.zret (v := 1) hx hb hr rfl (fun t ht hW => ⟨by rw [hE], ht⟩) (fun _ h => absurd h List.not_mem_nil) dJ0_isLatin1_aae02_18 hlocks
-- J1_canEncode_9a6ad
def j_canEncode (v0 : Int32) : Int32 := if v0 < 0 then 0 else (if 255 < v0 then 0 else 1)
set_option maxHeartbeats 4000000 in
set_option maxRecDepth 100000 in
theorem c_j_canEncode (v0 : Int32) : Met l yJ1_canEncode_9a6ad (.code yJ1_canEncode_9a6ad cJ1_canEncode_9a6ad 1 (some .boolean) :: kT) ({ frames := 0, cells := 0, slots := 0, locals := 0 } : Room) (va_Pc [.int v0] (kG ga A)) (kR (some (.int (j_canEncode v0)))) 0 0 (fun _ => False) := by
  refine kMet (by decide) (fun p e s m args below meth c ls hx hb hr hml hts hown hlocks hname hargs hB hl => ?_) (Nat.le_of_ble_eq_true rfl)
  have hl : lv_has ls 1 [(0, .int v0)] := hl
  have hG : kG ga A s := hB
  have hS : va_S A s.heap s.heap [] := va_S.rf
  refine lv_iload_n hx hb dJ1_canEncode_9a6ad_0 rfl (lv_at hl 0 rfl) ?_
  refine lv_if_lt (tgt := 15) hx hb dJ1_canEncode_9a6ad_1 (by decide) (fun c_3 => ?_) (fun c_3 => ?_)
  · refine lv_iconst (v := 0) hx hb dJ1_canEncode_9a6ad_15 (by decide) ?_
    have hE : (j_canEncode v0) = 0 := by rw [j_canEncode, if_pos c_3]
    exact W.zret (v := 0) hx hb hr rfl (fun t ht hW => ⟨by rw [hE], ht⟩) (fun _ h => absurd h List.not_mem_nil) dJ1_canEncode_9a6ad_16 hlocks
  · refine lv_iload_n hx hb dJ1_canEncode_9a6ad_4 rfl (lv_at hl 0 rfl) ?_
    refine lv_sipush (v := 255) hx hb dJ1_canEncode_9a6ad_5 (by decide) ?_
    refine lv_icmp_gt (tgt := 15) hx hb dJ1_canEncode_9a6ad_8 (by decide) (fun c_4 => ?_) (fun c_4 => ?_)
    · refine lv_iconst (v := 0) hx hb dJ1_canEncode_9a6ad_15 (by decide) ?_
      have hE : (j_canEncode v0) = 0 := by rw [j_canEncode, if_neg c_3, if_pos c_4]
      exact W.zret (v := 0) hx hb hr rfl (fun t ht hW => ⟨by rw [hE], ht⟩) (fun _ h => absurd h List.not_mem_nil) dJ1_canEncode_9a6ad_16 hlocks
    · refine lv_iconst (v := 1) hx hb dJ1_canEncode_9a6ad_11 (by decide) ?_
      refine lv_goto (tgt := 16) hx hb dJ1_canEncode_9a6ad_12 (by decide) ?_
      have hE : (j_canEncode v0) = 1 := by rw [j_canEncode, if_neg c_3, if_neg c_4]
      exact W.zret (v := 1) hx hb hr rfl (fun t ht hW => ⟨by rw [hE], ht⟩) (fun _ h => absurd h List.not_mem_nil) dJ1_canEncode_9a6ad_16 hlocks
-- J1_indexOfChar_4cfef
def j_indexOfChar_k7  : Int32 := (-1)
def j_indexOfChar_L7 (v4 : Int32) : Nat → Nat → Int32
  | 0, i => j_indexOfChar_k7
  | n + 1, i => if (gStr i) = v4 then (nI i) else j_indexOfChar_L7 v4 n (i + 1) 
def j_indexOfChar (v1 : Int32) : Int32 := (j_indexOfChar_L7 v1.toInt8.toInt32 10 0)
set_option maxHeartbeats 4000000 in
set_option maxRecDepth 100000 in
theorem c_j_indexOfChar (v1 : Int32) : Met l yJ1_indexOfChar_4cfef (.code yJ1_indexOfChar_4cfef cJ1_indexOfChar_4cfef 6 (some .int) :: kT) ({ frames := 0, cells := 0, slots := 0, locals := 0 } : Room) (va_Pc [.ref (ga 4), .int v1, .int 0, .int 10] (kG ga A)) (kR (some (.int (j_indexOfChar v1)))) 0 0 (fun _ => False) := by
  refine kMet (by decide) (fun p e s m args below meth c ls hx hb hr hml hts hown hlocks hname hargs hB hl => ?_) (Nat.le_of_ble_eq_true rfl)
  have hl : lv_has ls 6 [(0, .ref (ga 4)), (1, .int v1), (2, .int 0), (3, .int 10)] := hl
  have hG : kG ga A s := hB
  have hS : va_S A s.heap s.heap [] := va_S.rf
  refine lv_iload_n hx hb dJ1_indexOfChar_4cfef_0 rfl (lv_at hl 1 rfl) ?_
  refine lv_i2b (v := v1.toInt8.toInt32) hx hb dJ1_indexOfChar_4cfef_1 rfl ?_
  refine lv_istore (lv' := [(4, .int v1.toInt8.toInt32), (0, .ref (ga 4)), (1, .int v1), (2, .int 0), (3, .int 10)]) hx hb dJ1_indexOfChar_4cfef_2 hl (by decide) rfl (fun ls hl => ?_)
  refine lv_iload_n hx hb dJ1_indexOfChar_4cfef_4 rfl (lv_at hl 3 rfl) ?_
  refine lv_istore (lv' := [(5, .int 0), (4, .int v1.toInt8.toInt32), (0, .ref (ga 4)), (1, .int v1), (2, .int 0), (3, .int 10)]) hx hb dJ1_indexOfChar_4cfef_5 hl (by decide) rfl (fun ls hl => ?_)
  have rest_7 : ∀ (ls : Array Slot), lv_has ls 6 [] → (j_indexOfChar v1) = j_indexOfChar_k7 → W p l e ({ frames := 0, cells := 0, slots := 0, locals := 0 } : Room) s m args below meth c s.heap [] 0 0 (MQ below (kR (some (.int (j_indexOfChar v1)))) args s 0 0 (fun _ => False)) (F0 m 31 ls []) := by
    intro  ls hl  hF_7
    refine lv_iconst (v := (-1)) hx hb dJ1_indexOfChar_4cfef_31 (by decide) ?_
    have hE : (j_indexOfChar v1) = (-1) := hF_7.trans (by rw [j_indexOfChar_k7])
    exact W.iret (v := (-1)) hx hb hr (fun t ht hW => ⟨by rw [hE], ht⟩) (fun _ h => absurd h List.not_mem_nil) dJ1_indexOfChar_4cfef_32 hlocks
  have loop_7 : ∀ (n_7 i_7 : Nat), i_7 + n_7 = 10 → ∀ (ls : Array Slot), lv_has ls 6 [(0, .ref (ga 4)), (3, .int 10), (4, .int v1.toInt8.toInt32), (5, .int (nI i_7))] → (j_indexOfChar v1) = (j_indexOfChar_L7 v1.toInt8.toInt32 n_7 i_7) → W p l e ({ frames := 0, cells := 0, slots := 0, locals := 0 } : Room) s m args below meth c s.heap [] 0 0 (MQ below (kR (some (.int (j_indexOfChar v1)))) args s 0 0 (fun _ => False)) (F0 m 7 ls []) := by
    intro n_7
    induction n_7 with
    | zero =>
      intro i_7  hin_7 ls hl  hk_7
      refine lv_iload hx hb dJ1_indexOfChar_4cfef_7 (lv_at hl 3 rfl) ?_
      refine lv_iload_n hx hb dJ1_indexOfChar_4cfef_9 rfl (lv_at hl 1 rfl) ?_
      refine lv_icmp_ge (tgt := 31) hx hb dJ1_indexOfChar_4cfef_10 (by decide) (fun _ => ?_) (fun c_4 => absurd (kct_ge (N := 10) rfl (by omega) (by omega)) c_4)
      exact rest_7  _ (lv_sub hl [] rfl)  (hk_7.trans (by rw [j_indexOfChar_L7.eq_1]))
    | succ n_7 ih_7 =>
      intro i_7  hin_7 ls hl  hk_7
      refine lv_iload hx hb dJ1_indexOfChar_4cfef_7 (lv_at hl 3 rfl) ?_
      refine lv_iload_n hx hb dJ1_indexOfChar_4cfef_9 rfl (lv_at hl 1 rfl) ?_
      refine lv_icmp_ge (tgt := 31) hx hb dJ1_indexOfChar_4cfef_10 (by decide) (fun c_5 => absurd c_5 (kct_lt (N := 10) rfl (by omega))) (fun _ => ?_)
      refine lv_aload_n hx hb dJ1_indexOfChar_4cfef_13 rfl (lv_at hl 0 rfl) ?_
      refine lv_iload hx hb dJ1_indexOfChar_4cfef_14 (lv_at hl 3 rfl) ?_
      refine va_tb hx hb hG.valT hS (vp_in_nI (by omega) (by omega)) (v := .int (gStr i_7)) (by rw [nI_clamp (by omega)]) dJ1_indexOfChar_4cfef_16 ?_
      refine lv_iload hx hb dJ1_indexOfChar_4cfef_17 (lv_at hl 2 rfl) ?_
      refine lv_icmp_ne (tgt := 25) hx hb dJ1_indexOfChar_4cfef_19 (by decide) (fun c_6 => ?_) (fun c_6 => ?_)
      · refine lv_iinc (v := (nI (i_7 + 1))) (lv' := [(5, .int (nI (i_7 + 1))), (0, .ref (ga 4)), (3, .int 10), (4, .int v1.toInt8.toInt32)]) hx hb dJ1_indexOfChar_4cfef_25 hl (k := 3) rfl (nI_add _ _) (by decide) rfl (fun ls hl => ?_)
        refine lv_goto (tgt := 7) hx hb dJ1_indexOfChar_4cfef_28 (by decide) ?_
        exact ih_7 (i_7 + 1)  (by omega) _ (lv_sub hl [1, 2, 3, 0] rfl)  (hk_7.trans (by rw [j_indexOfChar_L7.eq_2, if_neg c_6]))
      · refine lv_iload hx hb dJ1_indexOfChar_4cfef_22 (lv_at hl 3 rfl) ?_
        have hE : (j_indexOfChar v1) = (nI i_7) := hk_7.trans (by rw [j_indexOfChar_L7.eq_2, if_pos c_6])
        exact W.iret (v := (nI i_7)) hx hb hr (fun t ht hW => ⟨by rw [hE], ht⟩) (fun _ h => absurd h List.not_mem_nil) dJ1_indexOfChar_4cfef_24 hlocks
  exact loop_7 10 0  (by omega) _ (lv_sub hl [2, 5, 1, 0] rfl)  (by rw [j_indexOfChar])
-- J1_indexOf_4cfef
def j_indexOfB (v1 : Int32) : Int32 := if (j_canEncode v1) = 0 then (-1) else (j_indexOfChar v1)
set_option maxHeartbeats 4000000 in
set_option maxRecDepth 100000 in
theorem c_j_indexOfB (v1 : Int32) : Met l yJ1_indexOf_4cfef (.code yJ1_indexOf_4cfef cJ1_indexOf_4cfef 4 (some .int) :: kT) ({ frames := 1, cells := 0, slots := 0, locals := 25 } : Room) (va_Pc [.ref (ga 4), .int v1, .int 0, .int 10] (kG ga A)) (kR (some (.int (j_indexOfB v1)))) 0 0 (fun _ => False) := by
  refine kMet (by decide) (fun p e s m args below meth c ls hx hb hr hml hts hown hlocks hname hargs hB hl => ?_) (Nat.le_of_ble_eq_true rfl)
  have hl : lv_has ls 4 [(0, .ref (ga 4)), (1, .int v1), (2, .int 0), (3, .int 10)] := hl
  have hG : kG ga A s := hB
  have hS : va_S A s.heap s.heap [] := va_S.rf
  refine lv_iload_n hx hb dJ1_indexOf_4cfef_0 rfl (lv_at hl 1 rfl) ?_
  refine k_rS (v := .int (j_canEncode v1)) (As := [.int v1]) (rest := []) hx hb hml hown hts hl.1 kG.blind (fun U hU hW => kG.of hG hS hU hW) (c_j_canEncode v1) eJ1_88 rfl rfl (Nat.le_of_ble_eq_true rfl) ⟨Nat.le_of_ble_eq_true rfl, Nat.le_of_ble_eq_true rfl⟩ ⟨rfl, rfl⟩ ⟨Nat.le_of_ble_eq_true rfl, Nat.le_of_ble_eq_true rfl⟩ dJ1_indexOf_4cfef_1 ?_
  refine lv_if_ne (tgt := 9) hx hb dJ1_indexOf_4cfef_4 (by decide) (fun c_4 => ?_) (fun c_4 => ?_)
  · refine lv_iload_n hx hb dJ1_indexOf_4cfef_9 rfl (lv_at hl 2 rfl) ?_
    refine lv_iconst (v := 0) hx hb dJ1_indexOf_4cfef_10 (by decide) ?_
    refine k_mmax (rest := []) hx hb hml hown hts hl.1 eJ1_92 (Nat.le_of_ble_eq_true rfl) (Nat.le_of_ble_eq_true rfl) (Nat.le_of_ble_eq_true rfl) (Nat.le_of_ble_eq_true rfl) dJ1_indexOf_4cfef_11 ?_
    refine kn_top (x' := 0) (by decide) ?_
    refine lv_istore_n (lv' := [(2, .int 0), (0, .ref (ga 4)), (1, .int v1), (3, .int 10)]) hx hb dJ1_indexOf_4cfef_14 rfl hl (by decide) rfl (fun ls hl => ?_)
    refine lv_iload_n hx hb dJ1_indexOf_4cfef_15 rfl (lv_at hl 3 rfl) ?_
    refine lv_aload_n hx hb dJ1_indexOf_4cfef_16 rfl (lv_at hl 1 rfl) ?_
    refine va_tlen hx hb hG.valT hS (v := 10) rfl dJ1_indexOf_4cfef_17 ?_
    refine k_mmin (rest := []) hx hb hml hown hts hl.1 eJ1_38 (Nat.le_of_ble_eq_true rfl) (Nat.le_of_ble_eq_true rfl) (Nat.le_of_ble_eq_true rfl) (Nat.le_of_ble_eq_true rfl) dJ1_indexOf_4cfef_18 ?_
    refine kn_top (x' := 10) (by decide) ?_
    refine lv_istore_n (lv' := [(3, .int 10), (2, .int 0), (0, .ref (ga 4)), (1, .int v1)]) hx hb dJ1_indexOf_4cfef_21 rfl hl (by decide) rfl (fun ls hl => ?_)
    refine lv_iload_n hx hb dJ1_indexOf_4cfef_22 rfl (lv_at hl 1 rfl) ?_
    refine lv_iload_n hx hb dJ1_indexOf_4cfef_23 rfl (lv_at hl 0 rfl) ?_
    refine lv_icmp_lt (tgt := 29) hx hb dJ1_indexOf_4cfef_24 (by decide) (fun _ => ?_) (fun c_5 => absurd (by decide) c_5)
    refine lv_aload_n hx hb dJ1_indexOf_4cfef_29 rfl (lv_at hl 2 rfl) ?_
    refine lv_iload_n hx hb dJ1_indexOf_4cfef_30 rfl (lv_at hl 3 rfl) ?_
    refine lv_iload_n hx hb dJ1_indexOf_4cfef_31 rfl (lv_at hl 1 rfl) ?_
    refine lv_iload_n hx hb dJ1_indexOf_4cfef_32 rfl (lv_at hl 0 rfl) ?_
    refine k_rS (v := .int (j_indexOfChar v1)) (As := [.ref (ga 4), .int v1, .int 0, .int 10]) (rest := []) hx hb hml hown hts hl.1 kG.blind (fun U hU hW => kG.of hG hS hU hW) (c_j_indexOfChar v1) eJ1_95 rfl rfl (Nat.le_of_ble_eq_true rfl) ⟨Nat.le_of_ble_eq_true rfl, Nat.le_of_ble_eq_true rfl⟩ ⟨rfl, rfl⟩ ⟨Nat.le_of_ble_eq_true rfl, Nat.le_of_ble_eq_true rfl⟩ dJ1_indexOf_4cfef_33 ?_
    have hE : (j_indexOfB v1) = (j_indexOfChar v1) := by rw [j_indexOfB, if_neg c_4]
    exact W.iret (v := (j_indexOfChar v1)) hx hb hr (fun t ht hW => ⟨by rw [hE], ht⟩) (fun _ h => absurd h List.not_mem_nil) dJ1_indexOf_4cfef_36 hlocks
  · refine lv_iconst (v := (-1)) hx hb dJ1_indexOf_4cfef_7 (by decide) ?_
    have hE : (j_indexOfB v1) = (-1) := by rw [j_indexOfB, if_pos c_4]
    exact W.iret (v := (-1)) hx hb hr (fun t ht hW => ⟨by rw [hE], ht⟩) (fun _ h => absurd h List.not_mem_nil) dJ1_indexOf_4cfef_8 hlocks
-- J0_indexOf_7cf53
def j_indexOf2 (v1 : Int32) : Int32 := (j_indexOfB v1)
set_option maxHeartbeats 4000000 in
set_option maxRecDepth 100000 in
theorem c_j_indexOf2 (v1 : Int32) : Met l yJ0_indexOf_7cf53 (.code yJ0_indexOf_7cf53 cJ0_indexOf_7cf53 3 (some .int) :: kT) ({ frames := 2, cells := 0, slots := 0, locals := 48 } : Room) (va_Pc [.ref (ga 3), .int v1, .int 0] (kG ga A)) (kR (some (.int (j_indexOf2 v1)))) 0 0 (fun _ => False) := by
  refine kMet (by decide) (fun p e s m args below meth c ls hx hb hr hml hts hown hlocks hname hargs hB hl => ?_) (Nat.le_of_ble_eq_true rfl)
  have hl : lv_has ls 3 [(0, .ref (ga 3)), (1, .int v1), (2, .int 0)] := hl
  have hG : kG ga A s := hB
  have hS : va_S A s.heap s.heap [] := va_S.rf
  refine lv_aload_n hx hb dJ0_indexOf_7cf53_0 rfl (lv_at hl 0 rfl) ?_
  refine k_rVG (b := ga 3) (v := .int 1) (As := []) (rest := []) hx hb hml hown hts hl.1 (gRecv hG hS) kG.blind (fun U hU hW => kG.of hG hS hU hW) (c_j_isLatin1) eJ0_492 rfl rfl (Nat.le_of_ble_eq_true rfl) ⟨Nat.le_of_ble_eq_true rfl, Nat.le_of_ble_eq_true rfl⟩ ⟨rfl, rfl⟩ ⟨Nat.le_of_ble_eq_true rfl, Nat.le_of_ble_eq_true rfl⟩ dJ0_indexOf_7cf53_1 ?_
  refine lv_if_eq (tgt := 23) hx hb dJ0_indexOf_7cf53_4 (by decide) (fun c_3 => absurd c_3 (by decide)) (fun _ => ?_)
  refine lv_aload_n hx hb dJ0_indexOf_7cf53_7 rfl (lv_at hl 0 rfl) ?_
  refine vk_getf hx hb hG.val hS hown (hts _ kJ0_9) (fun _ h => h) dJ0_indexOf_7cf53_8 ?_
  refine lv_iload_n hx hb dJ0_indexOf_7cf53_11 rfl (lv_at hl 1 rfl) ?_
  refine lv_iload_n hx hb dJ0_indexOf_7cf53_12 rfl (lv_at hl 2 rfl) ?_
  refine lv_aload_n hx hb dJ0_indexOf_7cf53_13 rfl (lv_at hl 0 rfl) ?_
  refine k_rVG (b := ga 3) (v := .int 10) (As := []) (rest := [.int 0, .int v1, .ref (ga 4)]) hx hb hml hown hts hl.1 (gRecv hG hS) kG.blind (fun U hU hW => kG.of hG hS hU hW) (c_j_length) eJ0_505 rfl rfl (Nat.le_of_ble_eq_true rfl) ⟨Nat.le_of_ble_eq_true rfl, Nat.le_of_ble_eq_true rfl⟩ ⟨rfl, rfl⟩ ⟨Nat.le_of_ble_eq_true rfl, Nat.le_of_ble_eq_true rfl⟩ dJ0_indexOf_7cf53_14 ?_
  refine k_rS (v := .int (j_indexOfB v1)) (As := [.ref (ga 4), .int v1, .int 0, .int 10]) (rest := []) hx hb hml hown hts hl.1 kG.blind (fun U hU hW => kG.of hG hS hU hW) (c_j_indexOfB v1) eJ0_637 rfl rfl (Nat.le_of_ble_eq_true rfl) ⟨Nat.le_of_ble_eq_true rfl, Nat.le_of_ble_eq_true rfl⟩ ⟨rfl, rfl⟩ ⟨Nat.le_of_ble_eq_true rfl, Nat.le_of_ble_eq_true rfl⟩ dJ0_indexOf_7cf53_17 ?_
  refine lv_goto (tgt := 36) hx hb dJ0_indexOf_7cf53_20 (by decide) ?_
  have hE : (j_indexOf2 v1) = (j_indexOfB v1) := by rw [j_indexOf2]
  exact W.iret (v := (j_indexOfB v1)) hx hb hr (fun t ht hW => ⟨by rw [hE], ht⟩) (fun _ h => absurd h List.not_mem_nil) dJ0_indexOf_7cf53_36 hlocks
-- J0_indexOf_0f7a4
def j_indexOf (v1 : Int32) : Int32 := (j_indexOf2 v1)
set_option maxHeartbeats 4000000 in
set_option maxRecDepth 100000 in
theorem c_j_indexOf (v1 : Int32) : Met l yJ0_indexOf_0f7a4 (.code yJ0_indexOf_0f7a4 cJ0_indexOf_0f7a4 2 (some .int) :: kT) ({ frames := 3, cells := 0, slots := 0, locals := 70 } : Room) (va_Pc [.ref (ga 3), .int v1] (kG ga A)) (kR (some (.int (j_indexOf v1)))) 0 0 (fun _ => False) := by
  refine kMet (by decide) (fun p e s m args below meth c ls hx hb hr hml hts hown hlocks hname hargs hB hl => ?_) (Nat.le_of_ble_eq_true rfl)
  have hl : lv_has ls 2 [(0, .ref (ga 3)), (1, .int v1)] := hl
  have hG : kG ga A s := hB
  have hS : va_S A s.heap s.heap [] := va_S.rf
  refine lv_aload_n hx hb dJ0_indexOf_0f7a4_0 rfl (lv_at hl 0 rfl) ?_
  refine lv_iload_n hx hb dJ0_indexOf_0f7a4_1 rfl (lv_at hl 1 rfl) ?_
  refine lv_iconst (v := 0) hx hb dJ0_indexOf_0f7a4_2 (by decide) ?_
  refine k_rVG (b := ga 3) (v := .int (j_indexOf2 v1)) (As := [.int v1, .int 0]) (rest := []) hx hb hml hown hts hl.1 (gRecv hG hS) kG.blind (fun U hU hW => kG.of hG hS hU hW) (c_j_indexOf2 v1) eJ0_633 rfl rfl (Nat.le_of_ble_eq_true rfl) ⟨Nat.le_of_ble_eq_true rfl, Nat.le_of_ble_eq_true rfl⟩ ⟨rfl, rfl⟩ ⟨Nat.le_of_ble_eq_true rfl, Nat.le_of_ble_eq_true rfl⟩ dJ0_indexOf_0f7a4_3 ?_
  have hE : (j_indexOf v1) = (j_indexOf2 v1) := by rw [j_indexOf]
  exact W.iret (v := (j_indexOf2 v1)) hx hb hr (fun t ht hW => ⟨by rw [hE], ht⟩) (fun _ h => absurd h List.not_mem_nil) dJ0_indexOf_0f7a4_6 hlocks

end CLS
