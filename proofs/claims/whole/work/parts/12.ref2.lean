section REF
variable {l : Launch} {dC : Nat → ClassId} {dI : Nat → Nat → Nat} {cI : ClassId} {ad : Nat → Nat} {RA : Nat → Nat → Int32} {RS : Nat → Int32} {RN : Nat → Nat} {RL : Int64}
-- X8_isRule
def m_isRule (v0 : Int32) : Int32 := (m_in v0.toInt64 0 4)
set_option maxHeartbeats 4000000 in
set_option maxRecDepth 100000 in
theorem c_m_isRule (v0 : Int32) : Met l yX8_isRule (.code yX8_isRule cX8_isRule 1 (some .boolean) :: kT) ({ frames := 1, cells := 0, slots := 0, locals := 25 } : Room) (va_Pc [.int v0] (fun _ => True)) (kR (some (.int (m_isRule v0)))) 0 0 (fun _ => False) := by
  refine kMet (by decide) (fun p e s m args below meth c ls hx hb hr hml hts hown hlocks hname hargs hB hl => ?_) (Nat.le_of_ble_eq_true rfl)
  have hl : lv_has ls 1 [(0, .int v0)] := hl
  refine lv_iload_n hx hb dX8_isRule_0 rfl (lv_at hl 0 rfl) ?_
  refine lv_i2l (v := v0.toInt64) hx hb dX8_isRule_1 rfl ?_
  refine lv_lconst (v := 0) hx hb dX8_isRule_2 (by decide) ?_
  refine lv_ldc2 (v := 4) hx hb hown (hts _ kX8_258) dX8_isRule_3 ?_
  refine k_rS (v := .int (m_in v0.toInt64 0 4)) (As := [.long v0.toInt64, .long 0, .long 4]) (rest := []) hx hb hml hown hts hl.1 (B := fun _ => True) (fun _ _ _ _ q => q) (fun _ _ _ => trivial) (c_m_in v0.toInt64 0 4) eX8_99 rfl rfl (Nat.le_of_ble_eq_true rfl) ⟨Nat.le_of_ble_eq_true rfl, Nat.le_of_ble_eq_true rfl⟩ ⟨rfl, rfl⟩ ⟨Nat.le_of_ble_eq_true rfl, Nat.le_of_ble_eq_true rfl⟩ dX8_isRule_6 ?_
  have hE : (m_isRule v0) = (m_in v0.toInt64 0 4) := by rw [m_isRule]
  exact W.zret (v := (m_in v0.toInt64 0 4)) hx hb hr (k_bool (m_in_01 _ _ _)) (fun t ht hW => ⟨by rw [hE], ht⟩) (fun _ h => absurd h List.not_mem_nil) dX8_isRule_9 hlocks
-- X8_isSky
def m_isSky (v0 : Int32) : Int32 := (m_in v0.toInt64 0 2)
set_option maxHeartbeats 4000000 in
set_option maxRecDepth 100000 in
theorem c_m_isSky (v0 : Int32) : Met l yX8_isSky (.code yX8_isSky cX8_isSky 1 (some .boolean) :: kT) ({ frames := 1, cells := 0, slots := 0, locals := 25 } : Room) (va_Pc [.int v0] (fun _ => True)) (kR (some (.int (m_isSky v0)))) 0 0 (fun _ => False) := by
  refine kMet (by decide) (fun p e s m args below meth c ls hx hb hr hml hts hown hlocks hname hargs hB hl => ?_) (Nat.le_of_ble_eq_true rfl)
  have hl : lv_has ls 1 [(0, .int v0)] := hl
  refine lv_iload_n hx hb dX8_isSky_0 rfl (lv_at hl 0 rfl) ?_
  refine lv_i2l (v := v0.toInt64) hx hb dX8_isSky_1 rfl ?_
  refine lv_lconst (v := 0) hx hb dX8_isSky_2 (by decide) ?_
  refine lv_ldc2 (v := 2) hx hb hown (hts _ kX8_260) dX8_isSky_3 ?_
  refine k_rS (v := .int (m_in v0.toInt64 0 2)) (As := [.long v0.toInt64, .long 0, .long 2]) (rest := []) hx hb hml hown hts hl.1 (B := fun _ => True) (fun _ _ _ _ q => q) (fun _ _ _ => trivial) (c_m_in v0.toInt64 0 2) eX8_99 rfl rfl (Nat.le_of_ble_eq_true rfl) ⟨Nat.le_of_ble_eq_true rfl, Nat.le_of_ble_eq_true rfl⟩ ⟨rfl, rfl⟩ ⟨Nat.le_of_ble_eq_true rfl, Nat.le_of_ble_eq_true rfl⟩ dX8_isSky_6 ?_
  have hE : (m_isSky v0) = (m_in v0.toInt64 0 2) := by rw [m_isSky]
  exact W.zret (v := (m_in v0.toInt64 0 2)) hx hb hr (k_bool (m_in_01 _ _ _)) (fun t ht hW => ⟨by rw [hE], ht⟩) (fun _ h => absurd h List.not_mem_nil) dX8_isSky_9 hlocks
-- X8_isRoof
def m_isRoof (RN : Nat → Nat) (v1 : Int32) : Int32 := (m_in v1.toInt64 0 (((nI (RN 4)) - 1).toInt64))
set_option maxHeartbeats 4000000 in
set_option maxRecDepth 100000 in
theorem c_m_isRoof (hI : kInj ad 24) (v1 : Int32) : Met l yX8_isRoof (.code yX8_isRoof cX8_isRoof 2 (some .boolean) :: kT) ({ frames := 1, cells := 0, slots := 0, locals := 25 } : Room) (va_Pc [.ref (ad 0), .int v1] (kB (dC, dI) [(cI, .int)] (RWs cI ad RA RS RN RL))) (kR (some (.int (m_isRoof RN v1)))) 0 0 (fun _ => False) := by
  refine kMet (by decide) (fun p e s m args below meth c ls hx hb hr hml hts hown hlocks hname hargs hB hl => ?_) (Nat.le_of_ble_eq_true rfl)
  obtain ⟨hP, hK, hN⟩ := hB
  have hl : lv_has ls 2 [(0, .ref (ad 0)), (1, .int v1)] := hl
  refine lv_iload_n hx hb dX8_isRoof_0 rfl (lv_at hl 1 rfl) ?_
  refine lv_i2l (v := v1.toInt64) hx hb dX8_isRoof_1 rfl ?_
  refine lv_lconst (v := 0) hx hb dX8_isRoof_2 (by decide) ?_
  refine lv_aload_n hx hb dX8_isRoof_3 rfl (lv_at hl 0 rfl) ?_
  refine m_get (v := .int (nI (RN 4))) hx hb hts hown hK hP 4 (by decide) rfl kX8_82 rfl dX8_isRoof_4 ?_
  refine lv_iconst (v := 1) hx hb dX8_isRoof_7 (by decide) ?_
  refine lv_isub hx hb dX8_isRoof_8 ?_
  refine lv_i2l (v := (((nI (RN 4)) - 1).toInt64)) hx hb dX8_isRoof_9 rfl ?_
  refine k_rS (v := .int (m_in v1.toInt64 0 (((nI (RN 4)) - 1).toInt64))) (As := [.long v1.toInt64, .long 0, .long (((nI (RN 4)) - 1).toInt64)]) (rest := []) hx hb hml hown hts hl.1 (B := fun _ => True) (fun _ _ _ _ q => q) (fun _ _ _ => trivial) (c_m_in v1.toInt64 0 (((nI (RN 4)) - 1).toInt64)) eX8_99 rfl rfl (Nat.le_of_ble_eq_true rfl) ⟨Nat.le_of_ble_eq_true rfl, Nat.le_of_ble_eq_true rfl⟩ ⟨rfl, rfl⟩ ⟨Nat.le_of_ble_eq_true rfl, Nat.le_of_ble_eq_true rfl⟩ dX8_isRoof_10 ?_
  have hE : (m_isRoof RN v1) = (m_in v1.toInt64 0 (((nI (RN 4)) - 1).toInt64)) := by rw [m_isRoof]
  exact W.zret (v := (m_in v1.toInt64 0 (((nI (RN 4)) - 1).toInt64))) hx hb hr (k_bool (m_in_01 _ _ _)) (fun t ht hW => ⟨by rw [hE], ht⟩) (fun _ h => absurd h List.not_mem_nil) dX8_isRoof_13 hlocks
-- X8_load
def m_load_k54 (RS : Nat → Int32) (a36 : Nat → Int32) (a37 : Nat → Int32) (a39 : Nat → Int32) : (Nat → Int32) × (Nat → Int32) × (Nat → Int32) × Int32 := (a36, a37, a39, (RS 26))
def m_load_L54  : Nat → Nat → (Nat → Int32) → (Nat → Int32)
  | 0, i, a39 => a39
  | n + 1, i, a39 => m_load_L54 n (i + 1) (upd a39 i (-268435456))
def m_load_k28 (RA : Nat → Nat → Int32) (RS : Nat → Int32) (a36 : Nat → Int32) (a37 : Nat → Int32) : (Nat → Int32) × (Nat → Int32) × (Nat → Int32) × Int32 := m_load_k54 RS a36 a37 (m_load_L54 8 0 (RA 39))
def m_load_L28 (RA : Nat → Nat → Int32) : Nat → Nat → (Nat → Int32) → (Nat → Int32)
  | 0, i, a37 => a37
  | n + 1, i, a37 => m_load_L28 RA n (i + 1) (upd a37 i (RA 24 i))
def m_load_k2 (RA : Nat → Nat → Int32) (RS : Nat → Int32) (a36 : Nat → Int32) : (Nat → Int32) × (Nat → Int32) × (Nat → Int32) × Int32 := m_load_k28 RA RS a36 (m_load_L28 RA 24 0 (RA 37))
def m_load_L2 (RA : Nat → Nat → Int32) : Nat → Nat → (Nat → Int32) → (Nat → Int32)
  | 0, i, a36 => a36
  | n + 1, i, a36 => m_load_L2 RA n (i + 1) (upd a36 i (RA 21 i))
def m_load (RA : Nat → Nat → Int32) (RS : Nat → Int32) : (Nat → Int32) × (Nat → Int32) × (Nat → Int32) × Int32 := m_load_k2 RA RS (m_load_L2 RA 16 0 (RA 36))
set_option maxHeartbeats 4000000 in
set_option maxRecDepth 100000 in
theorem c_m_load (hI : kInj ad 24)  : Met l yX8_load (.code yX8_load cX8_load 2 none :: kT) ({ frames := 0, cells := 0, slots := 0, locals := 0 } : Room) (va_Pc [.ref (ad 0)] (kB (dC, dI) [(cI, .int)] (RWs cI ad RA RS RN RL))) (kQ none (kB (dC, dI) [(cI, .int)] (RWs cI ad (va_up (va_up (va_up RA 36 ((m_load RA RS).1)) 37 ((m_load RA RS).2.1)) 39 ((m_load RA RS).2.2.1)) (va_up RS 38 ((m_load RA RS).2.2.2)) RN RL)) (kAA ad 24)) 0 0 (kAA ad 24) := by
  refine kMet (by decide) (fun p e s m args below meth c ls hx hb hr hml hts hown hlocks hname hargs hB hl => ?_) (Nat.le_of_ble_eq_true rfl)
  obtain ⟨hP, hK, hN⟩ := hB
  have hl : lv_has ls 2 [(0, .ref (ad 0))] := hl
  have hS : va_S (kAA ad 24) s.heap s.heap [] := va_S.rf
  refine lv_iconst (v := 0) hx hb dX8_load_0 (by decide) ?_
  refine lv_istore_n (lv' := [(1, .int 0), (0, .ref (ad 0))]) hx hb dX8_load_1 rfl hl (by decide) rfl (fun ls hl => ?_)
  have rest_2 : ∀ (a36_2 : Nat → Int32), ∀ (H : Heap) (locs : List Loc) (ls : Array Slot), va_P (dC, dI) vwCl (RWs cI ad (va_up RA 36 a36_2) RS RN RL) H → va_S (kAA ad 24) s.heap H locs → lv_has ls 2 [(0, .ref (ad 0))] → (m_load RA RS) = m_load_k2 RA RS a36_2 → W p l e ({ frames := 0, cells := 0, slots := 0, locals := 0 } : Room) s m args below meth c H locs 0 0 (MQ below (kQ none (kB (dC, dI) [(cI, .int)] (RWs cI ad (va_up (va_up (va_up RA 36 ((m_load RA RS).1)) 37 ((m_load RA RS).2.1)) 39 ((m_load RA RS).2.2.1)) (va_up RS 38 ((m_load RA RS).2.2.2)) RN RL)) (kAA ad 24)) args s 0 0 (kAA ad 24)) (F0 m 26 ls []) := by
    intro a36_2 H locs ls hP hS hl  hF_2
    refine lv_iconst (v := 0) hx hb dX8_load_26 (by decide) ?_
    refine lv_istore_n (lv' := [(1, .int 0), (0, .ref (ad 0))]) hx hb dX8_load_27 rfl hl (by decide) rfl (fun ls hl => ?_)
    have rest_28 : ∀ (a37_28 : Nat → Int32), ∀ (H : Heap) (locs : List Loc) (ls : Array Slot), va_P (dC, dI) vwCl (RWs cI ad (va_up (va_up RA 36 a36_2) 37 a37_28) RS RN RL) H → va_S (kAA ad 24) s.heap H locs → lv_has ls 2 [(0, .ref (ad 0))] → (m_load RA RS) = m_load_k28 RA RS a36_2 a37_28 → W p l e ({ frames := 0, cells := 0, slots := 0, locals := 0 } : Room) s m args below meth c H locs 0 0 (MQ below (kQ none (kB (dC, dI) [(cI, .int)] (RWs cI ad (va_up (va_up (va_up RA 36 ((m_load RA RS).1)) 37 ((m_load RA RS).2.1)) 39 ((m_load RA RS).2.2.1)) (va_up RS 38 ((m_load RA RS).2.2.2)) RN RL)) (kAA ad 24)) args s 0 0 (kAA ad 24)) (F0 m 52 ls []) := by
      intro a37_28 H locs ls hP hS hl  hF_28
      refine lv_iconst (v := 0) hx hb dX8_load_52 (by decide) ?_
      refine lv_istore_n (lv' := [(1, .int 0), (0, .ref (ad 0))]) hx hb dX8_load_53 rfl hl (by decide) rfl (fun ls hl => ?_)
      have rest_54 : ∀ (a39_54 : Nat → Int32), ∀ (H : Heap) (locs : List Loc) (ls : Array Slot), va_P (dC, dI) vwCl (RWs cI ad (va_up (va_up (va_up RA 36 a36_2) 37 a37_28) 39 a39_54) RS RN RL) H → va_S (kAA ad 24) s.heap H locs → lv_has ls 2 [(0, .ref (ad 0))] → (m_load RA RS) = m_load_k54 RS a36_2 a37_28 a39_54 → W p l e ({ frames := 0, cells := 0, slots := 0, locals := 0 } : Room) s m args below meth c H locs 0 0 (MQ below (kQ none (kB (dC, dI) [(cI, .int)] (RWs cI ad (va_up (va_up (va_up RA 36 ((m_load RA RS).1)) 37 ((m_load RA RS).2.1)) 39 ((m_load RA RS).2.2.1)) (va_up RS 38 ((m_load RA RS).2.2.2)) RN RL)) (kAA ad 24)) args s 0 0 (kAA ad 24)) (F0 m 74 ls []) := by
        intro a39_54 H locs ls hP hS hl  hF_54
        refine lv_aload_n hx hb dX8_load_74 rfl (lv_at hl 0 rfl) ?_
        refine lv_aload_n hx hb dX8_load_75 rfl (lv_at hl 0 rfl) ?_
        refine m_get (v := .int (RS 26)) hx hb hts hown hK hP 26 (by decide) rfl kX8_163 rfl dX8_load_76 ?_
        refine m_put (RS' := (va_up RS 38 (RS 26))) (RN' := RN) (RL' := RL) (ty := .int) hx hb hts hown hI hK hP hS 38 (by decide) rfl kX8_194 rfl (by decide +kernel) rfl rfl rfl dX8_load_79 (fun H locs hP hS => ?_)
        have hE : (m_load RA RS) = (a36_2, a37_28, a39_54, (RS 26)) := hF_54.trans (by rw [m_load_k54])
        exact W.vret hx hb hr (fun t ht hW => ⟨rfl, by rw [hE]; exact kB.of (ws := RWs cI ad (va_up (va_up (va_up RA 36 a36_2) 37 a37_28) 39 a39_54) (va_up RS 38 (RS 26)) RN RL) hP hK hN ht hW, hS.F ht⟩) hS.2.2 dX8_load_82 hlocks
      have loop_54 : ∀ (n_54 i_54 : Nat) (a39_54 : Nat → Int32), i_54 + n_54 = 8 → ∀ (H : Heap) (locs : List Loc) (ls : Array Slot), va_P (dC, dI) vwCl (RWs cI ad (va_up (va_up (va_up RA 36 a36_2) 37 a37_28) 39 a39_54) RS RN RL) H → va_S (kAA ad 24) s.heap H locs → lv_has ls 2 [(0, .ref (ad 0)), (1, .int (nI i_54))] → (∀ (H : Heap) (locs : List Loc) (ls : Array Slot), va_P (dC, dI) vwCl (RWs cI ad (va_up (va_up (va_up RA 36 a36_2) 37 a37_28) 39 (m_load_L54 n_54 i_54 a39_54)) RS RN RL) H → va_S (kAA ad 24) s.heap H locs → lv_has ls 2 [(0, .ref (ad 0))] → W p l e ({ frames := 0, cells := 0, slots := 0, locals := 0 } : Room) s m args below meth c H locs 0 0 (MQ below (kQ none (kB (dC, dI) [(cI, .int)] (RWs cI ad (va_up (va_up (va_up RA 36 ((m_load RA RS).1)) 37 ((m_load RA RS).2.1)) 39 ((m_load RA RS).2.2.1)) (va_up RS 38 ((m_load RA RS).2.2.2)) RN RL)) (kAA ad 24)) args s 0 0 (kAA ad 24)) (F0 m 74 ls [])) → W p l e ({ frames := 0, cells := 0, slots := 0, locals := 0 } : Room) s m args below meth c H locs 0 0 (MQ below (kQ none (kB (dC, dI) [(cI, .int)] (RWs cI ad (va_up (va_up (va_up RA 36 ((m_load RA RS).1)) 37 ((m_load RA RS).2.1)) 39 ((m_load RA RS).2.2.1)) (va_up RS 38 ((m_load RA RS).2.2.2)) RN RL)) (kAA ad 24)) args s 0 0 (kAA ad 24)) (F0 m 54 ls []) := by
        intro n_54
        induction n_54 with
        | zero =>
          intro i_54 a39_54 hin_54 H locs ls hP hS hl  hk_54
          refine lv_iload_n hx hb dX8_load_54 rfl (lv_at hl 1 rfl) ?_
          refine lv_bipush (v := 8) hx hb dX8_load_55 (by decide) ?_
          refine lv_icmp_ge (tgt := 74) hx hb dX8_load_57 (by decide) (fun _ => ?_) (fun c_4 => absurd (kct_ge (N := 8) rfl (by omega) (by omega)) c_4)
          have hL_54 : (m_load_L54 0 i_54 a39_54) = a39_54 := by rw [m_load_L54.eq_1]
          try rw [hL_54] at hk_54
          exact hk_54 _ _ _ hP hS (lv_sub hl [0] rfl) 
        | succ n_54 ih_54 =>
          intro i_54 a39_54 hin_54 H locs ls hP hS hl  hk_54
          refine lv_iload_n hx hb dX8_load_54 rfl (lv_at hl 1 rfl) ?_
          refine lv_bipush (v := 8) hx hb dX8_load_55 (by decide) ?_
          refine lv_icmp_ge (tgt := 74) hx hb dX8_load_57 (by decide) (fun c_5 => absurd c_5 (kct_lt (N := 8) rfl (by omega))) (fun _ => ?_)
          refine lv_aload_n hx hb dX8_load_60 rfl (lv_at hl 0 rfl) ?_
          refine m_get (v := .ref (ad 22)) hx hb hts hown hK hP 39 (by decide) rfl kX8_73 rfl dX8_load_61 ?_
          refine lv_iload_n hx hb dX8_load_64 rfl (lv_at hl 1 rfl) ?_
          refine lv_ldc (v := (-268435456)) hx hb hown (hts _ kX8_193) dX8_load_65 ?_
          refine kn_iast (f := a39_54) (ws' := RWs cI ad (va_up (va_up (va_up RA 36 a36_2) 37 a37_28) 39 (upd a39_54 i_54 (-268435456))) RS RN RL) hx hb hK hP (RWsD hI) hS 22 rfl i_54 rfl (by omega) (by omega) rfl dX8_load_67 (fun H locs hP hS => ?_)
          refine lv_iinc (v := (nI (i_54 + 1))) (lv' := [(1, .int (nI (i_54 + 1))), (0, .ref (ad 0))]) hx hb dX8_load_68 hl (k := 1) rfl (nI_add _ _) (by decide) rfl (fun ls hl => ?_)
          refine lv_goto (tgt := 54) hx hb dX8_load_71 (by decide) ?_
          have hL_54 : (m_load_L54 (n_54 + 1) i_54 a39_54) = (m_load_L54 n_54 (i_54 + 1) (upd a39_54 i_54 (-268435456))) := by rw [m_load_L54.eq_2]
          try rw [hL_54] at hk_54
          exact ih_54 (i_54 + 1) (upd a39_54 i_54 (-268435456)) (by omega) _ _ _ hP hS (lv_sub hl [1, 0] rfl)  hk_54
      have hP : va_P (dC, dI) vwCl (RWs cI ad (va_up (va_up (va_up RA 36 a36_2) 37 a37_28) 39 (RA 39)) RS RN RL) H := (RWs_conv rfl rfl rfl rfl rfl rfl rfl rfl rfl rfl rfl rfl rfl rfl rfl rfl rfl rfl rfl rfl rfl rfl rfl rfl rfl rfl rfl rfl rfl rfl rfl rfl rfl rfl rfl rfl rfl rfl rfl rfl rfl hP)
      exact loop_54 8 0 (RA 39) (by omega) _ _ _ hP hS (lv_sub hl [1, 0] rfl)  (fun H locs ls hP hS hl  => rest_54 (m_load_L54 8 0 (RA 39)) _ _ _ hP hS hl  (hF_28.trans (by rw [m_load_k28])))
    have loop_28 : ∀ (n_28 i_28 : Nat) (a37_28 : Nat → Int32), i_28 + n_28 = 24 → ∀ (H : Heap) (locs : List Loc) (ls : Array Slot), va_P (dC, dI) vwCl (RWs cI ad (va_up (va_up RA 36 a36_2) 37 a37_28) RS RN RL) H → va_S (kAA ad 24) s.heap H locs → lv_has ls 2 [(0, .ref (ad 0)), (1, .int (nI i_28))] → (∀ (H : Heap) (locs : List Loc) (ls : Array Slot), va_P (dC, dI) vwCl (RWs cI ad (va_up (va_up RA 36 a36_2) 37 (m_load_L28 RA n_28 i_28 a37_28)) RS RN RL) H → va_S (kAA ad 24) s.heap H locs → lv_has ls 2 [(0, .ref (ad 0))] → W p l e ({ frames := 0, cells := 0, slots := 0, locals := 0 } : Room) s m args below meth c H locs 0 0 (MQ below (kQ none (kB (dC, dI) [(cI, .int)] (RWs cI ad (va_up (va_up (va_up RA 36 ((m_load RA RS).1)) 37 ((m_load RA RS).2.1)) 39 ((m_load RA RS).2.2.1)) (va_up RS 38 ((m_load RA RS).2.2.2)) RN RL)) (kAA ad 24)) args s 0 0 (kAA ad 24)) (F0 m 52 ls [])) → W p l e ({ frames := 0, cells := 0, slots := 0, locals := 0 } : Room) s m args below meth c H locs 0 0 (MQ below (kQ none (kB (dC, dI) [(cI, .int)] (RWs cI ad (va_up (va_up (va_up RA 36 ((m_load RA RS).1)) 37 ((m_load RA RS).2.1)) 39 ((m_load RA RS).2.2.1)) (va_up RS 38 ((m_load RA RS).2.2.2)) RN RL)) (kAA ad 24)) args s 0 0 (kAA ad 24)) (F0 m 28 ls []) := by
      intro n_28
      induction n_28 with
      | zero =>
        intro i_28 a37_28 hin_28 H locs ls hP hS hl  hk_28
        refine lv_iload_n hx hb dX8_load_28 rfl (lv_at hl 1 rfl) ?_
        refine lv_bipush (v := 24) hx hb dX8_load_29 (by decide) ?_
        refine lv_icmp_ge (tgt := 52) hx hb dX8_load_31 (by decide) (fun _ => ?_) (fun c_6 => absurd (kct_ge (N := 24) rfl (by omega) (by omega)) c_6)
        have hL_28 : (m_load_L28 RA 0 i_28 a37_28) = a37_28 := by rw [m_load_L28.eq_1]
        try rw [hL_28] at hk_28
        exact hk_28 _ _ _ hP hS (lv_sub hl [0] rfl) 
      | succ n_28 ih_28 =>
        intro i_28 a37_28 hin_28 H locs ls hP hS hl  hk_28
        refine lv_iload_n hx hb dX8_load_28 rfl (lv_at hl 1 rfl) ?_
        refine lv_bipush (v := 24) hx hb dX8_load_29 (by decide) ?_
        refine lv_icmp_ge (tgt := 52) hx hb dX8_load_31 (by decide) (fun c_7 => absurd c_7 (kct_lt (N := 24) rfl (by omega))) (fun _ => ?_)
        refine lv_aload_n hx hb dX8_load_34 rfl (lv_at hl 0 rfl) ?_
        refine m_get (v := .ref (ad 21)) hx hb hts hown hK hP 37 (by decide) rfl kX8_70 rfl dX8_load_35 ?_
        refine lv_iload_n hx hb dX8_load_38 rfl (lv_at hl 1 rfl) ?_
        refine lv_aload_n hx hb dX8_load_39 rfl (lv_at hl 0 rfl) ?_
        refine m_get (v := .ref (ad 16)) hx hb hts hown hK hP 24 (by decide) rfl kX8_55 rfl dX8_load_40 ?_
        refine lv_iload_n hx hb dX8_load_43 rfl (lv_at hl 1 rfl) ?_
        refine kn_iald (f := (RA 24)) (v := (RA 24 i_28)) hx hb hK hP 16 rfl i_28 rfl (by omega) (by omega) rfl dX8_load_44 ?_
        refine kn_iast (f := a37_28) (ws' := RWs cI ad (va_up (va_up RA 36 a36_2) 37 (upd a37_28 i_28 (RA 24 i_28))) RS RN RL) hx hb hK hP (RWsD hI) hS 21 rfl i_28 rfl (by omega) (by omega) rfl dX8_load_45 (fun H locs hP hS => ?_)
        refine lv_iinc (v := (nI (i_28 + 1))) (lv' := [(1, .int (nI (i_28 + 1))), (0, .ref (ad 0))]) hx hb dX8_load_46 hl (k := 1) rfl (nI_add _ _) (by decide) rfl (fun ls hl => ?_)
        refine lv_goto (tgt := 28) hx hb dX8_load_49 (by decide) ?_
        have hL_28 : (m_load_L28 RA (n_28 + 1) i_28 a37_28) = (m_load_L28 RA n_28 (i_28 + 1) (upd a37_28 i_28 (RA 24 i_28))) := by rw [m_load_L28.eq_2]
        try rw [hL_28] at hk_28
        exact ih_28 (i_28 + 1) (upd a37_28 i_28 (RA 24 i_28)) (by omega) _ _ _ hP hS (lv_sub hl [1, 0] rfl)  hk_28
    have hP : va_P (dC, dI) vwCl (RWs cI ad (va_up (va_up RA 36 a36_2) 37 (RA 37)) RS RN RL) H := (RWs_conv rfl rfl rfl rfl rfl rfl rfl rfl rfl rfl rfl rfl rfl rfl rfl rfl rfl rfl rfl rfl rfl rfl rfl rfl rfl rfl rfl rfl rfl rfl rfl rfl rfl rfl rfl rfl rfl rfl rfl rfl rfl hP)
    exact loop_28 24 0 (RA 37) (by omega) _ _ _ hP hS (lv_sub hl [1, 0] rfl)  (fun H locs ls hP hS hl  => rest_28 (m_load_L28 RA 24 0 (RA 37)) _ _ _ hP hS hl  (hF_2.trans (by rw [m_load_k2])))
  have loop_2 : ∀ (n_2 i_2 : Nat) (a36_2 : Nat → Int32), i_2 + n_2 = 16 → ∀ (H : Heap) (locs : List Loc) (ls : Array Slot), va_P (dC, dI) vwCl (RWs cI ad (va_up RA 36 a36_2) RS RN RL) H → va_S (kAA ad 24) s.heap H locs → lv_has ls 2 [(0, .ref (ad 0)), (1, .int (nI i_2))] → (∀ (H : Heap) (locs : List Loc) (ls : Array Slot), va_P (dC, dI) vwCl (RWs cI ad (va_up RA 36 (m_load_L2 RA n_2 i_2 a36_2)) RS RN RL) H → va_S (kAA ad 24) s.heap H locs → lv_has ls 2 [(0, .ref (ad 0))] → W p l e ({ frames := 0, cells := 0, slots := 0, locals := 0 } : Room) s m args below meth c H locs 0 0 (MQ below (kQ none (kB (dC, dI) [(cI, .int)] (RWs cI ad (va_up (va_up (va_up RA 36 ((m_load RA RS).1)) 37 ((m_load RA RS).2.1)) 39 ((m_load RA RS).2.2.1)) (va_up RS 38 ((m_load RA RS).2.2.2)) RN RL)) (kAA ad 24)) args s 0 0 (kAA ad 24)) (F0 m 26 ls [])) → W p l e ({ frames := 0, cells := 0, slots := 0, locals := 0 } : Room) s m args below meth c H locs 0 0 (MQ below (kQ none (kB (dC, dI) [(cI, .int)] (RWs cI ad (va_up (va_up (va_up RA 36 ((m_load RA RS).1)) 37 ((m_load RA RS).2.1)) 39 ((m_load RA RS).2.2.1)) (va_up RS 38 ((m_load RA RS).2.2.2)) RN RL)) (kAA ad 24)) args s 0 0 (kAA ad 24)) (F0 m 2 ls []) := by
    intro n_2
    induction n_2 with
    | zero =>
      intro i_2 a36_2 hin_2 H locs ls hP hS hl  hk_2
      refine lv_iload_n hx hb dX8_load_2 rfl (lv_at hl 1 rfl) ?_
      refine lv_bipush (v := 16) hx hb dX8_load_3 (by decide) ?_
      refine lv_icmp_ge (tgt := 26) hx hb dX8_load_5 (by decide) (fun _ => ?_) (fun c_8 => absurd (kct_ge (N := 16) rfl (by omega) (by omega)) c_8)
      have hL_2 : (m_load_L2 RA 0 i_2 a36_2) = a36_2 := by rw [m_load_L2.eq_1]
      try rw [hL_2] at hk_2
      exact hk_2 _ _ _ hP hS (lv_sub hl [0] rfl) 
    | succ n_2 ih_2 =>
      intro i_2 a36_2 hin_2 H locs ls hP hS hl  hk_2
      refine lv_iload_n hx hb dX8_load_2 rfl (lv_at hl 1 rfl) ?_
      refine lv_bipush (v := 16) hx hb dX8_load_3 (by decide) ?_
      refine lv_icmp_ge (tgt := 26) hx hb dX8_load_5 (by decide) (fun c_9 => absurd c_9 (kct_lt (N := 16) rfl (by omega))) (fun _ => ?_)
      refine lv_aload_n hx hb dX8_load_8 rfl (lv_at hl 0 rfl) ?_
      refine m_get (v := .ref (ad 20)) hx hb hts hown hK hP 36 (by decide) rfl kX8_67 rfl dX8_load_9 ?_
      refine lv_iload_n hx hb dX8_load_12 rfl (lv_at hl 1 rfl) ?_
      refine lv_aload_n hx hb dX8_load_13 rfl (lv_at hl 0 rfl) ?_
      refine m_get (v := .ref (ad 13)) hx hb hts hown hK hP 21 (by decide) rfl kX8_46 rfl dX8_load_14 ?_
      refine lv_iload_n hx hb dX8_load_17 rfl (lv_at hl 1 rfl) ?_
      refine kn_iald (f := (RA 21)) (v := (RA 21 i_2)) hx hb hK hP 13 rfl i_2 rfl (by omega) (by omega) rfl dX8_load_18 ?_
      refine kn_iast (f := a36_2) (ws' := RWs cI ad (va_up RA 36 (upd a36_2 i_2 (RA 21 i_2))) RS RN RL) hx hb hK hP (RWsD hI) hS 20 rfl i_2 rfl (by omega) (by omega) rfl dX8_load_19 (fun H locs hP hS => ?_)
      refine lv_iinc (v := (nI (i_2 + 1))) (lv' := [(1, .int (nI (i_2 + 1))), (0, .ref (ad 0))]) hx hb dX8_load_20 hl (k := 1) rfl (nI_add _ _) (by decide) rfl (fun ls hl => ?_)
      refine lv_goto (tgt := 2) hx hb dX8_load_23 (by decide) ?_
      have hL_2 : (m_load_L2 RA (n_2 + 1) i_2 a36_2) = (m_load_L2 RA n_2 (i_2 + 1) (upd a36_2 i_2 (RA 21 i_2))) := by rw [m_load_L2.eq_2]
      try rw [hL_2] at hk_2
      exact ih_2 (i_2 + 1) (upd a36_2 i_2 (RA 21 i_2)) (by omega) _ _ _ hP hS (lv_sub hl [1, 0] rfl)  hk_2
  have hP : va_P (dC, dI) vwCl (RWs cI ad (va_up RA 36 (RA 36)) RS RN RL) s.heap := (RWs_conv rfl rfl rfl rfl rfl rfl rfl rfl rfl rfl rfl rfl rfl rfl rfl rfl rfl rfl rfl rfl rfl rfl rfl rfl rfl rfl rfl rfl rfl rfl rfl rfl rfl rfl rfl rfl rfl rfl rfl rfl rfl hP)
  exact loop_2 16 0 (RA 36) (by omega) _ _ _ hP hS (lv_sub hl [1, 0] rfl)  (fun H locs ls hP hS hl  => rest_2 (m_load_L2 RA 16 0 (RA 36)) _ _ _ hP hS hl  (by rw [m_load]))
-- X8_feel
def m_feel_k6 (a21 : Nat → Int32) (a22 : Nat → Int32) (a23 : Nat → Int32) (a36 : Nat → Int32) (a37 : Nat → Int32) (a39 : Nat → Int32) (s26 : Int32) (s38 : Int32) : (Nat → Int32) × (Nat → Int32) × (Nat → Int32) × (Nat → Int32) × (Nat → Int32) × (Nat → Int32) × Int32 × Int32 := (a21, a22, a23, a36, a37, a39, s26, s38)
def m_feel_b6_k137 (a21 : Nat → Int32) (a22 : Nat → Int32) (a23 : Nat → Int32) (s26 : Int32) : (Nat → Int32) × (Nat → Int32) × (Nat → Int32) × Int32 := (a21, a22, a23, s26)
def m_feel_L137 (RA : Nat → Nat → Int32) (v1 : Nat) (v2 : Int32) : Nat → Nat → (Nat → Int32) → (Nat → Int32)
  | 0, i, a22 => a22
  | n + 1, i, a22 => if v2 ≤ (RA 10 ((4 * v1) + i)) then m_feel_L137 RA v1 v2 n (i + 1) (upd a22 v1 ((a22 v1) &&& (-1))) else m_feel_L137 RA v1 v2 n (i + 1) (upd a22 v1 ((a22 v1) &&& ((1 <<< ((nI i) &&& 31)) ^^^ (-1))))
def m_feel_b6 (RA : Nat → Nat → Int32) (RS : Nat → Int32) (a36 : Nat → Int32) (a37 : Nat → Int32) (a39 : Nat → Int32) (s38 : Int32) (i : Nat) (a21 : Nat → Int32) (a22 : Nat → Int32) (a23 : Nat → Int32) (s26 : Int32) : (Nat → Int32) × (Nat → Int32) × (Nat → Int32) × Int32 := if (m_has s26 (nI i)) = 0 then (a21, a22, a23, s26) else (if (m_below (va_up (va_up (va_up (va_up (va_up (va_up RA 21 a21) 22 a22) 23 a23) 36 a36) 37 a37) 39 a39) i (m_felt (va_up (va_up (va_up (va_up (va_up (va_up RA 21 a21) 22 a22) 23 a23) 36 a36) 37 a37) 39 a39) (va_up (va_up RS 26 s26) 38 s38) i 0 0)) = (m_chances (va_up (va_up (va_up (va_up (va_up (va_up RA 21 a21) 22 a22) 23 a23) 36 a36) 37 a37) 39 a39) i) then ((upd (upd a21 (2 * i) 0) ((2 * i) + 1) 0), a22, a23, (s26 &&& ((1 <<< ((nI i) &&& 31)) ^^^ (-1)))) else (if (m_pressOf (va_up (va_up (va_up (va_up (va_up (va_up RA 21 a21) 22 a22) 23 a23) 36 a36) 37 a37) 39 a39) i (a21 (2 * i)) (a21 ((2 * i) + 1))) ≤ (a23 i) then m_feel_b6_k137 a21 (m_feel_L137 RA i (m_felt (va_up (va_up (va_up (va_up (va_up (va_up RA 21 a21) 22 a22) 23 a23) 36 a36) 37 a37) 39 a39) (va_up (va_up RS 26 s26) 38 s38) i 0 0) ((RA 12 i).toNatClampNeg) 0 a22) (upd a23 i (a23 i)) s26 else m_feel_b6_k137 a21 (m_feel_L137 RA i (m_felt (va_up (va_up (va_up (va_up (va_up (va_up RA 21 a21) 22 a22) 23 a23) 36 a36) 37 a37) 39 a39) (va_up (va_up RS 26 s26) 38 s38) i 0 0) ((RA 12 i).toNatClampNeg) 0 a22) (upd a23 i (m_pressOf (va_up (va_up (va_up (va_up (va_up (va_up RA 21 a21) 22 a22) 23 a23) 36 a36) 37 a37) 39 a39) i (a21 (2 * i)) (a21 ((2 * i) + 1)))) s26))
def m_feel_L6 (RA : Nat → Nat → Int32) (RS : Nat → Int32) (a36 : Nat → Int32) (a37 : Nat → Int32) (a39 : Nat → Int32) (s38 : Int32) : Nat → Nat → (Nat → Int32) → (Nat → Int32) → (Nat → Int32) → Int32 → (Nat → Int32) × (Nat → Int32) × (Nat → Int32) × Int32
  | 0, i, a21, a22, a23, s26 => (a21, a22, a23, s26)
  | n + 1, i, a21, a22, a23, s26 => m_feel_L6 RA RS a36 a37 a39 s38 n (i + 1) (m_feel_b6 RA RS a36 a37 a39 s38 i a21 a22 a23 s26).1 (m_feel_b6 RA RS a36 a37 a39 s38 i a21 a22 a23 s26).2.1 (m_feel_b6 RA RS a36 a37 a39 s38 i a21 a22 a23 s26).2.2.1 (m_feel_b6 RA RS a36 a37 a39 s38 i a21 a22 a23 s26).2.2.2
def m_feel (RA : Nat → Nat → Int32) (RS : Nat → Int32) (RN : Nat → Nat) : (Nat → Int32) × (Nat → Int32) × (Nat → Int32) × (Nat → Int32) × (Nat → Int32) × (Nat → Int32) × Int32 × Int32 := m_feel_k6 (m_feel_L6 RA RS ((m_load RA RS).1) ((m_load RA RS).2.1) ((m_load RA RS).2.2.1) ((m_load RA RS).2.2.2) (RN 4) 0 (RA 21) (RA 22) (RA 23) (RS 26)).1 (m_feel_L6 RA RS ((m_load RA RS).1) ((m_load RA RS).2.1) ((m_load RA RS).2.2.1) ((m_load RA RS).2.2.2) (RN 4) 0 (RA 21) (RA 22) (RA 23) (RS 26)).2.1 (m_feel_L6 RA RS ((m_load RA RS).1) ((m_load RA RS).2.1) ((m_load RA RS).2.2.1) ((m_load RA RS).2.2.2) (RN 4) 0 (RA 21) (RA 22) (RA 23) (RS 26)).2.2.1 ((m_load RA RS).1) ((m_load RA RS).2.1) ((m_load RA RS).2.2.1) (m_feel_L6 RA RS ((m_load RA RS).1) ((m_load RA RS).2.1) ((m_load RA RS).2.2.1) ((m_load RA RS).2.2.2) (RN 4) 0 (RA 21) (RA 22) (RA 23) (RS 26)).2.2.2 ((m_load RA RS).2.2.2)
set_option maxHeartbeats 4000000 in
set_option maxRecDepth 100000 in
theorem c_m_feel (hI : kInj ad 24) (hM : mI RA RS RN) : Met l yX8_feel (.code yX8_feel cX8_feel 5 none :: kT) ({ frames := 3, cells := 0, slots := 0, locals := 66 } : Room) (va_Pc [.ref (ad 0)] (kB (dC, dI) [(cI, .int)] (RWs cI ad RA RS RN RL))) (kQ none (kB (dC, dI) [(cI, .int)] (RWs cI ad (va_up (va_up (va_up (va_up (va_up (va_up RA 21 ((m_feel RA RS RN).1)) 22 ((m_feel RA RS RN).2.1)) 23 ((m_feel RA RS RN).2.2.1)) 36 ((m_feel RA RS RN).2.2.2.1)) 37 ((m_feel RA RS RN).2.2.2.2.1)) 39 ((m_feel RA RS RN).2.2.2.2.2.1)) (va_up (va_up RS 26 ((m_feel RA RS RN).2.2.2.2.2.2.1)) 38 ((m_feel RA RS RN).2.2.2.2.2.2.2)) RN RL)) (kAA ad 24)) 0 0 (kAA ad 24) := by
  refine kMet (by decide) (fun p e s m args below meth c ls hx hb hr hml hts hown hlocks hname hargs hB hl => ?_) (Nat.le_of_ble_eq_true rfl)
  obtain ⟨hP, hK, hN⟩ := hB
  have hl : lv_has ls 5 [(0, .ref (ad 0))] := hl
  have hS : va_S (kAA ad 24) s.heap s.heap [] := va_S.rf
  have h4 : RN 4 ≤ 8 := mI_many hM
  refine lv_aload_n hx hb dX8_feel_0 rfl (lv_at hl 0 rfl) ?_
  refine k_wV (r := none) (As := []) (rest := []) hx hb hml hown hts hl.1 hP hK hN hS (c_m_load hI) eX8_212 (ci := 7) (q0 := 0) rfl rfl rfl rfl rfl (Nat.le_of_ble_eq_true rfl) ⟨Nat.le_of_ble_eq_true rfl, Nat.le_of_ble_eq_true rfl⟩ ⟨rfl, rfl⟩ ⟨Nat.le_of_ble_eq_true rfl, Nat.le_of_ble_eq_true rfl⟩ dX8_feel_1 (fun H locs hP hS => ?_)
  obtain ⟨r_7, hr_7⟩ : ∃ z, z = (m_load RA RS) := ⟨_, rfl⟩
  rw [← hr_7] at hP
  have hP : va_P (dC, dI) vwCl (RWs cI ad (va_up (va_up (va_up RA 36 r_7.1) 37 r_7.2.1) 39 r_7.2.2.1) (va_up RS 38 r_7.2.2.2) RN RL) H := (RWs_conv rfl rfl rfl rfl rfl rfl rfl rfl rfl rfl rfl rfl rfl rfl rfl rfl rfl rfl rfl rfl rfl rfl rfl rfl rfl rfl rfl rfl rfl rfl rfl rfl rfl rfl rfl rfl rfl rfl rfl rfl rfl hP)
  refine lv_iconst (v := 0) hx hb dX8_feel_4 (by decide) ?_
  refine lv_istore_n (lv' := [(1, .int 0), (0, .ref (ad 0))]) hx hb dX8_feel_5 rfl hl (by decide) rfl (fun ls hl => ?_)
  have rest_6 : ∀ (a21_6 : Nat → Int32) (a22_6 : Nat → Int32) (a23_6 : Nat → Int32) (s26_6 : Int32), ∀ (H : Heap) (locs : List Loc) (ls : Array Slot), va_P (dC, dI) vwCl (RWs cI ad (va_up (va_up (va_up (va_up (va_up (va_up RA 21 a21_6) 22 a22_6) 23 a23_6) 36 r_7.1) 37 r_7.2.1) 39 r_7.2.2.1) (va_up (va_up RS 26 s26_6) 38 r_7.2.2.2) RN RL) H → va_S (kAA ad 24) s.heap H locs → lv_has ls 5 [] → (m_feel RA RS RN) = m_feel_k6 a21_6 a22_6 a23_6 r_7.1 r_7.2.1 r_7.2.2.1 s26_6 r_7.2.2.2 → W p l e ({ frames := 3, cells := 0, slots := 0, locals := 66 } : Room) s m args below meth c H locs 0 0 (MQ below (kQ none (kB (dC, dI) [(cI, .int)] (RWs cI ad (va_up (va_up (va_up (va_up (va_up (va_up RA 21 ((m_feel RA RS RN).1)) 22 ((m_feel RA RS RN).2.1)) 23 ((m_feel RA RS RN).2.2.1)) 36 ((m_feel RA RS RN).2.2.2.1)) 37 ((m_feel RA RS RN).2.2.2.2.1)) 39 ((m_feel RA RS RN).2.2.2.2.2.1)) (va_up (va_up RS 26 ((m_feel RA RS RN).2.2.2.2.2.2.1)) 38 ((m_feel RA RS RN).2.2.2.2.2.2.2)) RN RL)) (kAA ad 24)) args s 0 0 (kAA ad 24)) (F0 m 194 ls []) := by
    intro a21_6 a22_6 a23_6 s26_6 H locs ls hP hS hl  hF_6
    have hE : (m_feel RA RS RN) = (a21_6, a22_6, a23_6, r_7.1, r_7.2.1, r_7.2.2.1, s26_6, r_7.2.2.2) := by subst hr_7; exact hF_6.trans (by rw [m_feel_k6])
    exact W.vret hx hb hr (fun t ht hW => ⟨rfl, by rw [hE]; exact kB.of (ws := RWs cI ad (va_up (va_up (va_up (va_up (va_up (va_up RA 21 a21_6) 22 a22_6) 23 a23_6) 36 r_7.1) 37 r_7.2.1) 39 r_7.2.2.1) (va_up (va_up RS 26 s26_6) 38 r_7.2.2.2) RN RL) hP hK hN ht hW, hS.F ht⟩) hS.2.2 dX8_feel_194 hlocks
  have loop_6 : ∀ (n_6 i_6 : Nat) (a21_6 : Nat → Int32) (a22_6 : Nat → Int32) (a23_6 : Nat → Int32) (s26_6 : Int32), i_6 + n_6 = (RN 4) → ∀ (H : Heap) (locs : List Loc) (ls : Array Slot), va_P (dC, dI) vwCl (RWs cI ad (va_up (va_up (va_up (va_up (va_up (va_up RA 21 a21_6) 22 a22_6) 23 a23_6) 36 r_7.1) 37 r_7.2.1) 39 r_7.2.2.1) (va_up (va_up RS 26 s26_6) 38 r_7.2.2.2) RN RL) H → va_S (kAA ad 24) s.heap H locs → lv_has ls 5 [(0, .ref (ad 0)), (1, .int (nI i_6))] → (∀ (H : Heap) (locs : List Loc) (ls : Array Slot), va_P (dC, dI) vwCl (RWs cI ad (va_up (va_up (va_up (va_up (va_up (va_up RA 21 ((m_feel_L6 RA RS r_7.1 r_7.2.1 r_7.2.2.1 r_7.2.2.2 n_6 i_6 a21_6 a22_6 a23_6 s26_6).1)) 22 ((m_feel_L6 RA RS r_7.1 r_7.2.1 r_7.2.2.1 r_7.2.2.2 n_6 i_6 a21_6 a22_6 a23_6 s26_6).2.1)) 23 ((m_feel_L6 RA RS r_7.1 r_7.2.1 r_7.2.2.1 r_7.2.2.2 n_6 i_6 a21_6 a22_6 a23_6 s26_6).2.2.1)) 36 r_7.1) 37 r_7.2.1) 39 r_7.2.2.1) (va_up (va_up RS 26 ((m_feel_L6 RA RS r_7.1 r_7.2.1 r_7.2.2.1 r_7.2.2.2 n_6 i_6 a21_6 a22_6 a23_6 s26_6).2.2.2)) 38 r_7.2.2.2) RN RL) H → va_S (kAA ad 24) s.heap H locs → lv_has ls 5 [] → W p l e ({ frames := 3, cells := 0, slots := 0, locals := 66 } : Room) s m args below meth c H locs 0 0 (MQ below (kQ none (kB (dC, dI) [(cI, .int)] (RWs cI ad (va_up (va_up (va_up (va_up (va_up (va_up RA 21 ((m_feel RA RS RN).1)) 22 ((m_feel RA RS RN).2.1)) 23 ((m_feel RA RS RN).2.2.1)) 36 ((m_feel RA RS RN).2.2.2.1)) 37 ((m_feel RA RS RN).2.2.2.2.1)) 39 ((m_feel RA RS RN).2.2.2.2.2.1)) (va_up (va_up RS 26 ((m_feel RA RS RN).2.2.2.2.2.2.1)) 38 ((m_feel RA RS RN).2.2.2.2.2.2.2)) RN RL)) (kAA ad 24)) args s 0 0 (kAA ad 24)) (F0 m 194 ls [])) → W p l e ({ frames := 3, cells := 0, slots := 0, locals := 66 } : Room) s m args below meth c H locs 0 0 (MQ below (kQ none (kB (dC, dI) [(cI, .int)] (RWs cI ad (va_up (va_up (va_up (va_up (va_up (va_up RA 21 ((m_feel RA RS RN).1)) 22 ((m_feel RA RS RN).2.1)) 23 ((m_feel RA RS RN).2.2.1)) 36 ((m_feel RA RS RN).2.2.2.1)) 37 ((m_feel RA RS RN).2.2.2.2.1)) 39 ((m_feel RA RS RN).2.2.2.2.2.1)) (va_up (va_up RS 26 ((m_feel RA RS RN).2.2.2.2.2.2.1)) 38 ((m_feel RA RS RN).2.2.2.2.2.2.2)) RN RL)) (kAA ad 24)) args s 0 0 (kAA ad 24)) (F0 m 6 ls []) := by
    intro n_6
    induction n_6 with
    | zero =>
      intro i_6 a21_6 a22_6 a23_6 s26_6 hin_6 H locs ls hP hS hl  hk_6
      refine lv_iload_n hx hb dX8_feel_6 rfl (lv_at hl 1 rfl) ?_
      refine lv_aload_n hx hb dX8_feel_7 rfl (lv_at hl 0 rfl) ?_
      refine m_get (v := .int (nI (RN 4))) hx hb hts hown hK hP 4 (by decide) rfl kX8_82 rfl dX8_feel_8 ?_
      refine lv_icmp_ge (tgt := 194) hx hb dX8_feel_11 (by decide) (fun _ => ?_) (fun c_8 => absurd (kct_ge (N := (RN 4)) (nI_clamp (by omega)) (by omega) (by omega)) c_8)
      have hL_6 : (m_feel_L6 RA RS r_7.1 r_7.2.1 r_7.2.2.1 r_7.2.2.2 0 i_6 a21_6 a22_6 a23_6 s26_6) = (a21_6, a22_6, a23_6, s26_6) := by subst hr_7; rw [m_feel_L6.eq_1]
      try rw [hL_6] at hk_6
      exact hk_6 _ _ _ hP hS (lv_sub hl [] rfl) 
    | succ n_6 ih_6 =>
      intro i_6 a21_6 a22_6 a23_6 s26_6 hin_6 H locs ls hP hS hl  hk_6
      have h12 := mI_bm hM i_6 (by omega)
      refine lv_iload_n hx hb dX8_feel_6 rfl (lv_at hl 1 rfl) ?_
      refine lv_aload_n hx hb dX8_feel_7 rfl (lv_at hl 0 rfl) ?_
      refine m_get (v := .int (nI (RN 4))) hx hb hts hown hK hP 4 (by decide) rfl kX8_82 rfl dX8_feel_8 ?_
      refine lv_icmp_ge (tgt := 194) hx hb dX8_feel_11 (by decide) (fun c_9 => absurd c_9 (kct_lt (N := (RN 4)) (nI_clamp (by omega)) (by omega))) (fun _ => ?_)
      refine lv_aload_n hx hb dX8_feel_14 rfl (lv_at hl 0 rfl) ?_
      refine m_get (v := .int s26_6) hx hb hts hown hK hP 26 (by decide) rfl kX8_163 rfl dX8_feel_15 ?_
      refine lv_iload_n hx hb dX8_feel_18 rfl (lv_at hl 1 rfl) ?_
      refine k_rS (v := .int (m_has s26_6 (nI i_6))) (As := [.int s26_6, .int (nI i_6)]) (rest := []) hx hb hml hown hts hl.1 (B := fun _ => True) (fun _ _ _ _ q => q) (fun _ _ _ => trivial) (c_m_has s26_6 (nI i_6)) eX8_204 rfl rfl (Nat.le_of_ble_eq_true rfl) ⟨Nat.le_of_ble_eq_true rfl, Nat.le_of_ble_eq_true rfl⟩ ⟨rfl, rfl⟩ ⟨Nat.le_of_ble_eq_true rfl, Nat.le_of_ble_eq_true rfl⟩ dX8_feel_19 ?_
      refine lv_if_eq (tgt := 188) hx hb dX8_feel_22 (by decide) (fun c_10 => ?_) (fun c_10 => ?_)
      · refine lv_iinc (v := (nI (i_6 + 1))) (lv' := [(1, .int (nI (i_6 + 1))), (0, .ref (ad 0))]) hx hb dX8_feel_188 hl (k := 1) rfl (nI_add _ _) (by decide) rfl (fun ls hl => ?_)
        refine lv_goto (tgt := 6) hx hb dX8_feel_191 (by decide) ?_
        have hb_6 : (m_feel_b6 RA RS r_7.1 r_7.2.1 r_7.2.2.1 r_7.2.2.2 i_6 a21_6 a22_6 a23_6 s26_6) = (a21_6, a22_6, a23_6, s26_6) := by subst hr_7; rw [m_feel_b6, if_pos c_10]
        have hL_6 : (m_feel_L6 RA RS r_7.1 r_7.2.1 r_7.2.2.1 r_7.2.2.2 (n_6 + 1) i_6 a21_6 a22_6 a23_6 s26_6) = (m_feel_L6 RA RS r_7.1 r_7.2.1 r_7.2.2.1 r_7.2.2.2 n_6 (i_6 + 1) a21_6 a22_6 a23_6 s26_6) := by rw [m_feel_L6.eq_2, hb_6]
        try rw [hL_6] at hk_6
        exact ih_6 (i_6 + 1) a21_6 a22_6 a23_6 s26_6 (by omega) _ _ _ hP hS (lv_sub hl [1, 0] rfl)  hk_6
      · refine lv_aload_n hx hb dX8_feel_25 rfl (lv_at hl 0 rfl) ?_
        refine lv_iload_n hx hb dX8_feel_26 rfl (lv_at hl 1 rfl) ?_
        refine lv_iconst (v := 0) hx hb dX8_feel_27 (by decide) ?_
        refine lv_iconst (v := 0) hx hb dX8_feel_28 (by decide) ?_
        refine k_rV (v := .int (m_felt (va_up (va_up (va_up (va_up (va_up (va_up RA 21 a21_6) 22 a22_6) 23 a23_6) 36 r_7.1) 37 r_7.2.1) 39 r_7.2.2.1) (va_up (va_up RS 26 s26_6) 38 r_7.2.2.2) i_6 0 0)) (As := [.int (nI i_6), .int 0, .int 0]) (rest := []) hx hb hml hown hts hl.1 hP hK hN (c_m_felt hI i_6 0 0 hM (by omega)) eX8_215 (ci := 7) (q0 := 0) rfl rfl rfl rfl rfl (Nat.le_of_ble_eq_true rfl) ⟨Nat.le_of_ble_eq_true rfl, Nat.le_of_ble_eq_true rfl⟩ ⟨rfl, rfl⟩ ⟨Nat.le_of_ble_eq_true rfl, Nat.le_of_ble_eq_true rfl⟩ dX8_feel_29 ?_
        refine lv_istore_n (lv' := [(2, .int (m_felt (va_up (va_up (va_up (va_up (va_up (va_up RA 21 a21_6) 22 a22_6) 23 a23_6) 36 r_7.1) 37 r_7.2.1) 39 r_7.2.2.1) (va_up (va_up RS 26 s26_6) 38 r_7.2.2.2) i_6 0 0)), (0, .ref (ad 0)), (1, .int (nI i_6))]) hx hb dX8_feel_32 rfl hl (by decide) rfl (fun ls hl => ?_)
        refine lv_aload_n hx hb dX8_feel_33 rfl (lv_at hl 1 rfl) ?_
        refine lv_iload_n hx hb dX8_feel_34 rfl (lv_at hl 2 rfl) ?_
        refine lv_iload_n hx hb dX8_feel_35 rfl (lv_at hl 0 rfl) ?_
        refine k_rV (v := .int (m_below (va_up (va_up (va_up (va_up (va_up (va_up RA 21 a21_6) 22 a22_6) 23 a23_6) 36 r_7.1) 37 r_7.2.1) 39 r_7.2.2.1) i_6 (m_felt (va_up (va_up (va_up (va_up (va_up (va_up RA 21 a21_6) 22 a22_6) 23 a23_6) 36 r_7.1) 37 r_7.2.1) 39 r_7.2.2.1) (va_up (va_up RS 26 s26_6) 38 r_7.2.2.2) i_6 0 0))) (As := [.int (nI i_6), .int (m_felt (va_up (va_up (va_up (va_up (va_up (va_up RA 21 a21_6) 22 a22_6) 23 a23_6) 36 r_7.1) 37 r_7.2.1) 39 r_7.2.2.1) (va_up (va_up RS 26 s26_6) 38 r_7.2.2.2) i_6 0 0)]) (rest := []) hx hb hml hown hts hl.1 hP hK hN (c_m_below hI i_6 (m_felt (va_up (va_up (va_up (va_up (va_up (va_up RA 21 a21_6) 22 a22_6) 23 a23_6) 36 r_7.1) 37 r_7.2.1) 39 r_7.2.2.1) (va_up (va_up RS 26 s26_6) 38 r_7.2.2.2) i_6 0 0) hM (by omega)) eX8_209 (ci := 7) (q0 := 0) rfl rfl rfl rfl rfl (Nat.le_of_ble_eq_true rfl) ⟨Nat.le_of_ble_eq_true rfl, Nat.le_of_ble_eq_true rfl⟩ ⟨rfl, rfl⟩ ⟨Nat.le_of_ble_eq_true rfl, Nat.le_of_ble_eq_true rfl⟩ dX8_feel_36 ?_
        refine lv_aload_n hx hb dX8_feel_39 rfl (lv_at hl 1 rfl) ?_
        refine lv_iload_n hx hb dX8_feel_40 rfl (lv_at hl 2 rfl) ?_
        refine k_rV (v := .int (m_chances (va_up (va_up (va_up (va_up (va_up (va_up RA 21 a21_6) 22 a22_6) 23 a23_6) 36 r_7.1) 37 r_7.2.1) 39 r_7.2.2.1) i_6)) (As := [.int (nI i_6)]) (rest := [.int (m_below (va_up (va_up (va_up (va_up (va_up (va_up RA 21 a21_6) 22 a22_6) 23 a23_6) 36 r_7.1) 37 r_7.2.1) 39 r_7.2.2.1) i_6 (m_felt (va_up (va_up (va_up (va_up (va_up (va_up RA 21 a21_6) 22 a22_6) 23 a23_6) 36 r_7.1) 37 r_7.2.1) 39 r_7.2.2.1) (va_up (va_up RS 26 s26_6) 38 r_7.2.2.2) i_6 0 0))]) hx hb hml hown hts hl.1 hP hK hN (c_m_chances hI i_6 hM (by omega)) eX8_218 (ci := 7) (q0 := 0) rfl rfl rfl rfl rfl (Nat.le_of_ble_eq_true rfl) ⟨Nat.le_of_ble_eq_true rfl, Nat.le_of_ble_eq_true rfl⟩ ⟨rfl, rfl⟩ ⟨Nat.le_of_ble_eq_true rfl, Nat.le_of_ble_eq_true rfl⟩ dX8_feel_41 ?_
        refine lv_icmp_ne (tgt := 84) hx hb dX8_feel_44 (by decide) (fun c_11 => ?_) (fun c_11 => ?_)
        · refine lv_aload_n hx hb dX8_feel_84 rfl (lv_at hl 1 rfl) ?_
          refine lv_iload_n hx hb dX8_feel_85 rfl (lv_at hl 2 rfl) ?_
          refine lv_aload_n hx hb dX8_feel_86 rfl (lv_at hl 1 rfl) ?_
          refine m_get (v := .ref (ad 13)) hx hb hts hown hK hP 21 (by decide) rfl kX8_46 rfl dX8_feel_87 ?_
          refine lv_iconst (v := 2) hx hb dX8_feel_90 (by decide) ?_
          refine lv_iload_n hx hb dX8_feel_91 rfl (lv_at hl 2 rfl) ?_
          refine kn_imul hx hb 2 i_6 rfl rfl dX8_feel_92 ?_
          refine kn_iald (f := a21_6) (v := (a21_6 (2 * i_6))) hx hb hK hP 13 rfl (2 * i_6) rfl (by omega) (by omega) rfl dX8_feel_93 ?_
          refine lv_aload_n hx hb dX8_feel_94 rfl (lv_at hl 1 rfl) ?_
          refine m_get (v := .ref (ad 13)) hx hb hts hown hK hP 21 (by decide) rfl kX8_46 rfl dX8_feel_95 ?_
          refine lv_iconst (v := 2) hx hb dX8_feel_98 (by decide) ?_
          refine lv_iload_n hx hb dX8_feel_99 rfl (lv_at hl 2 rfl) ?_
          refine kn_imul hx hb 2 i_6 rfl rfl dX8_feel_100 ?_
          refine lv_iconst (v := 1) hx hb dX8_feel_101 (by decide) ?_
          refine kn_iadd hx hb (2 * i_6) 1 rfl rfl dX8_feel_102 ?_
          refine kn_iald (f := a21_6) (v := (a21_6 ((2 * i_6) + 1))) hx hb hK hP 13 rfl ((2 * i_6) + 1) rfl (by omega) (by omega) rfl dX8_feel_103 ?_
          refine k_rV (v := .int (m_pressOf (va_up (va_up (va_up (va_up (va_up (va_up RA 21 a21_6) 22 a22_6) 23 a23_6) 36 r_7.1) 37 r_7.2.1) 39 r_7.2.2.1) i_6 (a21_6 (2 * i_6)) (a21_6 ((2 * i_6) + 1)))) (As := [.int (nI i_6), .int (a21_6 (2 * i_6)), .int (a21_6 ((2 * i_6) + 1))]) (rest := []) hx hb hml hown hts hl.1 hP hK hN (c_m_pressOf hI i_6 (a21_6 (2 * i_6)) (a21_6 ((2 * i_6) + 1)) (by omega)) eX8_197 (ci := 7) (q0 := 0) rfl rfl rfl rfl rfl (Nat.le_of_ble_eq_true rfl) ⟨Nat.le_of_ble_eq_true rfl, Nat.le_of_ble_eq_true rfl⟩ ⟨rfl, rfl⟩ ⟨Nat.le_of_ble_eq_true rfl, Nat.le_of_ble_eq_true rfl⟩ dX8_feel_104 ?_
          refine lv_istore_n (lv' := [(3, .int (m_pressOf (va_up (va_up (va_up (va_up (va_up (va_up RA 21 a21_6) 22 a22_6) 23 a23_6) 36 r_7.1) 37 r_7.2.1) 39 r_7.2.2.1) i_6 (a21_6 (2 * i_6)) (a21_6 ((2 * i_6) + 1)))), (2, .int (m_felt (va_up (va_up (va_up (va_up (va_up (va_up RA 21 a21_6) 22 a22_6) 23 a23_6) 36 r_7.1) 37 r_7.2.1) 39 r_7.2.2.1) (va_up (va_up RS 26 s26_6) 38 r_7.2.2.2) i_6 0 0)), (0, .ref (ad 0)), (1, .int (nI i_6))]) hx hb dX8_feel_107 rfl hl (by decide) rfl (fun ls hl => ?_)
          refine lv_aload_n hx hb dX8_feel_108 rfl (lv_at hl 2 rfl) ?_
          refine m_get (v := .ref (ad 15)) hx hb hts hown hK hP 23 (by decide) rfl kX8_52 rfl dX8_feel_109 ?_
          refine lv_iload_n hx hb dX8_feel_112 rfl (lv_at hl 3 rfl) ?_
          refine lv_iload_n hx hb dX8_feel_113 rfl (lv_at hl 0 rfl) ?_
          refine lv_aload_n hx hb dX8_feel_114 rfl (lv_at hl 2 rfl) ?_
          refine m_get (v := .ref (ad 15)) hx hb hts hown hK hP 23 (by decide) rfl kX8_52 rfl dX8_feel_115 ?_
          refine lv_iload_n hx hb dX8_feel_118 rfl (lv_at hl 3 rfl) ?_
          refine kn_iald (f := a23_6) (v := (a23_6 i_6)) hx hb hK hP 15 rfl i_6 rfl (by omega) (by omega) rfl dX8_feel_119 ?_
          refine lv_icmp_le (tgt := 127) hx hb dX8_feel_120 (by decide) (fun c_12 => ?_) (fun c_12 => ?_)
          · refine lv_aload_n hx hb dX8_feel_127 rfl (lv_at hl 2 rfl) ?_
            refine m_get (v := .ref (ad 15)) hx hb hts hown hK hP 23 (by decide) rfl kX8_52 rfl dX8_feel_128 ?_
            refine lv_iload_n hx hb dX8_feel_131 rfl (lv_at hl 3 rfl) ?_
            refine kn_iald (f := a23_6) (v := (a23_6 i_6)) hx hb hK hP 15 rfl i_6 rfl (by omega) (by omega) rfl dX8_feel_132 ?_
            refine kn_iast (f := a23_6) (ws' := RWs cI ad (va_up (va_up (va_up (va_up (va_up (va_up RA 21 a21_6) 22 a22_6) 23 (upd a23_6 i_6 (a23_6 i_6))) 36 r_7.1) 37 r_7.2.1) 39 r_7.2.2.1) (va_up (va_up RS 26 s26_6) 38 r_7.2.2.2) RN RL) hx hb hK hP (RWsD hI) hS 15 rfl i_6 rfl (by omega) (by omega) rfl dX8_feel_133 (fun H locs hP hS => ?_)
            refine lv_iconst (v := 0) hx hb dX8_feel_134 (by decide) ?_
            refine lv_istore (lv' := [(4, .int 0), (3, .int (m_pressOf (va_up (va_up (va_up (va_up (va_up (va_up RA 21 a21_6) 22 a22_6) 23 a23_6) 36 r_7.1) 37 r_7.2.1) 39 r_7.2.2.1) i_6 (a21_6 (2 * i_6)) (a21_6 ((2 * i_6) + 1)))), (2, .int (m_felt (va_up (va_up (va_up (va_up (va_up (va_up RA 21 a21_6) 22 a22_6) 23 a23_6) 36 r_7.1) 37 r_7.2.1) 39 r_7.2.2.1) (va_up (va_up RS 26 s26_6) 38 r_7.2.2.2) i_6 0 0)), (0, .ref (ad 0)), (1, .int (nI i_6))]) hx hb dX8_feel_135 hl (by decide) rfl (fun ls hl => ?_)
            have rest_137 : ∀ (a22_137 : Nat → Int32), ∀ (H : Heap) (locs : List Loc) (ls : Array Slot), va_P (dC, dI) vwCl (RWs cI ad (va_up (va_up (va_up (va_up (va_up (va_up RA 21 a21_6) 22 a22_137) 23 (upd a23_6 i_6 (a23_6 i_6))) 36 r_7.1) 37 r_7.2.1) 39 r_7.2.2.1) (va_up (va_up RS 26 s26_6) 38 r_7.2.2.2) RN RL) H → va_S (kAA ad 24) s.heap H locs → lv_has ls 5 [(0, .ref (ad 0)), (1, .int (nI i_6))] → (m_feel_b6 RA RS r_7.1 r_7.2.1 r_7.2.2.1 r_7.2.2.2 i_6 a21_6 a22_6 a23_6 s26_6) = m_feel_b6_k137 a21_6 a22_137 (upd a23_6 i_6 (a23_6 i_6)) s26_6 → W p l e ({ frames := 3, cells := 0, slots := 0, locals := 66 } : Room) s m args below meth c H locs 0 0 (MQ below (kQ none (kB (dC, dI) [(cI, .int)] (RWs cI ad (va_up (va_up (va_up (va_up (va_up (va_up RA 21 ((m_feel RA RS RN).1)) 22 ((m_feel RA RS RN).2.1)) 23 ((m_feel RA RS RN).2.2.1)) 36 ((m_feel RA RS RN).2.2.2.1)) 37 ((m_feel RA RS RN).2.2.2.2.1)) 39 ((m_feel RA RS RN).2.2.2.2.2.1)) (va_up (va_up RS 26 ((m_feel RA RS RN).2.2.2.2.2.2.1)) 38 ((m_feel RA RS RN).2.2.2.2.2.2.2)) RN RL)) (kAA ad 24)) args s 0 0 (kAA ad 24)) (F0 m 188 ls []) := by
              intro a22_137 H locs ls hP hS hl  hF_137
              refine lv_iinc (v := (nI (i_6 + 1))) (lv' := [(1, .int (nI (i_6 + 1))), (0, .ref (ad 0))]) hx hb dX8_feel_188 hl (k := 1) rfl (nI_add _ _) (by decide) rfl (fun ls hl => ?_)
              refine lv_goto (tgt := 6) hx hb dX8_feel_191 (by decide) ?_
              have hb_6 : (m_feel_b6 RA RS r_7.1 r_7.2.1 r_7.2.2.1 r_7.2.2.2 i_6 a21_6 a22_6 a23_6 s26_6) = (a21_6, a22_137, (upd a23_6 i_6 (a23_6 i_6)), s26_6) := by subst hr_7; exact hF_137.trans (by rw [m_feel_b6_k137])
              have hL_6 : (m_feel_L6 RA RS r_7.1 r_7.2.1 r_7.2.2.1 r_7.2.2.2 (n_6 + 1) i_6 a21_6 a22_6 a23_6 s26_6) = (m_feel_L6 RA RS r_7.1 r_7.2.1 r_7.2.2.1 r_7.2.2.2 n_6 (i_6 + 1) a21_6 a22_137 (upd a23_6 i_6 (a23_6 i_6)) s26_6) := by rw [m_feel_L6.eq_2, hb_6]
              try rw [hL_6] at hk_6
              exact ih_6 (i_6 + 1) a21_6 a22_137 (upd a23_6 i_6 (a23_6 i_6)) s26_6 (by omega) _ _ _ hP hS (lv_sub hl [1, 0] rfl)  hk_6
            have hN_137 : ((RA 12 i_6).toNatClampNeg) < 2 ^ 31 := kcl_lt _
            have loop_137 : ∀ (n_137 i_137 : Nat) (a22_137 : Nat → Int32), i_137 + n_137 = (RA 12 i_6).toNatClampNeg → ∀ (H : Heap) (locs : List Loc) (ls : Array Slot), va_P (dC, dI) vwCl (RWs cI ad (va_up (va_up (va_up (va_up (va_up (va_up RA 21 a21_6) 22 a22_137) 23 (upd a23_6 i_6 (a23_6 i_6))) 36 r_7.1) 37 r_7.2.1) 39 r_7.2.2.1) (va_up (va_up RS 26 s26_6) 38 r_7.2.2.2) RN RL) H → va_S (kAA ad 24) s.heap H locs → lv_has ls 5 [(0, .ref (ad 0)), (1, .int (nI i_6)), (2, .int (m_felt (va_up (va_up (va_up (va_up (va_up (va_up RA 21 a21_6) 22 a22_6) 23 a23_6) 36 r_7.1) 37 r_7.2.1) 39 r_7.2.2.1) (va_up (va_up RS 26 s26_6) 38 r_7.2.2.2) i_6 0 0)), (4, .int (nI i_137))] → (∀ (H : Heap) (locs : List Loc) (ls : Array Slot), va_P (dC, dI) vwCl (RWs cI ad (va_up (va_up (va_up (va_up (va_up (va_up RA 21 a21_6) 22 (m_feel_L137 RA i_6 (m_felt (va_up (va_up (va_up (va_up (va_up (va_up RA 21 a21_6) 22 a22_6) 23 a23_6) 36 r_7.1) 37 r_7.2.1) 39 r_7.2.2.1) (va_up (va_up RS 26 s26_6) 38 r_7.2.2.2) i_6 0 0) n_137 i_137 a22_137)) 23 (upd a23_6 i_6 (a23_6 i_6))) 36 r_7.1) 37 r_7.2.1) 39 r_7.2.2.1) (va_up (va_up RS 26 s26_6) 38 r_7.2.2.2) RN RL) H → va_S (kAA ad 24) s.heap H locs → lv_has ls 5 [(0, .ref (ad 0)), (1, .int (nI i_6))] → W p l e ({ frames := 3, cells := 0, slots := 0, locals := 66 } : Room) s m args below meth c H locs 0 0 (MQ below (kQ none (kB (dC, dI) [(cI, .int)] (RWs cI ad (va_up (va_up (va_up (va_up (va_up (va_up RA 21 ((m_feel RA RS RN).1)) 22 ((m_feel RA RS RN).2.1)) 23 ((m_feel RA RS RN).2.2.1)) 36 ((m_feel RA RS RN).2.2.2.1)) 37 ((m_feel RA RS RN).2.2.2.2.1)) 39 ((m_feel RA RS RN).2.2.2.2.2.1)) (va_up (va_up RS 26 ((m_feel RA RS RN).2.2.2.2.2.2.1)) 38 ((m_feel RA RS RN).2.2.2.2.2.2.2)) RN RL)) (kAA ad 24)) args s 0 0 (kAA ad 24)) (F0 m 188 ls [])) → W p l e ({ frames := 3, cells := 0, slots := 0, locals := 66 } : Room) s m args below meth c H locs 0 0 (MQ below (kQ none (kB (dC, dI) [(cI, .int)] (RWs cI ad (va_up (va_up (va_up (va_up (va_up (va_up RA 21 ((m_feel RA RS RN).1)) 22 ((m_feel RA RS RN).2.1)) 23 ((m_feel RA RS RN).2.2.1)) 36 ((m_feel RA RS RN).2.2.2.1)) 37 ((m_feel RA RS RN).2.2.2.2.1)) 39 ((m_feel RA RS RN).2.2.2.2.2.1)) (va_up (va_up RS 26 ((m_feel RA RS RN).2.2.2.2.2.2.1)) 38 ((m_feel RA RS RN).2.2.2.2.2.2.2)) RN RL)) (kAA ad 24)) args s 0 0 (kAA ad 24)) (F0 m 137 ls []) := by
              intro n_137
              induction n_137 with
              | zero =>
                intro i_137 a22_137 hin_137 H locs ls hP hS hl  hk_137
                refine lv_iload hx hb dX8_feel_137 (lv_at hl 3 rfl) ?_
                refine lv_aload_n hx hb dX8_feel_139 rfl (lv_at hl 0 rfl) ?_
                refine m_get (v := .ref (ad 10)) hx hb hts hown hK hP 12 (by decide) rfl kX8_37 rfl dX8_feel_140 ?_
                refine lv_iload_n hx hb dX8_feel_143 rfl (lv_at hl 1 rfl) ?_
                refine kn_iald (f := (RA 12)) (v := (RA 12 i_6)) hx hb hK hP 10 rfl i_6 rfl (by omega) (by omega) rfl dX8_feel_144 ?_
                refine lv_icmp_ge (tgt := 188) hx hb dX8_feel_145 (by decide) (fun _ => ?_) (fun c_13 => absurd (kct_ge (N := (RA 12 i_6).toNatClampNeg) rfl (by omega) (by omega)) c_13)
                have hL_137 : (m_feel_L137 RA i_6 (m_felt (va_up (va_up (va_up (va_up (va_up (va_up RA 21 a21_6) 22 a22_6) 23 a23_6) 36 r_7.1) 37 r_7.2.1) 39 r_7.2.2.1) (va_up (va_up RS 26 s26_6) 38 r_7.2.2.2) i_6 0 0) 0 i_137 a22_137) = a22_137 := by subst hr_7; rw [m_feel_L137.eq_1]
                try rw [hL_137] at hk_137
                exact hk_137 _ _ _ hP hS (lv_sub hl [0, 1] rfl) 
              | succ n_137 ih_137 =>
                intro i_137 a22_137 hin_137 H locs ls hP hS hl  hk_137
                refine lv_iload hx hb dX8_feel_137 (lv_at hl 3 rfl) ?_
                refine lv_aload_n hx hb dX8_feel_139 rfl (lv_at hl 0 rfl) ?_
                refine m_get (v := .ref (ad 10)) hx hb hts hown hK hP 12 (by decide) rfl kX8_37 rfl dX8_feel_140 ?_
                refine lv_iload_n hx hb dX8_feel_143 rfl (lv_at hl 1 rfl) ?_
                refine kn_iald (f := (RA 12)) (v := (RA 12 i_6)) hx hb hK hP 10 rfl i_6 rfl (by omega) (by omega) rfl dX8_feel_144 ?_
                refine lv_icmp_ge (tgt := 188) hx hb dX8_feel_145 (by decide) (fun c_14 => absurd c_14 (kct_lt (N := (RA 12 i_6).toNatClampNeg) rfl (by omega))) (fun _ => ?_)
                refine lv_aload_n hx hb dX8_feel_148 rfl (lv_at hl 0 rfl) ?_
                refine m_get (v := .ref (ad 14)) hx hb hts hown hK hP 22 (by decide) rfl kX8_49 rfl dX8_feel_149 ?_
                refine lv_iload_n hx hb dX8_feel_152 rfl (lv_at hl 1 rfl) ?_
                refine lv_dup2_11 hx hb dX8_feel_153 rfl rfl ?_
                refine kn_iald (f := a22_137) (v := (a22_137 i_6)) hx hb hK hP 14 rfl i_6 rfl (by omega) (by omega) rfl dX8_feel_154 ?_
                refine lv_aload_n hx hb dX8_feel_155 rfl (lv_at hl 0 rfl) ?_
                refine m_get (v := .ref (ad 8)) hx hb hts hown hK hP 10 (by decide) rfl kX8_31 rfl dX8_feel_156 ?_
                refine lv_iconst (v := 4) hx hb dX8_feel_159 (by decide) ?_
                refine lv_iload_n hx hb dX8_feel_160 rfl (lv_at hl 1 rfl) ?_
                refine kn_imul hx hb 4 i_6 rfl rfl dX8_feel_161 ?_
                refine lv_iload hx hb dX8_feel_162 (lv_at hl 3 rfl) ?_
                refine kn_iadd hx hb (4 * i_6) i_137 rfl rfl dX8_feel_164 ?_
                refine kn_iald (f := (RA 10)) (v := (RA 10 ((4 * i_6) + i_137))) hx hb hK hP 8 rfl ((4 * i_6) + i_137) rfl (by omega) (by omega) rfl dX8_feel_165 ?_
                refine lv_iload_n hx hb dX8_feel_166 rfl (lv_at hl 2 rfl) ?_
                refine lv_icmp_ge (tgt := 179) hx hb dX8_feel_167 (by decide) (fun c_15 => ?_) (fun c_15 => ?_)
                · refine lv_iconst (v := (-1)) hx hb dX8_feel_179 (by decide) ?_
                  refine lv_iand hx hb dX8_feel_180 ?_
                  refine kn_iast (f := a22_137) (ws' := RWs cI ad (va_up (va_up (va_up (va_up (va_up (va_up RA 21 a21_6) 22 (upd a22_137 i_6 ((a22_137 i_6) &&& (-1)))) 23 (upd a23_6 i_6 (a23_6 i_6))) 36 r_7.1) 37 r_7.2.1) 39 r_7.2.2.1) (va_up (va_up RS 26 s26_6) 38 r_7.2.2.2) RN RL) hx hb hK hP (RWsD hI) hS 14 rfl i_6 rfl (by omega) (by omega) rfl dX8_feel_181 (fun H locs hP hS => ?_)
                  refine lv_iinc (v := (nI (i_137 + 1))) (lv' := [(4, .int (nI (i_137 + 1))), (0, .ref (ad 0)), (1, .int (nI i_6)), (2, .int (m_felt (va_up (va_up (va_up (va_up (va_up (va_up RA 21 a21_6) 22 a22_6) 23 a23_6) 36 r_7.1) 37 r_7.2.1) 39 r_7.2.2.1) (va_up (va_up RS 26 s26_6) 38 r_7.2.2.2) i_6 0 0))]) hx hb dX8_feel_182 hl (k := 3) rfl (nI_add _ _) (by decide) rfl (fun ls hl => ?_)
                  refine lv_goto (tgt := 137) hx hb dX8_feel_185 (by decide) ?_
                  have hL_137 : (m_feel_L137 RA i_6 (m_felt (va_up (va_up (va_up (va_up (va_up (va_up RA 21 a21_6) 22 a22_6) 23 a23_6) 36 r_7.1) 37 r_7.2.1) 39 r_7.2.2.1) (va_up (va_up RS 26 s26_6) 38 r_7.2.2.2) i_6 0 0) (n_137 + 1) i_137 a22_137) = (m_feel_L137 RA i_6 (m_felt (va_up (va_up (va_up (va_up (va_up (va_up RA 21 a21_6) 22 a22_6) 23 a23_6) 36 r_7.1) 37 r_7.2.1) 39 r_7.2.2.1) (va_up (va_up RS 26 s26_6) 38 r_7.2.2.2) i_6 0 0) n_137 (i_137 + 1) (upd a22_137 i_6 ((a22_137 i_6) &&& (-1)))) := by subst hr_7; rw [m_feel_L137.eq_2, if_pos c_15]
                  try rw [hL_137] at hk_137
                  exact ih_137 (i_137 + 1) (upd a22_137 i_6 ((a22_137 i_6) &&& (-1))) (by omega) _ _ _ hP hS (lv_sub hl [1, 2, 3, 0] rfl)  hk_137
                · refine lv_iconst (v := 1) hx hb dX8_feel_170 (by decide) ?_
                  refine lv_iload hx hb dX8_feel_171 (lv_at hl 3 rfl) ?_
                  refine lv_ishl hx hb dX8_feel_173 ?_
                  refine lv_iconst (v := (-1)) hx hb dX8_feel_174 (by decide) ?_
                  refine lv_ixor hx hb dX8_feel_175 ?_
                  refine lv_goto (tgt := 180) hx hb dX8_feel_176 (by decide) ?_
                  refine lv_iand hx hb dX8_feel_180 ?_
                  refine kn_iast (f := a22_137) (ws' := RWs cI ad (va_up (va_up (va_up (va_up (va_up (va_up RA 21 a21_6) 22 (upd a22_137 i_6 ((a22_137 i_6) &&& ((1 <<< ((nI i_137) &&& 31)) ^^^ (-1))))) 23 (upd a23_6 i_6 (a23_6 i_6))) 36 r_7.1) 37 r_7.2.1) 39 r_7.2.2.1) (va_up (va_up RS 26 s26_6) 38 r_7.2.2.2) RN RL) hx hb hK hP (RWsD hI) hS 14 rfl i_6 rfl (by omega) (by omega) rfl dX8_feel_181 (fun H locs hP hS => ?_)
                  refine lv_iinc (v := (nI (i_137 + 1))) (lv' := [(4, .int (nI (i_137 + 1))), (0, .ref (ad 0)), (1, .int (nI i_6)), (2, .int (m_felt (va_up (va_up (va_up (va_up (va_up (va_up RA 21 a21_6) 22 a22_6) 23 a23_6) 36 r_7.1) 37 r_7.2.1) 39 r_7.2.2.1) (va_up (va_up RS 26 s26_6) 38 r_7.2.2.2) i_6 0 0))]) hx hb dX8_feel_182 hl (k := 3) rfl (nI_add _ _) (by decide) rfl (fun ls hl => ?_)
                  refine lv_goto (tgt := 137) hx hb dX8_feel_185 (by decide) ?_
                  have hL_137 : (m_feel_L137 RA i_6 (m_felt (va_up (va_up (va_up (va_up (va_up (va_up RA 21 a21_6) 22 a22_6) 23 a23_6) 36 r_7.1) 37 r_7.2.1) 39 r_7.2.2.1) (va_up (va_up RS 26 s26_6) 38 r_7.2.2.2) i_6 0 0) (n_137 + 1) i_137 a22_137) = (m_feel_L137 RA i_6 (m_felt (va_up (va_up (va_up (va_up (va_up (va_up RA 21 a21_6) 22 a22_6) 23 a23_6) 36 r_7.1) 37 r_7.2.1) 39 r_7.2.2.1) (va_up (va_up RS 26 s26_6) 38 r_7.2.2.2) i_6 0 0) n_137 (i_137 + 1) (upd a22_137 i_6 ((a22_137 i_6) &&& ((1 <<< ((nI i_137) &&& 31)) ^^^ (-1))))) := by subst hr_7; rw [m_feel_L137.eq_2, if_neg c_15]
                  try rw [hL_137] at hk_137
                  exact ih_137 (i_137 + 1) (upd a22_137 i_6 ((a22_137 i_6) &&& ((1 <<< ((nI i_137) &&& 31)) ^^^ (-1)))) (by omega) _ _ _ hP hS (lv_sub hl [1, 2, 3, 0] rfl)  hk_137
            exact loop_137 ((RA 12 i_6).toNatClampNeg) 0 a22_6 (by omega) _ _ _ hP hS (lv_sub hl [3, 4, 2, 0] rfl)  (fun H locs ls hP hS hl  => rest_137 (m_feel_L137 RA i_6 (m_felt (va_up (va_up (va_up (va_up (va_up (va_up RA 21 a21_6) 22 a22_6) 23 a23_6) 36 r_7.1) 37 r_7.2.1) 39 r_7.2.2.1) (va_up (va_up RS 26 s26_6) 38 r_7.2.2.2) i_6 0 0) ((RA 12 i_6).toNatClampNeg) 0 a22_6) _ _ _ hP hS hl  (by subst hr_7; rw [m_feel_b6, if_neg c_10, if_neg c_11, if_pos c_12]))
          · refine lv_iload_n hx hb dX8_feel_123 rfl (lv_at hl 0 rfl) ?_
            refine lv_goto (tgt := 133) hx hb dX8_feel_124 (by decide) ?_
            refine kn_iast (f := a23_6) (ws' := RWs cI ad (va_up (va_up (va_up (va_up (va_up (va_up RA 21 a21_6) 22 a22_6) 23 (upd a23_6 i_6 (m_pressOf (va_up (va_up (va_up (va_up (va_up (va_up RA 21 a21_6) 22 a22_6) 23 a23_6) 36 r_7.1) 37 r_7.2.1) 39 r_7.2.2.1) i_6 (a21_6 (2 * i_6)) (a21_6 ((2 * i_6) + 1))))) 36 r_7.1) 37 r_7.2.1) 39 r_7.2.2.1) (va_up (va_up RS 26 s26_6) 38 r_7.2.2.2) RN RL) hx hb hK hP (RWsD hI) hS 15 rfl i_6 rfl (by omega) (by omega) rfl dX8_feel_133 (fun H locs hP hS => ?_)
            refine lv_iconst (v := 0) hx hb dX8_feel_134 (by decide) ?_
            refine lv_istore (lv' := [(4, .int 0), (3, .int (m_pressOf (va_up (va_up (va_up (va_up (va_up (va_up RA 21 a21_6) 22 a22_6) 23 a23_6) 36 r_7.1) 37 r_7.2.1) 39 r_7.2.2.1) i_6 (a21_6 (2 * i_6)) (a21_6 ((2 * i_6) + 1)))), (2, .int (m_felt (va_up (va_up (va_up (va_up (va_up (va_up RA 21 a21_6) 22 a22_6) 23 a23_6) 36 r_7.1) 37 r_7.2.1) 39 r_7.2.2.1) (va_up (va_up RS 26 s26_6) 38 r_7.2.2.2) i_6 0 0)), (0, .ref (ad 0)), (1, .int (nI i_6))]) hx hb dX8_feel_135 hl (by decide) rfl (fun ls hl => ?_)
            have rest_137 : ∀ (a22_137 : Nat → Int32), ∀ (H : Heap) (locs : List Loc) (ls : Array Slot), va_P (dC, dI) vwCl (RWs cI ad (va_up (va_up (va_up (va_up (va_up (va_up RA 21 a21_6) 22 a22_137) 23 (upd a23_6 i_6 (m_pressOf (va_up (va_up (va_up (va_up (va_up (va_up RA 21 a21_6) 22 a22_6) 23 a23_6) 36 r_7.1) 37 r_7.2.1) 39 r_7.2.2.1) i_6 (a21_6 (2 * i_6)) (a21_6 ((2 * i_6) + 1))))) 36 r_7.1) 37 r_7.2.1) 39 r_7.2.2.1) (va_up (va_up RS 26 s26_6) 38 r_7.2.2.2) RN RL) H → va_S (kAA ad 24) s.heap H locs → lv_has ls 5 [(0, .ref (ad 0)), (1, .int (nI i_6))] → (m_feel_b6 RA RS r_7.1 r_7.2.1 r_7.2.2.1 r_7.2.2.2 i_6 a21_6 a22_6 a23_6 s26_6) = m_feel_b6_k137 a21_6 a22_137 (upd a23_6 i_6 (m_pressOf (va_up (va_up (va_up (va_up (va_up (va_up RA 21 a21_6) 22 a22_6) 23 a23_6) 36 r_7.1) 37 r_7.2.1) 39 r_7.2.2.1) i_6 (a21_6 (2 * i_6)) (a21_6 ((2 * i_6) + 1)))) s26_6 → W p l e ({ frames := 3, cells := 0, slots := 0, locals := 66 } : Room) s m args below meth c H locs 0 0 (MQ below (kQ none (kB (dC, dI) [(cI, .int)] (RWs cI ad (va_up (va_up (va_up (va_up (va_up (va_up RA 21 ((m_feel RA RS RN).1)) 22 ((m_feel RA RS RN).2.1)) 23 ((m_feel RA RS RN).2.2.1)) 36 ((m_feel RA RS RN).2.2.2.1)) 37 ((m_feel RA RS RN).2.2.2.2.1)) 39 ((m_feel RA RS RN).2.2.2.2.2.1)) (va_up (va_up RS 26 ((m_feel RA RS RN).2.2.2.2.2.2.1)) 38 ((m_feel RA RS RN).2.2.2.2.2.2.2)) RN RL)) (kAA ad 24)) args s 0 0 (kAA ad 24)) (F0 m 188 ls []) := by
              intro a22_137 H locs ls hP hS hl  hF_137
              refine lv_iinc (v := (nI (i_6 + 1))) (lv' := [(1, .int (nI (i_6 + 1))), (0, .ref (ad 0))]) hx hb dX8_feel_188 hl (k := 1) rfl (nI_add _ _) (by decide) rfl (fun ls hl => ?_)
              refine lv_goto (tgt := 6) hx hb dX8_feel_191 (by decide) ?_
              have hb_6 : (m_feel_b6 RA RS r_7.1 r_7.2.1 r_7.2.2.1 r_7.2.2.2 i_6 a21_6 a22_6 a23_6 s26_6) = (a21_6, a22_137, (upd a23_6 i_6 (m_pressOf (va_up (va_up (va_up (va_up (va_up (va_up RA 21 a21_6) 22 a22_6) 23 a23_6) 36 r_7.1) 37 r_7.2.1) 39 r_7.2.2.1) i_6 (a21_6 (2 * i_6)) (a21_6 ((2 * i_6) + 1)))), s26_6) := by subst hr_7; exact hF_137.trans (by rw [m_feel_b6_k137])
              have hL_6 : (m_feel_L6 RA RS r_7.1 r_7.2.1 r_7.2.2.1 r_7.2.2.2 (n_6 + 1) i_6 a21_6 a22_6 a23_6 s26_6) = (m_feel_L6 RA RS r_7.1 r_7.2.1 r_7.2.2.1 r_7.2.2.2 n_6 (i_6 + 1) a21_6 a22_137 (upd a23_6 i_6 (m_pressOf (va_up (va_up (va_up (va_up (va_up (va_up RA 21 a21_6) 22 a22_6) 23 a23_6) 36 r_7.1) 37 r_7.2.1) 39 r_7.2.2.1) i_6 (a21_6 (2 * i_6)) (a21_6 ((2 * i_6) + 1)))) s26_6) := by rw [m_feel_L6.eq_2, hb_6]
              try rw [hL_6] at hk_6
              exact ih_6 (i_6 + 1) a21_6 a22_137 (upd a23_6 i_6 (m_pressOf (va_up (va_up (va_up (va_up (va_up (va_up RA 21 a21_6) 22 a22_6) 23 a23_6) 36 r_7.1) 37 r_7.2.1) 39 r_7.2.2.1) i_6 (a21_6 (2 * i_6)) (a21_6 ((2 * i_6) + 1)))) s26_6 (by omega) _ _ _ hP hS (lv_sub hl [1, 0] rfl)  hk_6
            have hN_137 : ((RA 12 i_6).toNatClampNeg) < 2 ^ 31 := kcl_lt _
            have loop_137 : ∀ (n_137 i_137 : Nat) (a22_137 : Nat → Int32), i_137 + n_137 = (RA 12 i_6).toNatClampNeg → ∀ (H : Heap) (locs : List Loc) (ls : Array Slot), va_P (dC, dI) vwCl (RWs cI ad (va_up (va_up (va_up (va_up (va_up (va_up RA 21 a21_6) 22 a22_137) 23 (upd a23_6 i_6 (m_pressOf (va_up (va_up (va_up (va_up (va_up (va_up RA 21 a21_6) 22 a22_6) 23 a23_6) 36 r_7.1) 37 r_7.2.1) 39 r_7.2.2.1) i_6 (a21_6 (2 * i_6)) (a21_6 ((2 * i_6) + 1))))) 36 r_7.1) 37 r_7.2.1) 39 r_7.2.2.1) (va_up (va_up RS 26 s26_6) 38 r_7.2.2.2) RN RL) H → va_S (kAA ad 24) s.heap H locs → lv_has ls 5 [(0, .ref (ad 0)), (1, .int (nI i_6)), (2, .int (m_felt (va_up (va_up (va_up (va_up (va_up (va_up RA 21 a21_6) 22 a22_6) 23 a23_6) 36 r_7.1) 37 r_7.2.1) 39 r_7.2.2.1) (va_up (va_up RS 26 s26_6) 38 r_7.2.2.2) i_6 0 0)), (4, .int (nI i_137))] → (∀ (H : Heap) (locs : List Loc) (ls : Array Slot), va_P (dC, dI) vwCl (RWs cI ad (va_up (va_up (va_up (va_up (va_up (va_up RA 21 a21_6) 22 (m_feel_L137 RA i_6 (m_felt (va_up (va_up (va_up (va_up (va_up (va_up RA 21 a21_6) 22 a22_6) 23 a23_6) 36 r_7.1) 37 r_7.2.1) 39 r_7.2.2.1) (va_up (va_up RS 26 s26_6) 38 r_7.2.2.2) i_6 0 0) n_137 i_137 a22_137)) 23 (upd a23_6 i_6 (m_pressOf (va_up (va_up (va_up (va_up (va_up (va_up RA 21 a21_6) 22 a22_6) 23 a23_6) 36 r_7.1) 37 r_7.2.1) 39 r_7.2.2.1) i_6 (a21_6 (2 * i_6)) (a21_6 ((2 * i_6) + 1))))) 36 r_7.1) 37 r_7.2.1) 39 r_7.2.2.1) (va_up (va_up RS 26 s26_6) 38 r_7.2.2.2) RN RL) H → va_S (kAA ad 24) s.heap H locs → lv_has ls 5 [(0, .ref (ad 0)), (1, .int (nI i_6))] → W p l e ({ frames := 3, cells := 0, slots := 0, locals := 66 } : Room) s m args below meth c H locs 0 0 (MQ below (kQ none (kB (dC, dI) [(cI, .int)] (RWs cI ad (va_up (va_up (va_up (va_up (va_up (va_up RA 21 ((m_feel RA RS RN).1)) 22 ((m_feel RA RS RN).2.1)) 23 ((m_feel RA RS RN).2.2.1)) 36 ((m_feel RA RS RN).2.2.2.1)) 37 ((m_feel RA RS RN).2.2.2.2.1)) 39 ((m_feel RA RS RN).2.2.2.2.2.1)) (va_up (va_up RS 26 ((m_feel RA RS RN).2.2.2.2.2.2.1)) 38 ((m_feel RA RS RN).2.2.2.2.2.2.2)) RN RL)) (kAA ad 24)) args s 0 0 (kAA ad 24)) (F0 m 188 ls [])) → W p l e ({ frames := 3, cells := 0, slots := 0, locals := 66 } : Room) s m args below meth c H locs 0 0 (MQ below (kQ none (kB (dC, dI) [(cI, .int)] (RWs cI ad (va_up (va_up (va_up (va_up (va_up (va_up RA 21 ((m_feel RA RS RN).1)) 22 ((m_feel RA RS RN).2.1)) 23 ((m_feel RA RS RN).2.2.1)) 36 ((m_feel RA RS RN).2.2.2.1)) 37 ((m_feel RA RS RN).2.2.2.2.1)) 39 ((m_feel RA RS RN).2.2.2.2.2.1)) (va_up (va_up RS 26 ((m_feel RA RS RN).2.2.2.2.2.2.1)) 38 ((m_feel RA RS RN).2.2.2.2.2.2.2)) RN RL)) (kAA ad 24)) args s 0 0 (kAA ad 24)) (F0 m 137 ls []) := by
              intro n_137
              induction n_137 with
              | zero =>
                intro i_137 a22_137 hin_137 H locs ls hP hS hl  hk_137
                refine lv_iload hx hb dX8_feel_137 (lv_at hl 3 rfl) ?_
                refine lv_aload_n hx hb dX8_feel_139 rfl (lv_at hl 0 rfl) ?_
                refine m_get (v := .ref (ad 10)) hx hb hts hown hK hP 12 (by decide) rfl kX8_37 rfl dX8_feel_140 ?_
                refine lv_iload_n hx hb dX8_feel_143 rfl (lv_at hl 1 rfl) ?_
                refine kn_iald (f := (RA 12)) (v := (RA 12 i_6)) hx hb hK hP 10 rfl i_6 rfl (by omega) (by omega) rfl dX8_feel_144 ?_
                refine lv_icmp_ge (tgt := 188) hx hb dX8_feel_145 (by decide) (fun _ => ?_) (fun c_16 => absurd (kct_ge (N := (RA 12 i_6).toNatClampNeg) rfl (by omega) (by omega)) c_16)
                have hL_137 : (m_feel_L137 RA i_6 (m_felt (va_up (va_up (va_up (va_up (va_up (va_up RA 21 a21_6) 22 a22_6) 23 a23_6) 36 r_7.1) 37 r_7.2.1) 39 r_7.2.2.1) (va_up (va_up RS 26 s26_6) 38 r_7.2.2.2) i_6 0 0) 0 i_137 a22_137) = a22_137 := by subst hr_7; rw [m_feel_L137.eq_1]
                try rw [hL_137] at hk_137
                exact hk_137 _ _ _ hP hS (lv_sub hl [0, 1] rfl) 
              | succ n_137 ih_137 =>
                intro i_137 a22_137 hin_137 H locs ls hP hS hl  hk_137
                refine lv_iload hx hb dX8_feel_137 (lv_at hl 3 rfl) ?_
                refine lv_aload_n hx hb dX8_feel_139 rfl (lv_at hl 0 rfl) ?_
                refine m_get (v := .ref (ad 10)) hx hb hts hown hK hP 12 (by decide) rfl kX8_37 rfl dX8_feel_140 ?_
                refine lv_iload_n hx hb dX8_feel_143 rfl (lv_at hl 1 rfl) ?_
                refine kn_iald (f := (RA 12)) (v := (RA 12 i_6)) hx hb hK hP 10 rfl i_6 rfl (by omega) (by omega) rfl dX8_feel_144 ?_
                refine lv_icmp_ge (tgt := 188) hx hb dX8_feel_145 (by decide) (fun c_17 => absurd c_17 (kct_lt (N := (RA 12 i_6).toNatClampNeg) rfl (by omega))) (fun _ => ?_)
                refine lv_aload_n hx hb dX8_feel_148 rfl (lv_at hl 0 rfl) ?_
                refine m_get (v := .ref (ad 14)) hx hb hts hown hK hP 22 (by decide) rfl kX8_49 rfl dX8_feel_149 ?_
                refine lv_iload_n hx hb dX8_feel_152 rfl (lv_at hl 1 rfl) ?_
                refine lv_dup2_11 hx hb dX8_feel_153 rfl rfl ?_
                refine kn_iald (f := a22_137) (v := (a22_137 i_6)) hx hb hK hP 14 rfl i_6 rfl (by omega) (by omega) rfl dX8_feel_154 ?_
                refine lv_aload_n hx hb dX8_feel_155 rfl (lv_at hl 0 rfl) ?_
                refine m_get (v := .ref (ad 8)) hx hb hts hown hK hP 10 (by decide) rfl kX8_31 rfl dX8_feel_156 ?_
                refine lv_iconst (v := 4) hx hb dX8_feel_159 (by decide) ?_
                refine lv_iload_n hx hb dX8_feel_160 rfl (lv_at hl 1 rfl) ?_
                refine kn_imul hx hb 4 i_6 rfl rfl dX8_feel_161 ?_
                refine lv_iload hx hb dX8_feel_162 (lv_at hl 3 rfl) ?_
                refine kn_iadd hx hb (4 * i_6) i_137 rfl rfl dX8_feel_164 ?_
                refine kn_iald (f := (RA 10)) (v := (RA 10 ((4 * i_6) + i_137))) hx hb hK hP 8 rfl ((4 * i_6) + i_137) rfl (by omega) (by omega) rfl dX8_feel_165 ?_
                refine lv_iload_n hx hb dX8_feel_166 rfl (lv_at hl 2 rfl) ?_
                refine lv_icmp_ge (tgt := 179) hx hb dX8_feel_167 (by decide) (fun c_18 => ?_) (fun c_18 => ?_)
                · refine lv_iconst (v := (-1)) hx hb dX8_feel_179 (by decide) ?_
                  refine lv_iand hx hb dX8_feel_180 ?_
                  refine kn_iast (f := a22_137) (ws' := RWs cI ad (va_up (va_up (va_up (va_up (va_up (va_up RA 21 a21_6) 22 (upd a22_137 i_6 ((a22_137 i_6) &&& (-1)))) 23 (upd a23_6 i_6 (m_pressOf (va_up (va_up (va_up (va_up (va_up (va_up RA 21 a21_6) 22 a22_6) 23 a23_6) 36 r_7.1) 37 r_7.2.1) 39 r_7.2.2.1) i_6 (a21_6 (2 * i_6)) (a21_6 ((2 * i_6) + 1))))) 36 r_7.1) 37 r_7.2.1) 39 r_7.2.2.1) (va_up (va_up RS 26 s26_6) 38 r_7.2.2.2) RN RL) hx hb hK hP (RWsD hI) hS 14 rfl i_6 rfl (by omega) (by omega) rfl dX8_feel_181 (fun H locs hP hS => ?_)
                  refine lv_iinc (v := (nI (i_137 + 1))) (lv' := [(4, .int (nI (i_137 + 1))), (0, .ref (ad 0)), (1, .int (nI i_6)), (2, .int (m_felt (va_up (va_up (va_up (va_up (va_up (va_up RA 21 a21_6) 22 a22_6) 23 a23_6) 36 r_7.1) 37 r_7.2.1) 39 r_7.2.2.1) (va_up (va_up RS 26 s26_6) 38 r_7.2.2.2) i_6 0 0))]) hx hb dX8_feel_182 hl (k := 3) rfl (nI_add _ _) (by decide) rfl (fun ls hl => ?_)
                  refine lv_goto (tgt := 137) hx hb dX8_feel_185 (by decide) ?_
                  have hL_137 : (m_feel_L137 RA i_6 (m_felt (va_up (va_up (va_up (va_up (va_up (va_up RA 21 a21_6) 22 a22_6) 23 a23_6) 36 r_7.1) 37 r_7.2.1) 39 r_7.2.2.1) (va_up (va_up RS 26 s26_6) 38 r_7.2.2.2) i_6 0 0) (n_137 + 1) i_137 a22_137) = (m_feel_L137 RA i_6 (m_felt (va_up (va_up (va_up (va_up (va_up (va_up RA 21 a21_6) 22 a22_6) 23 a23_6) 36 r_7.1) 37 r_7.2.1) 39 r_7.2.2.1) (va_up (va_up RS 26 s26_6) 38 r_7.2.2.2) i_6 0 0) n_137 (i_137 + 1) (upd a22_137 i_6 ((a22_137 i_6) &&& (-1)))) := by subst hr_7; rw [m_feel_L137.eq_2, if_pos c_18]
                  try rw [hL_137] at hk_137
                  exact ih_137 (i_137 + 1) (upd a22_137 i_6 ((a22_137 i_6) &&& (-1))) (by omega) _ _ _ hP hS (lv_sub hl [1, 2, 3, 0] rfl)  hk_137
                · refine lv_iconst (v := 1) hx hb dX8_feel_170 (by decide) ?_
                  refine lv_iload hx hb dX8_feel_171 (lv_at hl 3 rfl) ?_
                  refine lv_ishl hx hb dX8_feel_173 ?_
                  refine lv_iconst (v := (-1)) hx hb dX8_feel_174 (by decide) ?_
                  refine lv_ixor hx hb dX8_feel_175 ?_
                  refine lv_goto (tgt := 180) hx hb dX8_feel_176 (by decide) ?_
                  refine lv_iand hx hb dX8_feel_180 ?_
                  refine kn_iast (f := a22_137) (ws' := RWs cI ad (va_up (va_up (va_up (va_up (va_up (va_up RA 21 a21_6) 22 (upd a22_137 i_6 ((a22_137 i_6) &&& ((1 <<< ((nI i_137) &&& 31)) ^^^ (-1))))) 23 (upd a23_6 i_6 (m_pressOf (va_up (va_up (va_up (va_up (va_up (va_up RA 21 a21_6) 22 a22_6) 23 a23_6) 36 r_7.1) 37 r_7.2.1) 39 r_7.2.2.1) i_6 (a21_6 (2 * i_6)) (a21_6 ((2 * i_6) + 1))))) 36 r_7.1) 37 r_7.2.1) 39 r_7.2.2.1) (va_up (va_up RS 26 s26_6) 38 r_7.2.2.2) RN RL) hx hb hK hP (RWsD hI) hS 14 rfl i_6 rfl (by omega) (by omega) rfl dX8_feel_181 (fun H locs hP hS => ?_)
                  refine lv_iinc (v := (nI (i_137 + 1))) (lv' := [(4, .int (nI (i_137 + 1))), (0, .ref (ad 0)), (1, .int (nI i_6)), (2, .int (m_felt (va_up (va_up (va_up (va_up (va_up (va_up RA 21 a21_6) 22 a22_6) 23 a23_6) 36 r_7.1) 37 r_7.2.1) 39 r_7.2.2.1) (va_up (va_up RS 26 s26_6) 38 r_7.2.2.2) i_6 0 0))]) hx hb dX8_feel_182 hl (k := 3) rfl (nI_add _ _) (by decide) rfl (fun ls hl => ?_)
                  refine lv_goto (tgt := 137) hx hb dX8_feel_185 (by decide) ?_
                  have hL_137 : (m_feel_L137 RA i_6 (m_felt (va_up (va_up (va_up (va_up (va_up (va_up RA 21 a21_6) 22 a22_6) 23 a23_6) 36 r_7.1) 37 r_7.2.1) 39 r_7.2.2.1) (va_up (va_up RS 26 s26_6) 38 r_7.2.2.2) i_6 0 0) (n_137 + 1) i_137 a22_137) = (m_feel_L137 RA i_6 (m_felt (va_up (va_up (va_up (va_up (va_up (va_up RA 21 a21_6) 22 a22_6) 23 a23_6) 36 r_7.1) 37 r_7.2.1) 39 r_7.2.2.1) (va_up (va_up RS 26 s26_6) 38 r_7.2.2.2) i_6 0 0) n_137 (i_137 + 1) (upd a22_137 i_6 ((a22_137 i_6) &&& ((1 <<< ((nI i_137) &&& 31)) ^^^ (-1))))) := by subst hr_7; rw [m_feel_L137.eq_2, if_neg c_18]
                  try rw [hL_137] at hk_137
                  exact ih_137 (i_137 + 1) (upd a22_137 i_6 ((a22_137 i_6) &&& ((1 <<< ((nI i_137) &&& 31)) ^^^ (-1)))) (by omega) _ _ _ hP hS (lv_sub hl [1, 2, 3, 0] rfl)  hk_137
            exact loop_137 ((RA 12 i_6).toNatClampNeg) 0 a22_6 (by omega) _ _ _ hP hS (lv_sub hl [3, 4, 2, 0] rfl)  (fun H locs ls hP hS hl  => rest_137 (m_feel_L137 RA i_6 (m_felt (va_up (va_up (va_up (va_up (va_up (va_up RA 21 a21_6) 22 a22_6) 23 a23_6) 36 r_7.1) 37 r_7.2.1) 39 r_7.2.2.1) (va_up (va_up RS 26 s26_6) 38 r_7.2.2.2) i_6 0 0) ((RA 12 i_6).toNatClampNeg) 0 a22_6) _ _ _ hP hS hl  (by subst hr_7; rw [m_feel_b6, if_neg c_10, if_neg c_11, if_neg c_12]))
        · refine lv_aload_n hx hb dX8_feel_47 rfl (lv_at hl 1 rfl) ?_
          refine lv_dup hx hb dX8_feel_48 rfl ?_
          refine m_get (v := .int s26_6) hx hb hts hown hK hP 26 (by decide) rfl kX8_163 rfl dX8_feel_49 ?_
          refine lv_iconst (v := 1) hx hb dX8_feel_52 (by decide) ?_
          refine lv_iload_n hx hb dX8_feel_53 rfl (lv_at hl 2 rfl) ?_
          refine lv_ishl hx hb dX8_feel_54 ?_
          refine lv_iconst (v := (-1)) hx hb dX8_feel_55 (by decide) ?_
          refine lv_ixor hx hb dX8_feel_56 ?_
          refine lv_iand hx hb dX8_feel_57 ?_
          refine m_put (RS' := (va_up (va_up RS 26 (s26_6 &&& ((1 <<< ((nI i_6) &&& 31)) ^^^ (-1)))) 38 r_7.2.2.2)) (RN' := RN) (RL' := RL) (ty := .int) hx hb hts hown hI hK hP hS 26 (by decide) rfl kX8_163 rfl (by decide +kernel) rfl rfl rfl dX8_feel_58 (fun H locs hP hS => ?_)
          refine lv_aload_n hx hb dX8_feel_61 rfl (lv_at hl 1 rfl) ?_
          refine m_get (v := .ref (ad 13)) hx hb hts hown hK hP 21 (by decide) rfl kX8_46 rfl dX8_feel_62 ?_
          refine lv_iconst (v := 2) hx hb dX8_feel_65 (by decide) ?_
          refine lv_iload_n hx hb dX8_feel_66 rfl (lv_at hl 2 rfl) ?_
          refine kn_imul hx hb 2 i_6 rfl rfl dX8_feel_67 ?_
          refine lv_iconst (v := 0) hx hb dX8_feel_68 (by decide) ?_
          refine kn_iast (f := a21_6) (ws' := RWs cI ad (va_up (va_up (va_up (va_up (va_up (va_up RA 21 (upd a21_6 (2 * i_6) 0)) 22 a22_6) 23 a23_6) 36 r_7.1) 37 r_7.2.1) 39 r_7.2.2.1) (va_up (va_up RS 26 (s26_6 &&& ((1 <<< ((nI i_6) &&& 31)) ^^^ (-1)))) 38 r_7.2.2.2) RN RL) hx hb hK hP (RWsD hI) hS 13 rfl (2 * i_6) rfl (by omega) (by omega) rfl dX8_feel_69 (fun H locs hP hS => ?_)
          refine lv_aload_n hx hb dX8_feel_70 rfl (lv_at hl 1 rfl) ?_
          refine m_get (v := .ref (ad 13)) hx hb hts hown hK hP 21 (by decide) rfl kX8_46 rfl dX8_feel_71 ?_
          refine lv_iconst (v := 2) hx hb dX8_feel_74 (by decide) ?_
          refine lv_iload_n hx hb dX8_feel_75 rfl (lv_at hl 2 rfl) ?_
          refine kn_imul hx hb 2 i_6 rfl rfl dX8_feel_76 ?_
          refine lv_iconst (v := 1) hx hb dX8_feel_77 (by decide) ?_
          refine kn_iadd hx hb (2 * i_6) 1 rfl rfl dX8_feel_78 ?_
          refine lv_iconst (v := 0) hx hb dX8_feel_79 (by decide) ?_
          refine kn_iast (f := (upd a21_6 (2 * i_6) 0)) (ws' := RWs cI ad (va_up (va_up (va_up (va_up (va_up (va_up RA 21 (upd (upd a21_6 (2 * i_6) 0) ((2 * i_6) + 1) 0)) 22 a22_6) 23 a23_6) 36 r_7.1) 37 r_7.2.1) 39 r_7.2.2.1) (va_up (va_up RS 26 (s26_6 &&& ((1 <<< ((nI i_6) &&& 31)) ^^^ (-1)))) 38 r_7.2.2.2) RN RL) hx hb hK hP (RWsD hI) hS 13 rfl ((2 * i_6) + 1) rfl (by omega) (by omega) rfl dX8_feel_80 (fun H locs hP hS => ?_)
          refine lv_goto (tgt := 188) hx hb dX8_feel_81 (by decide) ?_
          refine lv_iinc (v := (nI (i_6 + 1))) (lv' := [(1, .int (nI (i_6 + 1))), (2, .int (m_felt (va_up (va_up (va_up (va_up (va_up (va_up RA 21 a21_6) 22 a22_6) 23 a23_6) 36 r_7.1) 37 r_7.2.1) 39 r_7.2.2.1) (va_up (va_up RS 26 s26_6) 38 r_7.2.2.2) i_6 0 0)), (0, .ref (ad 0))]) hx hb dX8_feel_188 hl (k := 2) rfl (nI_add _ _) (by decide) rfl (fun ls hl => ?_)
          refine lv_goto (tgt := 6) hx hb dX8_feel_191 (by decide) ?_
          have hb_6 : (m_feel_b6 RA RS r_7.1 r_7.2.1 r_7.2.2.1 r_7.2.2.2 i_6 a21_6 a22_6 a23_6 s26_6) = ((upd (upd a21_6 (2 * i_6) 0) ((2 * i_6) + 1) 0), a22_6, a23_6, (s26_6 &&& ((1 <<< ((nI i_6) &&& 31)) ^^^ (-1)))) := by subst hr_7; rw [m_feel_b6, if_neg c_10, if_pos c_11]
          have hL_6 : (m_feel_L6 RA RS r_7.1 r_7.2.1 r_7.2.2.1 r_7.2.2.2 (n_6 + 1) i_6 a21_6 a22_6 a23_6 s26_6) = (m_feel_L6 RA RS r_7.1 r_7.2.1 r_7.2.2.1 r_7.2.2.2 n_6 (i_6 + 1) (upd (upd a21_6 (2 * i_6) 0) ((2 * i_6) + 1) 0) a22_6 a23_6 (s26_6 &&& ((1 <<< ((nI i_6) &&& 31)) ^^^ (-1)))) := by rw [m_feel_L6.eq_2, hb_6]
          try rw [hL_6] at hk_6
          exact ih_6 (i_6 + 1) (upd (upd a21_6 (2 * i_6) 0) ((2 * i_6) + 1) 0) a22_6 a23_6 (s26_6 &&& ((1 <<< ((nI i_6) &&& 31)) ^^^ (-1))) (by omega) _ _ _ hP hS (lv_sub hl [2, 0] rfl)  hk_6
  have hP : va_P (dC, dI) vwCl (RWs cI ad (va_up (va_up (va_up (va_up (va_up (va_up RA 21 (RA 21)) 22 (RA 22)) 23 (RA 23)) 36 r_7.1) 37 r_7.2.1) 39 r_7.2.2.1) (va_up (va_up RS 26 (RS 26)) 38 r_7.2.2.2) RN RL) H := (RWs_conv rfl rfl rfl rfl rfl rfl rfl rfl rfl rfl rfl rfl rfl rfl rfl rfl rfl rfl rfl rfl rfl rfl rfl rfl rfl rfl rfl rfl rfl rfl rfl rfl rfl rfl rfl rfl rfl rfl rfl rfl rfl hP)
  exact loop_6 (RN 4) 0 (RA 21) (RA 22) (RA 23) (RS 26) (by omega) _ _ _ hP hS (lv_sub hl [1, 0] rfl)  (fun H locs ls hP hS hl  => rest_6 (m_feel_L6 RA RS r_7.1 r_7.2.1 r_7.2.2.1 r_7.2.2.2 (RN 4) 0 (RA 21) (RA 22) (RA 23) (RS 26)).1 (m_feel_L6 RA RS r_7.1 r_7.2.1 r_7.2.2.1 r_7.2.2.2 (RN 4) 0 (RA 21) (RA 22) (RA 23) (RS 26)).2.1 (m_feel_L6 RA RS r_7.1 r_7.2.1 r_7.2.2.1 r_7.2.2.2 (RN 4) 0 (RA 21) (RA 22) (RA 23) (RS 26)).2.2.1 (m_feel_L6 RA RS r_7.1 r_7.2.1 r_7.2.2.1 r_7.2.2.2 (RN 4) 0 (RA 21) (RA 22) (RA 23) (RS 26)).2.2.2 _ _ _ hP hS hl  (by subst hr_7; rw [m_feel]))

end REF
