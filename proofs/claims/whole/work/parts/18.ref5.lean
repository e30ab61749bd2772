section REF
variable {l : Launch} {dC : Nat → ClassId} {dI : Nat → Nat → Nat} {cI : ClassId} {ad : Nat → Nat} {RA : Nat → Nat → Int32} {RS : Nat → Int32} {RN : Nat → Nat} {RL : Int64}
-- X8_goHour
def m_goHour_k210 (a36 : Nat → Int32) (a37 : Nat → Int32) (a39 : Nat → Int32) : (Nat → Int32) × (Nat → Int32) × (Nat → Int32) := (a36, a37, a39)
def m_goHour_L210 (RA : Nat → Nat → Int32) (RS : Nat → Int32) (a36 : Nat → Int32) (a37 : Nat → Int32) : Nat → Nat → (Nat → Int32) → (Nat → Int32)
  | 0, i, a39 => a39
  | n + 1, i, a39 => if (m_felt (va_up (va_up (va_up RA 36 a36) 37 a37) 39 a39) RS i 0 0) ≤ (a39 i) then m_goHour_L210 RA RS a36 a37 n (i + 1) (upd a39 i (a39 i)) else m_goHour_L210 RA RS a36 a37 n (i + 1) (upd a39 i (m_felt (va_up (va_up (va_up RA 36 a36) 37 a37) 39 a39) RS i 0 0))
def m_goHour_k169 (RA : Nat → Nat → Int32) (RS : Nat → Int32) (RN : Nat → Nat) (a36 : Nat → Int32) (a37 : Nat → Int32) : (Nat → Int32) × (Nat → Int32) × (Nat → Int32) := m_goHour_k210 a36 a37 (m_goHour_L210 RA RS a36 a37 (RN 4) 0 (RA 39))
def m_goHour_L169  : Nat → Nat → (Nat → Int32) → (Nat → Int32)
  | 0, i, a37 => a37
  | n + 1, i, a37 => if (a37 i) ≤ 0 then m_goHour_L169 n (i + 1) (upd a37 i ((a37 i) - 0)) else m_goHour_L169 n (i + 1) (upd a37 i ((a37 i) - 1))
def m_goHour_k38 (RA : Nat → Nat → Int32) (RS : Nat → Int32) (RN : Nat → Nat) (a36 : Nat → Int32) : (Nat → Int32) × (Nat → Int32) × (Nat → Int32) := m_goHour_k169 RA RS RN a36 (m_goHour_L169 24 0 (RA 37))
def m_goHour_L38 (RA : Nat → Nat → Int32) (RS : Nat → Int32) (RN : Nat → Nat) (v2 : Nat) : Nat → Nat → (Nat → Int32) → (Nat → Int32)
  | 0, i, a36 => a36
  | n + 1, i, a36 => if (nI (RN 4)) ≤ (nI (i / 2)) then m_goHour_L38 RA RS RN v2 n (i + 1) a36 else (if (m_has (RS 38) (nI (i / 2))) = 0 then m_goHour_L38 RA RS RN v2 n (i + 1) a36 else (if ((upd a36 i ((a36 i) + ((RA 13 ((3 * v2) + (i % 2))) + (((a36 i) * (RA 13 ((3 * v2) + 2))) / 10)))) i) ≤ (RA 6 (i / 2)) then m_goHour_L38 RA RS RN v2 n (i + 1) (upd (upd a36 i ((a36 i) + ((RA 13 ((3 * v2) + (i % 2))) + (((a36 i) * (RA 13 ((3 * v2) + 2))) / 10)))) i ((upd a36 i ((a36 i) + ((RA 13 ((3 * v2) + (i % 2))) + (((a36 i) * (RA 13 ((3 * v2) + 2))) / 10)))) i)) else m_goHour_L38 RA RS RN v2 n (i + 1) (upd (upd a36 i ((a36 i) + ((RA 13 ((3 * v2) + (i % 2))) + (((a36 i) * (RA 13 ((3 * v2) + 2))) / 10)))) i (RA 6 (i / 2)))))
def m_goHour_k3 (RA : Nat → Nat → Int32) (RS : Nat → Int32) (RN : Nat → Nat) (a36 : Nat → Int32) (v2 : Nat) : (Nat → Int32) × (Nat → Int32) × (Nat → Int32) := m_goHour_k38 RA RS RN (m_goHour_L38 RA RS RN v2 16 0 a36)
def m_goHour_L3 (RA : Nat → Nat → Int32) (RS : Nat → Int32) (RN : Nat → Nat) (v1 : Int32) (v2 : Nat) (v4 : Int32) : Nat → Nat → (Nat → Int32) → (Nat → Int32)
  | 0, i, a36 => a36
  | n + 1, i, a36 => if v4 < 0 then m_goHour_L3 RA RS RN v1 v2 v4 n (i + 1) (m_clear (va_up RA 36 a36) RS (m_chosen (va_up RA 36 a36) RS RN v1 v2)) else m_goHour_L3 RA RS RN v1 v2 v4 n (i + 1) (m_clear (va_up RA 36 a36) RS v4.toNatClampNeg)
def m_goHour (RA : Nat → Nat → Int32) (RS : Nat → Int32) (RN : Nat → Nat) (v1 : Int32) (v2 : Nat) (v3 : Int32) (v4 : Int32) : (Nat → Int32) × (Nat → Int32) × (Nat → Int32) := m_goHour_k3 RA RS RN (m_goHour_L3 RA RS RN v1 v2 v4 v3.toNatClampNeg 0 (RA 36)) v2
set_option maxHeartbeats 4000000 in
set_option maxRecDepth 100000 in
theorem c_m_goHour (hI : kInj ad 24) (v1 : Int32) (v2 : Nat) (v3 : Int32) (v4 : Int32) (hM : mI RA RS RN) (hk : v2 < 3) (hside : v4.toInt ≤ 16) : Met l yX8_goHour (.code yX8_goHour cX8_goHour 7 none :: kT) ({ frames := 5, cells := 0, slots := 0, locals := 115 } : Room) (va_Pc [.ref (ad 0), .int v1, .int (nI v2), .int v3, .int v4] (kB (dC, dI) [(cI, .int)] (RWs cI ad RA RS RN RL))) (kQ none (kB (dC, dI) [(cI, .int)] (RWs cI ad (va_up (va_up (va_up RA 36 ((m_goHour RA RS RN v1 v2 v3 v4).1)) 37 ((m_goHour RA RS RN v1 v2 v3 v4).2.1)) 39 ((m_goHour RA RS RN v1 v2 v3 v4).2.2)) RS RN RL)) (kAA ad 24)) 0 0 (kAA ad 24) := by
  refine kMet (by decide) (fun p e s m args below meth c ls hx hb hr hml hts hown hlocks hname hargs hB hl => ?_) (Nat.le_of_ble_eq_true rfl)
  obtain ⟨hP, hK, hN⟩ := hB
  have hl : lv_has ls 7 [(0, .ref (ad 0)), (1, .int v1), (2, .int (nI v2)), (3, .int v3), (4, .int v4)] := hl
  have hS : va_S (kAA ad 24) s.heap s.heap [] := va_S.rf
  have h4 : RN 4 ≤ 8 := mI_many hM
  refine lv_iconst (v := 0) hx hb dX8_goHour_0 (by decide) ?_
  refine lv_istore (lv' := [(5, .int 0), (0, .ref (ad 0)), (1, .int v1), (2, .int (nI v2)), (3, .int v3), (4, .int v4)]) hx hb dX8_goHour_1 hl (by decide) rfl (fun ls hl => ?_)
  have rest_3 : ∀ (a36_3 : Nat → Int32), ∀ (H : Heap) (locs : List Loc) (ls : Array Slot), va_P (dC, dI) vwCl (RWs cI ad (va_up RA 36 a36_3) RS RN RL) H → va_S (kAA ad 24) s.heap H locs → lv_has ls 7 [(0, .ref (ad 0)), (2, .int (nI v2))] → (m_goHour RA RS RN v1 v2 v3 v4) = m_goHour_k3 RA RS RN a36_3 v2 → W p l e ({ frames := 5, cells := 0, slots := 0, locals := 115 } : Room) s m args below meth c H locs 0 0 (MQ below (kQ none (kB (dC, dI) [(cI, .int)] (RWs cI ad (va_up (va_up (va_up RA 36 ((m_goHour RA RS RN v1 v2 v3 v4).1)) 37 ((m_goHour RA RS RN v1 v2 v3 v4).2.1)) 39 ((m_goHour RA RS RN v1 v2 v3 v4).2.2)) RS RN RL)) (kAA ad 24)) args s 0 0 (kAA ad 24)) (F0 m 35 ls []) := by
    intro a36_3 H locs ls hP hS hl  hF_3
    refine lv_iconst (v := 0) hx hb dX8_goHour_35 (by decide) ?_
    refine lv_istore (lv' := [(5, .int 0), (0, .ref (ad 0)), (2, .int (nI v2))]) hx hb dX8_goHour_36 hl (by decide) rfl (fun ls hl => ?_)
    have rest_38 : ∀ (a36_38 : Nat → Int32), ∀ (H : Heap) (locs : List Loc) (ls : Array Slot), va_P (dC, dI) vwCl (RWs cI ad (va_up RA 36 a36_38) RS RN RL) H → va_S (kAA ad 24) s.heap H locs → lv_has ls 7 [(0, .ref (ad 0))] → (m_goHour RA RS RN v1 v2 v3 v4) = m_goHour_k38 RA RS RN a36_38 → W p l e ({ frames := 5, cells := 0, slots := 0, locals := 115 } : Room) s m args below meth c H locs 0 0 (MQ below (kQ none (kB (dC, dI) [(cI, .int)] (RWs cI ad (va_up (va_up (va_up RA 36 ((m_goHour RA RS RN v1 v2 v3 v4).1)) 37 ((m_goHour RA RS RN v1 v2 v3 v4).2.1)) 39 ((m_goHour RA RS RN v1 v2 v3 v4).2.2)) RS RN RL)) (kAA ad 24)) args s 0 0 (kAA ad 24)) (F0 m 166 ls []) := by
      intro a36_38 H locs ls hP hS hl  hF_38
      refine lv_iconst (v := 0) hx hb dX8_goHour_166 (by decide) ?_
      refine lv_istore (lv' := [(5, .int 0), (0, .ref (ad 0))]) hx hb dX8_goHour_167 hl (by decide) rfl (fun ls hl => ?_)
      have rest_169 : ∀ (a37_169 : Nat → Int32), ∀ (H : Heap) (locs : List Loc) (ls : Array Slot), va_P (dC, dI) vwCl (RWs cI ad (va_up (va_up RA 36 a36_38) 37 a37_169) RS RN RL) H → va_S (kAA ad 24) s.heap H locs → lv_has ls 7 [(0, .ref (ad 0))] → (m_goHour RA RS RN v1 v2 v3 v4) = m_goHour_k169 RA RS RN a36_38 a37_169 → W p l e ({ frames := 5, cells := 0, slots := 0, locals := 115 } : Room) s m args below meth c H locs 0 0 (MQ below (kQ none (kB (dC, dI) [(cI, .int)] (RWs cI ad (va_up (va_up (va_up RA 36 ((m_goHour RA RS RN v1 v2 v3 v4).1)) 37 ((m_goHour RA RS RN v1 v2 v3 v4).2.1)) 39 ((m_goHour RA RS RN v1 v2 v3 v4).2.2)) RS RN RL)) (kAA ad 24)) args s 0 0 (kAA ad 24)) (F0 m 207 ls []) := by
        intro a37_169 H locs ls hP hS hl  hF_169
        refine lv_iconst (v := 0) hx hb dX8_goHour_207 (by decide) ?_
        refine lv_istore (lv' := [(5, .int 0), (0, .ref (ad 0))]) hx hb dX8_goHour_208 hl (by decide) rfl (fun ls hl => ?_)
        have rest_210 : ∀ (a39_210 : Nat → Int32), ∀ (H : Heap) (locs : List Loc) (ls : Array Slot), va_P (dC, dI) vwCl (RWs cI ad (va_up (va_up (va_up RA 36 a36_38) 37 a37_169) 39 a39_210) RS RN RL) H → va_S (kAA ad 24) s.heap H locs → lv_has ls 7 [] → (m_goHour RA RS RN v1 v2 v3 v4) = m_goHour_k210 a36_38 a37_169 a39_210 → W p l e ({ frames := 5, cells := 0, slots := 0, locals := 115 } : Room) s m args below meth c H locs 0 0 (MQ below (kQ none (kB (dC, dI) [(cI, .int)] (RWs cI ad (va_up (va_up (va_up RA 36 ((m_goHour RA RS RN v1 v2 v3 v4).1)) 37 ((m_goHour RA RS RN v1 v2 v3 v4).2.1)) 39 ((m_goHour RA RS RN v1 v2 v3 v4).2.2)) RS RN RL)) (kAA ad 24)) args s 0 0 (kAA ad 24)) (F0 m 266 ls []) := by
          intro a39_210 H locs ls hP hS hl  hF_210
          have hE : (m_goHour RA RS RN v1 v2 v3 v4) = (a36_38, a37_169, a39_210) := hF_210.trans (by rw [m_goHour_k210])
          exact W.vret hx hb hr (fun t ht hW => ⟨rfl, by rw [hE]; exact kB.of (ws := RWs cI ad (va_up (va_up (va_up RA 36 a36_38) 37 a37_169) 39 a39_210) RS RN RL) hP hK hN ht hW, hS.F ht⟩) hS.2.2 dX8_goHour_266 hlocks
        have loop_210 : ∀ (n_210 i_210 : Nat) (a39_210 : Nat → Int32), i_210 + n_210 = (RN 4) → ∀ (H : Heap) (locs : List Loc) (ls : Array Slot), va_P (dC, dI) vwCl (RWs cI ad (va_up (va_up (va_up RA 36 a36_38) 37 a37_169) 39 a39_210) RS RN RL) H → va_S (kAA ad 24) s.heap H locs → lv_has ls 7 [(0, .ref (ad 0)), (5, .int (nI i_210))] → (∀ (H : Heap) (locs : List Loc) (ls : Array Slot), va_P (dC, dI) vwCl (RWs cI ad (va_up (va_up (va_up RA 36 a36_38) 37 a37_169) 39 (m_goHour_L210 RA RS a36_38 a37_169 n_210 i_210 a39_210)) RS RN RL) H → va_S (kAA ad 24) s.heap H locs → lv_has ls 7 [] → W p l e ({ frames := 5, cells := 0, slots := 0, locals := 115 } : Room) s m args below meth c H locs 0 0 (MQ below (kQ none (kB (dC, dI) [(cI, .int)] (RWs cI ad (va_up (va_up (va_up RA 36 ((m_goHour RA RS RN v1 v2 v3 v4).1)) 37 ((m_goHour RA RS RN v1 v2 v3 v4).2.1)) 39 ((m_goHour RA RS RN v1 v2 v3 v4).2.2)) RS RN RL)) (kAA ad 24)) args s 0 0 (kAA ad 24)) (F0 m 266 ls [])) → W p l e ({ frames := 5, cells := 0, slots := 0, locals := 115 } : Room) s m args below meth c H locs 0 0 (MQ below (kQ none (kB (dC, dI) [(cI, .int)] (RWs cI ad (va_up (va_up (va_up RA 36 ((m_goHour RA RS RN v1 v2 v3 v4).1)) 37 ((m_goHour RA RS RN v1 v2 v3 v4).2.1)) 39 ((m_goHour RA RS RN v1 v2 v3 v4).2.2)) RS RN RL)) (kAA ad 24)) args s 0 0 (kAA ad 24)) (F0 m 210 ls []) := by
          intro n_210
          induction n_210 with
          | zero =>
            intro i_210 a39_210 hin_210 H locs ls hP hS hl  hk_210
            refine lv_iload hx hb dX8_goHour_210 (lv_at hl 1 rfl) ?_
            refine lv_aload_n hx hb dX8_goHour_212 rfl (lv_at hl 0 rfl) ?_
            refine m_get (v := .int (nI (RN 4))) hx hb hts hown hK hP 4 (by decide) rfl kX8_82 rfl dX8_goHour_213 ?_
            refine lv_icmp_ge (tgt := 266) hx hb dX8_goHour_216 (by decide) (fun _ => ?_) (fun c_11 => absurd (kct_ge (N := (RN 4)) (nI_clamp (by omega)) (by omega) (by omega)) c_11)
            have hL_210 : (m_goHour_L210 RA RS a36_38 a37_169 0 i_210 a39_210) = a39_210 := by rw [m_goHour_L210.eq_1]
            try rw [hL_210] at hk_210
            exact hk_210 _ _ _ hP hS (lv_sub hl [] rfl) 
          | succ n_210 ih_210 =>
            intro i_210 a39_210 hin_210 H locs ls hP hS hl  hk_210
            refine lv_iload hx hb dX8_goHour_210 (lv_at hl 1 rfl) ?_
            refine lv_aload_n hx hb dX8_goHour_212 rfl (lv_at hl 0 rfl) ?_
            refine m_get (v := .int (nI (RN 4))) hx hb hts hown hK hP 4 (by decide) rfl kX8_82 rfl dX8_goHour_213 ?_
            refine lv_icmp_ge (tgt := 266) hx hb dX8_goHour_216 (by decide) (fun c_12 => absurd c_12 (kct_lt (N := (RN 4)) (nI_clamp (by omega)) (by omega))) (fun _ => ?_)
            refine lv_aload_n hx hb dX8_goHour_219 rfl (lv_at hl 0 rfl) ?_
            refine lv_iload hx hb dX8_goHour_220 (lv_at hl 1 rfl) ?_
            refine lv_iconst (v := 0) hx hb dX8_goHour_222 (by decide) ?_
            refine lv_iconst (v := 0) hx hb dX8_goHour_223 (by decide) ?_
            refine k_rV (v := .int (m_felt (va_up (va_up (va_up RA 36 a36_38) 37 a37_169) 39 a39_210) RS i_210 0 0)) (As := [.int (nI i_210), .int 0, .int 0]) (rest := []) hx hb hml hown hts hl.1 hP hK hN (c_m_felt hI i_210 0 0 hM (by omega)) eX8_215 (ci := 7) (q0 := 0) rfl rfl rfl rfl rfl (Nat.le_of_ble_eq_true rfl) ⟨Nat.le_of_ble_eq_true rfl, Nat.le_of_ble_eq_true rfl⟩ ⟨rfl, rfl⟩ ⟨Nat.le_of_ble_eq_true rfl, Nat.le_of_ble_eq_true rfl⟩ dX8_goHour_224 ?_
            refine lv_istore (lv' := [(6, .int (m_felt (va_up (va_up (va_up RA 36 a36_38) 37 a37_169) 39 a39_210) RS i_210 0 0)), (0, .ref (ad 0)), (5, .int (nI i_210))]) hx hb dX8_goHour_227 hl (by decide) rfl (fun ls hl => ?_)
            refine lv_aload_n hx hb dX8_goHour_229 rfl (lv_at hl 1 rfl) ?_
            refine m_get (v := .ref (ad 22)) hx hb hts hown hK hP 39 (by decide) rfl kX8_73 rfl dX8_goHour_230 ?_
            refine lv_iload hx hb dX8_goHour_233 (lv_at hl 2 rfl) ?_
            refine lv_iload hx hb dX8_goHour_235 (lv_at hl 0 rfl) ?_
            refine lv_aload_n hx hb dX8_goHour_237 rfl (lv_at hl 1 rfl) ?_
            refine m_get (v := .ref (ad 22)) hx hb hts hown hK hP 39 (by decide) rfl kX8_73 rfl dX8_goHour_238 ?_
            refine lv_iload hx hb dX8_goHour_241 (lv_at hl 2 rfl) ?_
            refine kn_iald (f := a39_210) (v := (a39_210 i_210)) hx hb hK hP 22 rfl i_210 rfl (by omega) (by omega) rfl dX8_goHour_243 ?_
            refine lv_icmp_le (tgt := 252) hx hb dX8_goHour_244 (by decide) (fun c_13 => ?_) (fun c_13 => ?_)
            · refine lv_aload_n hx hb dX8_goHour_252 rfl (lv_at hl 1 rfl) ?_
              refine m_get (v := .ref (ad 22)) hx hb hts hown hK hP 39 (by decide) rfl kX8_73 rfl dX8_goHour_253 ?_
              refine lv_iload hx hb dX8_goHour_256 (lv_at hl 2 rfl) ?_
              refine kn_iald (f := a39_210) (v := (a39_210 i_210)) hx hb hK hP 22 rfl i_210 rfl (by omega) (by omega) rfl dX8_goHour_258 ?_
              refine kn_iast (f := a39_210) (ws' := RWs cI ad (va_up (va_up (va_up RA 36 a36_38) 37 a37_169) 39 (upd a39_210 i_210 (a39_210 i_210))) RS RN RL) hx hb hK hP (RWsD hI) hS 22 rfl i_210 rfl (by omega) (by omega) rfl dX8_goHour_259 (fun H locs hP hS => ?_)
              refine lv_iinc (v := (nI (i_210 + 1))) (lv' := [(5, .int (nI (i_210 + 1))), (6, .int (m_felt (va_up (va_up (va_up RA 36 a36_38) 37 a37_169) 39 a39_210) RS i_210 0 0)), (0, .ref (ad 0))]) hx hb dX8_goHour_260 hl (k := 2) rfl (nI_add _ _) (by decide) rfl (fun ls hl => ?_)
              refine lv_goto (tgt := 210) hx hb dX8_goHour_263 (by decide) ?_
              have hL_210 : (m_goHour_L210 RA RS a36_38 a37_169 (n_210 + 1) i_210 a39_210) = (m_goHour_L210 RA RS a36_38 a37_169 n_210 (i_210 + 1) (upd a39_210 i_210 (a39_210 i_210))) := by rw [m_goHour_L210.eq_2, if_pos c_13]
              try rw [hL_210] at hk_210
              exact ih_210 (i_210 + 1) (upd a39_210 i_210 (a39_210 i_210)) (by omega) _ _ _ hP hS (lv_sub hl [2, 0] rfl)  hk_210
            · refine lv_iload hx hb dX8_goHour_247 (lv_at hl 0 rfl) ?_
              refine lv_goto (tgt := 259) hx hb dX8_goHour_249 (by decide) ?_
              refine kn_iast (f := a39_210) (ws' := RWs cI ad (va_up (va_up (va_up RA 36 a36_38) 37 a37_169) 39 (upd a39_210 i_210 (m_felt (va_up (va_up (va_up RA 36 a36_38) 37 a37_169) 39 a39_210) RS i_210 0 0))) RS RN RL) hx hb hK hP (RWsD hI) hS 22 rfl i_210 rfl (by omega) (by omega) rfl dX8_goHour_259 (fun H locs hP hS => ?_)
              refine lv_iinc (v := (nI (i_210 + 1))) (lv' := [(5, .int (nI (i_210 + 1))), (6, .int (m_felt (va_up (va_up (va_up RA 36 a36_38) 37 a37_169) 39 a39_210) RS i_210 0 0)), (0, .ref (ad 0))]) hx hb dX8_goHour_260 hl (k := 2) rfl (nI_add _ _) (by decide) rfl (fun ls hl => ?_)
              refine lv_goto (tgt := 210) hx hb dX8_goHour_263 (by decide) ?_
              have hL_210 : (m_goHour_L210 RA RS a36_38 a37_169 (n_210 + 1) i_210 a39_210) = (m_goHour_L210 RA RS a36_38 a37_169 n_210 (i_210 + 1) (upd a39_210 i_210 (m_felt (va_up (va_up (va_up RA 36 a36_38) 37 a37_169) 39 a39_210) RS i_210 0 0))) := by rw [m_goHour_L210.eq_2, if_neg c_13]
              try rw [hL_210] at hk_210
              exact ih_210 (i_210 + 1) (upd a39_210 i_210 (m_felt (va_up (va_up (va_up RA 36 a36_38) 37 a37_169) 39 a39_210) RS i_210 0 0)) (by omega) _ _ _ hP hS (lv_sub hl [2, 0] rfl)  hk_210
        have hP : va_P (dC, dI) vwCl (RWs cI ad (va_up (va_up (va_up RA 36 a36_38) 37 a37_169) 39 (RA 39)) RS RN RL) H := (RWs_conv rfl rfl rfl rfl rfl rfl rfl rfl rfl rfl rfl rfl rfl rfl rfl rfl rfl rfl rfl rfl rfl rfl rfl rfl rfl rfl rfl rfl rfl rfl rfl rfl rfl rfl rfl rfl rfl rfl rfl rfl rfl hP)
        exact loop_210 (RN 4) 0 (RA 39) (by omega) _ _ _ hP hS (lv_sub hl [1, 0] rfl)  (fun H locs ls hP hS hl  => rest_210 (m_goHour_L210 RA RS a36_38 a37_169 (RN 4) 0 (RA 39)) _ _ _ hP hS hl  (hF_169.trans (by rw [m_goHour_k169])))
      have loop_169 : ∀ (n_169 i_169 : Nat) (a37_169 : Nat → Int32), i_169 + n_169 = 24 → ∀ (H : Heap) (locs : List Loc) (ls : Array Slot), va_P (dC, dI) vwCl (RWs cI ad (va_up (va_up RA 36 a36_38) 37 a37_169) RS RN RL) H → va_S (kAA ad 24) s.heap H locs → lv_has ls 7 [(0, .ref (ad 0)), (5, .int (nI i_169))] → (∀ (H : Heap) (locs : List Loc) (ls : Array Slot), va_P (dC, dI) vwCl (RWs cI ad (va_up (va_up RA 36 a36_38) 37 (m_goHour_L169 n_169 i_169 a37_169)) RS RN RL) H → va_S (kAA ad 24) s.heap H locs → lv_has ls 7 [(0, .ref (ad 0))] → W p l e ({ frames := 5, cells := 0, slots := 0, locals := 115 } : Room) s m args below meth c H locs 0 0 (MQ below (kQ none (kB (dC, dI) [(cI, .int)] (RWs cI ad (va_up (va_up (va_up RA 36 ((m_goHour RA RS RN v1 v2 v3 v4).1)) 37 ((m_goHour RA RS RN v1 v2 v3 v4).2.1)) 39 ((m_goHour RA RS RN v1 v2 v3 v4).2.2)) RS RN RL)) (kAA ad 24)) args s 0 0 (kAA ad 24)) (F0 m 207 ls [])) → W p l e ({ frames := 5, cells := 0, slots := 0, locals := 115 } : Room) s m args below meth c H locs 0 0 (MQ below (kQ none (kB (dC, dI) [(cI, .int)] (RWs cI ad (va_up (va_up (va_up RA 36 ((m_goHour RA RS RN v1 v2 v3 v4).1)) 37 ((m_goHour RA RS RN v1 v2 v3 v4).2.1)) 39 ((m_goHour RA RS RN v1 v2 v3 v4).2.2)) RS RN RL)) (kAA ad 24)) args s 0 0 (kAA ad 24)) (F0 m 169 ls []) := by
        intro n_169
        induction n_169 with
        | zero =>
          intro i_169 a37_169 hin_169 H locs ls hP hS hl  hk_169
          refine lv_iload hx hb dX8_goHour_169 (lv_at hl 1 rfl) ?_
          refine lv_bipush (v := 24) hx hb dX8_goHour_171 (by decide) ?_
          refine lv_icmp_ge (tgt := 207) hx hb dX8_goHour_173 (by decide) (fun _ => ?_) (fun c_14 => absurd (kct_ge (N := 24) rfl (by omega) (by omega)) c_14)
          have hL_169 : (m_goHour_L169 0 i_169 a37_169) = a37_169 := by rw [m_goHour_L169.eq_1]
          try rw [hL_169] at hk_169
          exact hk_169 _ _ _ hP hS (lv_sub hl [0] rfl) 
        | succ n_169 ih_169 =>
          intro i_169 a37_169 hin_169 H locs ls hP hS hl  hk_169
          refine lv_iload hx hb dX8_goHour_169 (lv_at hl 1 rfl) ?_
          refine lv_bipush (v := 24) hx hb dX8_goHour_171 (by decide) ?_
          refine lv_icmp_ge (tgt := 207) hx hb dX8_goHour_173 (by decide) (fun c_15 => absurd c_15 (kct_lt (N := 24) rfl (by omega))) (fun _ => ?_)
          refine lv_aload_n hx hb dX8_goHour_176 rfl (lv_at hl 0 rfl) ?_
          refine m_get (v := .ref (ad 21)) hx hb hts hown hK hP 37 (by decide) rfl kX8_70 rfl dX8_goHour_177 ?_
          refine lv_iload hx hb dX8_goHour_180 (lv_at hl 1 rfl) ?_
          refine lv_dup2_11 hx hb dX8_goHour_182 rfl rfl ?_
          refine kn_iald (f := a37_169) (v := (a37_169 i_169)) hx hb hK hP 21 rfl i_169 rfl (by omega) (by omega) rfl dX8_goHour_183 ?_
          refine lv_aload_n hx hb dX8_goHour_184 rfl (lv_at hl 0 rfl) ?_
          refine m_get (v := .ref (ad 21)) hx hb hts hown hK hP 37 (by decide) rfl kX8_70 rfl dX8_goHour_185 ?_
          refine lv_iload hx hb dX8_goHour_188 (lv_at hl 1 rfl) ?_
          refine kn_iald (f := a37_169) (v := (a37_169 i_169)) hx hb hK hP 21 rfl i_169 rfl (by omega) (by omega) rfl dX8_goHour_190 ?_
          refine lv_if_le (tgt := 198) hx hb dX8_goHour_191 (by decide) (fun c_16 => ?_) (fun c_16 => ?_)
          · refine lv_iconst (v := 0) hx hb dX8_goHour_198 (by decide) ?_
            refine lv_isub hx hb dX8_goHour_199 ?_
            refine kn_iast (f := a37_169) (ws' := RWs cI ad (va_up (va_up RA 36 a36_38) 37 (upd a37_169 i_169 ((a37_169 i_169) - 0))) RS RN RL) hx hb hK hP (RWsD hI) hS 21 rfl i_169 rfl (by omega) (by omega) rfl dX8_goHour_200 (fun H locs hP hS => ?_)
            refine lv_iinc (v := (nI (i_169 + 1))) (lv' := [(5, .int (nI (i_169 + 1))), (0, .ref (ad 0))]) hx hb dX8_goHour_201 hl (k := 1) rfl (nI_add _ _) (by decide) rfl (fun ls hl => ?_)
            refine lv_goto (tgt := 169) hx hb dX8_goHour_204 (by decide) ?_
            have hL_169 : (m_goHour_L169 (n_169 + 1) i_169 a37_169) = (m_goHour_L169 n_169 (i_169 + 1) (upd a37_169 i_169 ((a37_169 i_169) - 0))) := by rw [m_goHour_L169.eq_2, if_pos c_16]
            try rw [hL_169] at hk_169
            exact ih_169 (i_169 + 1) (upd a37_169 i_169 ((a37_169 i_169) - 0)) (by omega) _ _ _ hP hS (lv_sub hl [1, 0] rfl)  hk_169
          · refine lv_iconst (v := 1) hx hb dX8_goHour_194 (by decide) ?_
            refine lv_goto (tgt := 199) hx hb dX8_goHour_195 (by decide) ?_
            refine lv_isub hx hb dX8_goHour_199 ?_
            refine kn_iast (f := a37_169) (ws' := RWs cI ad (va_up (va_up RA 36 a36_38) 37 (upd a37_169 i_169 ((a37_169 i_169) - 1))) RS RN RL) hx hb hK hP (RWsD hI) hS 21 rfl i_169 rfl (by omega) (by omega) rfl dX8_goHour_200 (fun H locs hP hS => ?_)
            refine lv_iinc (v := (nI (i_169 + 1))) (lv' := [(5, .int (nI (i_169 + 1))), (0, .ref (ad 0))]) hx hb dX8_goHour_201 hl (k := 1) rfl (nI_add _ _) (by decide) rfl (fun ls hl => ?_)
            refine lv_goto (tgt := 169) hx hb dX8_goHour_204 (by decide) ?_
            have hL_169 : (m_goHour_L169 (n_169 + 1) i_169 a37_169) = (m_goHour_L169 n_169 (i_169 + 1) (upd a37_169 i_169 ((a37_169 i_169) - 1))) := by rw [m_goHour_L169.eq_2, if_neg c_16]
            try rw [hL_169] at hk_169
            exact ih_169 (i_169 + 1) (upd a37_169 i_169 ((a37_169 i_169) - 1)) (by omega) _ _ _ hP hS (lv_sub hl [1, 0] rfl)  hk_169
      have hP : va_P (dC, dI) vwCl (RWs cI ad (va_up (va_up RA 36 a36_38) 37 (RA 37)) RS RN RL) H := (RWs_conv rfl rfl rfl rfl rfl rfl rfl rfl rfl rfl rfl rfl rfl rfl rfl rfl rfl rfl rfl rfl rfl rfl rfl rfl rfl rfl rfl rfl rfl rfl rfl rfl rfl rfl rfl rfl rfl rfl rfl rfl rfl hP)
      exact loop_169 24 0 (RA 37) (by omega) _ _ _ hP hS (lv_sub hl [1, 0] rfl)  (fun H locs ls hP hS hl  => rest_169 (m_goHour_L169 24 0 (RA 37)) _ _ _ hP hS hl  (hF_38.trans (by rw [m_goHour_k38])))
    have loop_38 : ∀ (n_38 i_38 : Nat) (a36_38 : Nat → Int32), i_38 + n_38 = 16 → ∀ (H : Heap) (locs : List Loc) (ls : Array Slot), va_P (dC, dI) vwCl (RWs cI ad (va_up RA 36 a36_38) RS RN RL) H → va_S (kAA ad 24) s.heap H locs → lv_has ls 7 [(0, .ref (ad 0)), (2, .int (nI v2)), (5, .int (nI i_38))] → (∀ (H : Heap) (locs : List Loc) (ls : Array Slot), va_P (dC, dI) vwCl (RWs cI ad (va_up RA 36 (m_goHour_L38 RA RS RN v2 n_38 i_38 a36_38)) RS RN RL) H → va_S (kAA ad 24) s.heap H locs → lv_has ls 7 [(0, .ref (ad 0))] → W p l e ({ frames := 5, cells := 0, slots := 0, locals := 115 } : Room) s m args below meth c H locs 0 0 (MQ below (kQ none (kB (dC, dI) [(cI, .int)] (RWs cI ad (va_up (va_up (va_up RA 36 ((m_goHour RA RS RN v1 v2 v3 v4).1)) 37 ((m_goHour RA RS RN v1 v2 v3 v4).2.1)) 39 ((m_goHour RA RS RN v1 v2 v3 v4).2.2)) RS RN RL)) (kAA ad 24)) args s 0 0 (kAA ad 24)) (F0 m 166 ls [])) → W p l e ({ frames := 5, cells := 0, slots := 0, locals := 115 } : Room) s m args below meth c H locs 0 0 (MQ below (kQ none (kB (dC, dI) [(cI, .int)] (RWs cI ad (va_up (va_up (va_up RA 36 ((m_goHour RA RS RN v1 v2 v3 v4).1)) 37 ((m_goHour RA RS RN v1 v2 v3 v4).2.1)) 39 ((m_goHour RA RS RN v1 v2 v3 v4).2.2)) RS RN RL)) (kAA ad 24)) args s 0 0 (kAA ad 24)) (F0 m 38 ls []) := by
      intro n_38
      induction n_38 with
      | zero =>
        intro i_38 a36_38 hin_38 H locs ls hP hS hl  hk_38
        refine lv_iload hx hb dX8_goHour_38 (lv_at hl 2 rfl) ?_
        refine lv_bipush (v := 16) hx hb dX8_goHour_40 (by decide) ?_
        refine lv_icmp_ge (tgt := 166) hx hb dX8_goHour_42 (by decide) (fun _ => ?_) (fun c_17 => absurd (kct_ge (N := 16) rfl (by omega) (by omega)) c_17)
        have hL_38 : (m_goHour_L38 RA RS RN v2 0 i_38 a36_38) = a36_38 := by rw [m_goHour_L38.eq_1]
        try rw [hL_38] at hk_38
        exact hk_38 _ _ _ hP hS (lv_sub hl [0] rfl) 
      | succ n_38 ih_38 =>
        intro i_38 a36_38 hin_38 H locs ls hP hS hl  hk_38
        refine lv_iload hx hb dX8_goHour_38 (lv_at hl 2 rfl) ?_
        refine lv_bipush (v := 16) hx hb dX8_goHour_40 (by decide) ?_
        refine lv_icmp_ge (tgt := 166) hx hb dX8_goHour_42 (by decide) (fun c_18 => absurd c_18 (kct_lt (N := 16) rfl (by omega))) (fun _ => ?_)
        refine lv_iload hx hb dX8_goHour_45 (lv_at hl 2 rfl) ?_
        refine lv_iconst (v := 2) hx hb dX8_goHour_47 (by decide) ?_
        refine lv_idiv hx hb dX8_goHour_48 (by decide) ?_
        refine kn_top (x' := (nI (i_38 / 2))) (pk_div (a := i_38) (d := 2) (by omega) (by omega) (by omega)) ?_
        refine lv_aload_n hx hb dX8_goHour_49 rfl (lv_at hl 0 rfl) ?_
        refine m_get (v := .int (nI (RN 4))) hx hb hts hown hK hP 4 (by decide) rfl kX8_82 rfl dX8_goHour_50 ?_
        refine lv_icmp_ge (tgt := 160) hx hb dX8_goHour_53 (by decide) (fun c_19 => ?_) (fun c_19 => ?_)
        · refine lv_iinc (v := (nI (i_38 + 1))) (lv' := [(5, .int (nI (i_38 + 1))), (0, .ref (ad 0)), (2, .int (nI v2))]) hx hb dX8_goHour_160 hl (k := 2) rfl (nI_add _ _) (by decide) rfl (fun ls hl => ?_)
          refine lv_goto (tgt := 38) hx hb dX8_goHour_163 (by decide) ?_
          have hL_38 : (m_goHour_L38 RA RS RN v2 (n_38 + 1) i_38 a36_38) = (m_goHour_L38 RA RS RN v2 n_38 (i_38 + 1) a36_38) := by rw [m_goHour_L38.eq_2, if_pos c_19]
          try rw [hL_38] at hk_38
          exact ih_38 (i_38 + 1) a36_38 (by omega) _ _ _ hP hS (lv_sub hl [1, 2, 0] rfl)  hk_38
        · refine lv_aload_n hx hb dX8_goHour_56 rfl (lv_at hl 0 rfl) ?_
          refine m_get (v := .int (RS 38)) hx hb hts hown hK hP 38 (by decide) rfl kX8_194 rfl dX8_goHour_57 ?_
          refine lv_iload hx hb dX8_goHour_60 (lv_at hl 2 rfl) ?_
          refine lv_iconst (v := 2) hx hb dX8_goHour_62 (by decide) ?_
          refine lv_idiv hx hb dX8_goHour_63 (by decide) ?_
          refine kn_top (x' := (nI (i_38 / 2))) (pk_div (a := i_38) (d := 2) (by omega) (by omega) (by omega)) ?_
          refine k_rS (v := .int (m_has (RS 38) (nI (i_38 / 2)))) (As := [.int (RS 38), .int (nI (i_38 / 2))]) (rest := []) hx hb hml hown hts hl.1 (B := fun _ => True) (fun _ _ _ _ q => q) (fun _ _ _ => trivial) (c_m_has (RS 38) (nI (i_38 / 2))) eX8_204 rfl rfl (Nat.le_of_ble_eq_true rfl) ⟨Nat.le_of_ble_eq_true rfl, Nat.le_of_ble_eq_true rfl⟩ ⟨rfl, rfl⟩ ⟨Nat.le_of_ble_eq_true rfl, Nat.le_of_ble_eq_true rfl⟩ dX8_goHour_64 ?_
          refine lv_if_eq (tgt := 160) hx hb dX8_goHour_67 (by decide) (fun c_20 => ?_) (fun c_20 => ?_)
          · refine lv_iinc (v := (nI (i_38 + 1))) (lv' := [(5, .int (nI (i_38 + 1))), (0, .ref (ad 0)), (2, .int (nI v2))]) hx hb dX8_goHour_160 hl (k := 2) rfl (nI_add _ _) (by decide) rfl (fun ls hl => ?_)
            refine lv_goto (tgt := 38) hx hb dX8_goHour_163 (by decide) ?_
            have hL_38 : (m_goHour_L38 RA RS RN v2 (n_38 + 1) i_38 a36_38) = (m_goHour_L38 RA RS RN v2 n_38 (i_38 + 1) a36_38) := by rw [m_goHour_L38.eq_2, if_neg c_19, if_pos c_20]
            try rw [hL_38] at hk_38
            exact ih_38 (i_38 + 1) a36_38 (by omega) _ _ _ hP hS (lv_sub hl [1, 2, 0] rfl)  hk_38
          · refine lv_aload_n hx hb dX8_goHour_70 rfl (lv_at hl 0 rfl) ?_
            refine m_get (v := .ref (ad 20)) hx hb hts hown hK hP 36 (by decide) rfl kX8_67 rfl dX8_goHour_71 ?_
            refine lv_iload hx hb dX8_goHour_74 (lv_at hl 2 rfl) ?_
            refine lv_dup2_11 hx hb dX8_goHour_76 rfl rfl ?_
            refine kn_iald (f := a36_38) (v := (a36_38 i_38)) hx hb hK hP 20 rfl i_38 rfl (by omega) (by omega) rfl dX8_goHour_77 ?_
            refine lv_aload_n hx hb dX8_goHour_78 rfl (lv_at hl 0 rfl) ?_
            refine m_get (v := .ref (ad 11)) hx hb hts hown hK hP 13 (by decide) rfl kX8_40 rfl dX8_goHour_79 ?_
            refine lv_iconst (v := 3) hx hb dX8_goHour_82 (by decide) ?_
            refine lv_iload_n hx hb dX8_goHour_83 rfl (lv_at hl 1 rfl) ?_
            refine kn_imul hx hb 3 v2 rfl rfl dX8_goHour_84 ?_
            refine lv_iload hx hb dX8_goHour_85 (lv_at hl 2 rfl) ?_
            refine lv_iconst (v := 2) hx hb dX8_goHour_87 (by decide) ?_
            refine lv_irem hx hb dX8_goHour_88 (by decide) ?_
            refine kn_top (x' := (nI (i_38 % 2))) (pk_rem (a := i_38) (d := 2) (by omega) (by omega) (by omega)) ?_
            refine kn_iadd hx hb (3 * v2) (i_38 % 2) rfl rfl dX8_goHour_89 ?_
            refine kn_iald (f := (RA 13)) (v := (RA 13 ((3 * v2) + (i_38 % 2)))) hx hb hK hP 11 rfl ((3 * v2) + (i_38 % 2)) rfl (by omega) (by omega) rfl dX8_goHour_90 ?_
            refine lv_aload_n hx hb dX8_goHour_91 rfl (lv_at hl 0 rfl) ?_
            refine m_get (v := .ref (ad 20)) hx hb hts hown hK hP 36 (by decide) rfl kX8_67 rfl dX8_goHour_92 ?_
            refine lv_iload hx hb dX8_goHour_95 (lv_at hl 2 rfl) ?_
            refine kn_iald (f := a36_38) (v := (a36_38 i_38)) hx hb hK hP 20 rfl i_38 rfl (by omega) (by omega) rfl dX8_goHour_97 ?_
            refine lv_aload_n hx hb dX8_goHour_98 rfl (lv_at hl 0 rfl) ?_
            refine m_get (v := .ref (ad 11)) hx hb hts hown hK hP 13 (by decide) rfl kX8_40 rfl dX8_goHour_99 ?_
            refine lv_iconst (v := 3) hx hb dX8_goHour_102 (by decide) ?_
            refine lv_iload_n hx hb dX8_goHour_103 rfl (lv_at hl 1 rfl) ?_
            refine kn_imul hx hb 3 v2 rfl rfl dX8_goHour_104 ?_
            refine lv_iconst (v := 2) hx hb dX8_goHour_105 (by decide) ?_
            refine kn_iadd hx hb (3 * v2) 2 rfl rfl dX8_goHour_106 ?_
            refine kn_iald (f := (RA 13)) (v := (RA 13 ((3 * v2) + 2))) hx hb hK hP 11 rfl ((3 * v2) + 2) rfl (by omega) (by omega) rfl dX8_goHour_107 ?_
            refine lv_imul hx hb dX8_goHour_108 ?_
            refine lv_bipush (v := 10) hx hb dX8_goHour_109 (by decide) ?_
            refine lv_idiv hx hb dX8_goHour_111 (by decide) ?_
            refine lv_iadd hx hb dX8_goHour_112 ?_
            refine lv_iadd hx hb dX8_goHour_113 ?_
            refine kn_iast (f := a36_38) (ws' := RWs cI ad (va_up RA 36 (upd a36_38 i_38 ((a36_38 i_38) + ((RA 13 ((3 * v2) + (i_38 % 2))) + (((a36_38 i_38) * (RA 13 ((3 * v2) + 2))) / 10))))) RS RN RL) hx hb hK hP (RWsD hI) hS 20 rfl i_38 rfl (by omega) (by omega) rfl dX8_goHour_114 (fun H locs hP hS => ?_)
            refine lv_aload_n hx hb dX8_goHour_115 rfl (lv_at hl 0 rfl) ?_
            refine m_get (v := .ref (ad 20)) hx hb hts hown hK hP 36 (by decide) rfl kX8_67 rfl dX8_goHour_116 ?_
            refine lv_iload hx hb dX8_goHour_119 (lv_at hl 2 rfl) ?_
            refine lv_aload_n hx hb dX8_goHour_121 rfl (lv_at hl 0 rfl) ?_
            refine m_get (v := .ref (ad 20)) hx hb hts hown hK hP 36 (by decide) rfl kX8_67 rfl dX8_goHour_122 ?_
            refine lv_iload hx hb dX8_goHour_125 (lv_at hl 2 rfl) ?_
            refine kn_iald (f := (upd a36_38 i_38 ((a36_38 i_38) + ((RA 13 ((3 * v2) + (i_38 % 2))) + (((a36_38 i_38) * (RA 13 ((3 * v2) + 2))) / 10))))) (v := ((upd a36_38 i_38 ((a36_38 i_38) + ((RA 13 ((3 * v2) + (i_38 % 2))) + (((a36_38 i_38) * (RA 13 ((3 * v2) + 2))) / 10)))) i_38)) hx hb hK hP 20 rfl i_38 rfl (by omega) (by omega) rfl dX8_goHour_127 ?_
            refine lv_aload_n hx hb dX8_goHour_128 rfl (lv_at hl 0 rfl) ?_
            refine m_get (v := .ref (ad 4)) hx hb hts hown hK hP 6 (by decide) rfl kX8_19 rfl dX8_goHour_129 ?_
            refine lv_iload hx hb dX8_goHour_132 (lv_at hl 2 rfl) ?_
            refine lv_iconst (v := 2) hx hb dX8_goHour_134 (by decide) ?_
            refine lv_idiv hx hb dX8_goHour_135 (by decide) ?_
            refine kn_top (x' := (nI (i_38 / 2))) (pk_div (a := i_38) (d := 2) (by omega) (by omega) (by omega)) ?_
            refine kn_iald (f := (RA 6)) (v := (RA 6 (i_38 / 2))) hx hb hK hP 4 rfl (i_38 / 2) rfl (by omega) (by omega) rfl dX8_goHour_136 ?_
            refine lv_icmp_le (tgt := 152) hx hb dX8_goHour_137 (by decide) (fun c_21 => ?_) (fun c_21 => ?_)
            · refine lv_aload_n hx hb dX8_goHour_152 rfl (lv_at hl 0 rfl) ?_
              refine m_get (v := .ref (ad 20)) hx hb hts hown hK hP 36 (by decide) rfl kX8_67 rfl dX8_goHour_153 ?_
              refine lv_iload hx hb dX8_goHour_156 (lv_at hl 2 rfl) ?_
              refine kn_iald (f := (upd a36_38 i_38 ((a36_38 i_38) + ((RA 13 ((3 * v2) + (i_38 % 2))) + (((a36_38 i_38) * (RA 13 ((3 * v2) + 2))) / 10))))) (v := ((upd a36_38 i_38 ((a36_38 i_38) + ((RA 13 ((3 * v2) + (i_38 % 2))) + (((a36_38 i_38) * (RA 13 ((3 * v2) + 2))) / 10)))) i_38)) hx hb hK hP 20 rfl i_38 rfl (by omega) (by omega) rfl dX8_goHour_158 ?_
              refine kn_iast (f := (upd a36_38 i_38 ((a36_38 i_38) + ((RA 13 ((3 * v2) + (i_38 % 2))) + (((a36_38 i_38) * (RA 13 ((3 * v2) + 2))) / 10))))) (ws' := RWs cI ad (va_up RA 36 (upd (upd a36_38 i_38 ((a36_38 i_38) + ((RA 13 ((3 * v2) + (i_38 % 2))) + (((a36_38 i_38) * (RA 13 ((3 * v2) + 2))) / 10)))) i_38 ((upd a36_38 i_38 ((a36_38 i_38) + ((RA 13 ((3 * v2) + (i_38 % 2))) + (((a36_38 i_38) * (RA 13 ((3 * v2) + 2))) / 10)))) i_38))) RS RN RL) hx hb hK hP (RWsD hI) hS 20 rfl i_38 rfl (by omega) (by omega) rfl dX8_goHour_159 (fun H locs hP hS => ?_)
              refine lv_iinc (v := (nI (i_38 + 1))) (lv' := [(5, .int (nI (i_38 + 1))), (0, .ref (ad 0)), (2, .int (nI v2))]) hx hb dX8_goHour_160 hl (k := 2) rfl (nI_add _ _) (by decide) rfl (fun ls hl => ?_)
              refine lv_goto (tgt := 38) hx hb dX8_goHour_163 (by decide) ?_
              have hL_38 : (m_goHour_L38 RA RS RN v2 (n_38 + 1) i_38 a36_38) = (m_goHour_L38 RA RS RN v2 n_38 (i_38 + 1) (upd (upd a36_38 i_38 ((a36_38 i_38) + ((RA 13 ((3 * v2) + (i_38 % 2))) + (((a36_38 i_38) * (RA 13 ((3 * v2) + 2))) / 10)))) i_38 ((upd a36_38 i_38 ((a36_38 i_38) + ((RA 13 ((3 * v2) + (i_38 % 2))) + (((a36_38 i_38) * (RA 13 ((3 * v2) + 2))) / 10)))) i_38))) := by rw [m_goHour_L38.eq_2, if_neg c_19, if_neg c_20, if_pos c_21]
              try rw [hL_38] at hk_38
              exact ih_38 (i_38 + 1) (upd (upd a36_38 i_38 ((a36_38 i_38) + ((RA 13 ((3 * v2) + (i_38 % 2))) + (((a36_38 i_38) * (RA 13 ((3 * v2) + 2))) / 10)))) i_38 ((upd a36_38 i_38 ((a36_38 i_38) + ((RA 13 ((3 * v2) + (i_38 % 2))) + (((a36_38 i_38) * (RA 13 ((3 * v2) + 2))) / 10)))) i_38)) (by omega) _ _ _ hP hS (lv_sub hl [1, 2, 0] rfl)  hk_38
            · refine lv_aload_n hx hb dX8_goHour_140 rfl (lv_at hl 0 rfl) ?_
              refine m_get (v := .ref (ad 4)) hx hb hts hown hK hP 6 (by decide) rfl kX8_19 rfl dX8_goHour_141 ?_
              refine lv_iload hx hb dX8_goHour_144 (lv_at hl 2 rfl) ?_
              refine lv_iconst (v := 2) hx hb dX8_goHour_146 (by decide) ?_
              refine lv_idiv hx hb dX8_goHour_147 (by decide) ?_
              refine kn_top (x' := (nI (i_38 / 2))) (pk_div (a := i_38) (d := 2) (by omega) (by omega) (by omega)) ?_
              refine kn_iald (f := (RA 6)) (v := (RA 6 (i_38 / 2))) hx hb hK hP 4 rfl (i_38 / 2) rfl (by omega) (by omega) rfl dX8_goHour_148 ?_
              refine lv_goto (tgt := 159) hx hb dX8_goHour_149 (by decide) ?_
              refine kn_iast (f := (upd a36_38 i_38 ((a36_38 i_38) + ((RA 13 ((3 * v2) + (i_38 % 2))) + (((a36_38 i_38) * (RA 13 ((3 * v2) + 2))) / 10))))) (ws' := RWs cI ad (va_up RA 36 (upd (upd a36_38 i_38 ((a36_38 i_38) + ((RA 13 ((3 * v2) + (i_38 % 2))) + (((a36_38 i_38) * (RA 13 ((3 * v2) + 2))) / 10)))) i_38 (RA 6 (i_38 / 2)))) RS RN RL) hx hb hK hP (RWsD hI) hS 20 rfl i_38 rfl (by omega) (by omega) rfl dX8_goHour_159 (fun H locs hP hS => ?_)
              refine lv_iinc (v := (nI (i_38 + 1))) (lv' := [(5, .int (nI (i_38 + 1))), (0, .ref (ad 0)), (2, .int (nI v2))]) hx hb dX8_goHour_160 hl (k := 2) rfl (nI_add _ _) (by decide) rfl (fun ls hl => ?_)
              refine lv_goto (tgt := 38) hx hb dX8_goHour_163 (by decide) ?_
              have hL_38 : (m_goHour_L38 RA RS RN v2 (n_38 + 1) i_38 a36_38) = (m_goHour_L38 RA RS RN v2 n_38 (i_38 + 1) (upd (upd a36_38 i_38 ((a36_38 i_38) + ((RA 13 ((3 * v2) + (i_38 % 2))) + (((a36_38 i_38) * (RA 13 ((3 * v2) + 2))) / 10)))) i_38 (RA 6 (i_38 / 2)))) := by rw [m_goHour_L38.eq_2, if_neg c_19, if_neg c_20, if_neg c_21]
              try rw [hL_38] at hk_38
              exact ih_38 (i_38 + 1) (upd (upd a36_38 i_38 ((a36_38 i_38) + ((RA 13 ((3 * v2) + (i_38 % 2))) + (((a36_38 i_38) * (RA 13 ((3 * v2) + 2))) / 10)))) i_38 (RA 6 (i_38 / 2))) (by omega) _ _ _ hP hS (lv_sub hl [1, 2, 0] rfl)  hk_38
    exact loop_38 16 0 a36_3 (by omega) _ _ _ hP hS (lv_sub hl [1, 2, 0] rfl)  (fun H locs ls hP hS hl  => rest_38 (m_goHour_L38 RA RS RN v2 16 0 a36_3) _ _ _ hP hS hl  (hF_3.trans (by rw [m_goHour_k3])))
  have hN_3 : v3.toNatClampNeg < 2 ^ 31 := kcl_lt _
  have loop_3 : ∀ (n_3 i_3 : Nat) (a36_3 : Nat → Int32), i_3 + n_3 = v3.toNatClampNeg → ∀ (H : Heap) (locs : List Loc) (ls : Array Slot), va_P (dC, dI) vwCl (RWs cI ad (va_up RA 36 a36_3) RS RN RL) H → va_S (kAA ad 24) s.heap H locs → lv_has ls 7 [(0, .ref (ad 0)), (1, .int v1), (2, .int (nI v2)), (3, .int v3), (4, .int v4), (5, .int (nI i_3))] → (∀ (H : Heap) (locs : List Loc) (ls : Array Slot), va_P (dC, dI) vwCl (RWs cI ad (va_up RA 36 (m_goHour_L3 RA RS RN v1 v2 v4 n_3 i_3 a36_3)) RS RN RL) H → va_S (kAA ad 24) s.heap H locs → lv_has ls 7 [(0, .ref (ad 0)), (2, .int (nI v2))] → W p l e ({ frames := 5, cells := 0, slots := 0, locals := 115 } : Room) s m args below meth c H locs 0 0 (MQ below (kQ none (kB (dC, dI) [(cI, .int)] (RWs cI ad (va_up (va_up (va_up RA 36 ((m_goHour RA RS RN v1 v2 v3 v4).1)) 37 ((m_goHour RA RS RN v1 v2 v3 v4).2.1)) 39 ((m_goHour RA RS RN v1 v2 v3 v4).2.2)) RS RN RL)) (kAA ad 24)) args s 0 0 (kAA ad 24)) (F0 m 35 ls [])) → W p l e ({ frames := 5, cells := 0, slots := 0, locals := 115 } : Room) s m args below meth c H locs 0 0 (MQ below (kQ none (kB (dC, dI) [(cI, .int)] (RWs cI ad (va_up (va_up (va_up RA 36 ((m_goHour RA RS RN v1 v2 v3 v4).1)) 37 ((m_goHour RA RS RN v1 v2 v3 v4).2.1)) 39 ((m_goHour RA RS RN v1 v2 v3 v4).2.2)) RS RN RL)) (kAA ad 24)) args s 0 0 (kAA ad 24)) (F0 m 3 ls []) := by
    intro n_3
    induction n_3 with
    | zero =>
      intro i_3 a36_3 hin_3 H locs ls hP hS hl  hk_3
      refine lv_iload hx hb dX8_goHour_3 (lv_at hl 5 rfl) ?_
      refine lv_iload_n hx hb dX8_goHour_5 rfl (lv_at hl 3 rfl) ?_
      refine lv_icmp_ge (tgt := 35) hx hb dX8_goHour_6 (by decide) (fun _ => ?_) (fun c_22 => absurd (kct_ge (N := v3.toNatClampNeg) rfl (by omega) (by omega)) c_22)
      have hL_3 : (m_goHour_L3 RA RS RN v1 v2 v4 0 i_3 a36_3) = a36_3 := by rw [m_goHour_L3.eq_1]
      try rw [hL_3] at hk_3
      exact hk_3 _ _ _ hP hS (lv_sub hl [0, 2] rfl) 
    | succ n_3 ih_3 =>
      intro i_3 a36_3 hin_3 H locs ls hP hS hl  hk_3
      have h29 := mI_told hM
      refine lv_iload hx hb dX8_goHour_3 (lv_at hl 5 rfl) ?_
      refine lv_iload_n hx hb dX8_goHour_5 rfl (lv_at hl 3 rfl) ?_
      refine lv_icmp_ge (tgt := 35) hx hb dX8_goHour_6 (by decide) (fun c_23 => absurd c_23 (kct_lt (N := v3.toNatClampNeg) rfl (by omega))) (fun _ => ?_)
      refine lv_aload_n hx hb dX8_goHour_9 rfl (lv_at hl 0 rfl) ?_
      refine lv_iload hx hb dX8_goHour_10 (lv_at hl 4 rfl) ?_
      refine lv_if_lt (tgt := 20) hx hb dX8_goHour_12 (by decide) (fun c_24 => ?_) (fun c_24 => ?_)
      · refine lv_aload_n hx hb dX8_goHour_20 rfl (lv_at hl 0 rfl) ?_
        refine lv_iload_n hx hb dX8_goHour_21 rfl (lv_at hl 1 rfl) ?_
        refine lv_iload_n hx hb dX8_goHour_22 rfl (lv_at hl 2 rfl) ?_
        refine k_rV (v := .int (nI (m_chosen (va_up RA 36 a36_3) RS RN v1 v2))) (As := [.int v1, .int (nI v2)]) (rest := [.ref (ad 0)]) hx hb hml hown hts hl.1 hP hK hN (c_m_chosen hI v1 v2 hM (by omega)) eX8_252 (ci := 7) (q0 := 0) rfl rfl rfl rfl rfl (Nat.le_of_ble_eq_true rfl) ⟨Nat.le_of_ble_eq_true rfl, Nat.le_of_ble_eq_true rfl⟩ ⟨rfl, rfl⟩ ⟨Nat.le_of_ble_eq_true rfl, Nat.le_of_ble_eq_true rfl⟩ dX8_goHour_23 ?_
        refine k_wV (r := none) (As := [.int (nI (m_chosen (va_up RA 36 a36_3) RS RN v1 v2))]) (rest := []) hx hb hml hown hts hl.1 hP hK hN hS (c_m_clear hI (m_chosen (va_up RA 36 a36_3) RS RN v1 v2) (hM) (by first | omega | exact m_chosen_le (mI_told hM) (mI_many hM) _ _)) eX8_255 (ci := 7) (q0 := 0) rfl rfl rfl rfl rfl (Nat.le_of_ble_eq_true rfl) ⟨Nat.le_of_ble_eq_true rfl, Nat.le_of_ble_eq_true rfl⟩ ⟨rfl, rfl⟩ ⟨Nat.le_of_ble_eq_true rfl, Nat.le_of_ble_eq_true rfl⟩ dX8_goHour_26 (fun H locs hP hS => ?_)
        obtain ⟨r_25, hr_25⟩ : ∃ z, z = (m_clear (va_up RA 36 a36_3) RS (m_chosen (va_up RA 36 a36_3) RS RN v1 v2)) := ⟨_, rfl⟩
        rw [← hr_25] at hP
        have hP : va_P (dC, dI) vwCl (RWs cI ad (va_up RA 36 r_25) RS RN RL) H := (RWs_conv rfl rfl rfl rfl rfl rfl rfl rfl rfl rfl rfl rfl rfl rfl rfl rfl rfl rfl rfl rfl rfl rfl rfl rfl rfl rfl rfl rfl rfl rfl rfl rfl rfl rfl rfl rfl rfl rfl rfl rfl rfl hP)
        refine lv_iinc (v := (nI (i_3 + 1))) (lv' := [(5, .int (nI (i_3 + 1))), (0, .ref (ad 0)), (1, .int v1), (2, .int (nI v2)), (3, .int v3), (4, .int v4)]) hx hb dX8_goHour_29 hl (k := 5) rfl (nI_add _ _) (by decide) rfl (fun ls hl => ?_)
        refine lv_goto (tgt := 3) hx hb dX8_goHour_32 (by decide) ?_
        have hL_3 : (m_goHour_L3 RA RS RN v1 v2 v4 (n_3 + 1) i_3 a36_3) = (m_goHour_L3 RA RS RN v1 v2 v4 n_3 (i_3 + 1) r_25) := by subst hr_25; rw [m_goHour_L3.eq_2, if_pos c_24]
        try rw [hL_3] at hk_3
        exact ih_3 (i_3 + 1) r_25 (by omega) _ _ _ hP hS (lv_sub hl [1, 2, 3, 4, 5, 0] rfl)  hk_3
      · have hnat4 : v4 = (nI v4.toNatClampNeg) := kNat (kI_le (kge0 (by assumption)))
        have hl : lv_has ls 7 [(0, .ref (ad 0)), (1, .int v1), (2, .int (nI v2)), (3, .int v3), (4, .int (nI v4.toNatClampNeg)), (5, .int (nI i_3))] := by rw [← hnat4]; exact hl
        have hs4 : v4.toNatClampNeg ≤ 16 := kNat_le hside
        refine lv_iload hx hb dX8_goHour_15 (lv_at hl 4 rfl) ?_
        refine lv_goto (tgt := 26) hx hb dX8_goHour_17 (by decide) ?_
        refine k_wV (r := none) (As := [.int (nI v4.toNatClampNeg)]) (rest := []) hx hb hml hown hts hl.1 hP hK hN hS (c_m_clear hI v4.toNatClampNeg (hM) (by first | omega | exact m_chosen_le (mI_told hM) (mI_many hM) _ _)) eX8_255 (ci := 7) (q0 := 0) rfl rfl rfl rfl rfl (Nat.le_of_ble_eq_true rfl) ⟨Nat.le_of_ble_eq_true rfl, Nat.le_of_ble_eq_true rfl⟩ ⟨rfl, rfl⟩ ⟨Nat.le_of_ble_eq_true rfl, Nat.le_of_ble_eq_true rfl⟩ dX8_goHour_26 (fun H locs hP hS => ?_)
        obtain ⟨r_26, hr_26⟩ : ∃ z, z = (m_clear (va_up RA 36 a36_3) RS v4.toNatClampNeg) := ⟨_, rfl⟩
        rw [← hr_26] at hP
        have hP : va_P (dC, dI) vwCl (RWs cI ad (va_up RA 36 r_26) RS RN RL) H := (RWs_conv rfl rfl rfl rfl rfl rfl rfl rfl rfl rfl rfl rfl rfl rfl rfl rfl rfl rfl rfl rfl rfl rfl rfl rfl rfl rfl rfl rfl rfl rfl rfl rfl rfl rfl rfl rfl rfl rfl rfl rfl rfl hP)
        refine lv_iinc (v := (nI (i_3 + 1))) (lv' := [(5, .int (nI (i_3 + 1))), (0, .ref (ad 0)), (1, .int v1), (2, .int (nI v2)), (3, .int v3), (4, .int (nI v4.toNatClampNeg))]) hx hb dX8_goHour_29 hl (k := 5) rfl (nI_add _ _) (by decide) rfl (fun ls hl => ?_)
        refine lv_goto (tgt := 3) hx hb dX8_goHour_32 (by decide) ?_
        have hl : lv_has ls 7 [(5, .int (nI (i_3 + 1))), (0, .ref (ad 0)), (1, .int v1), (2, .int (nI v2)), (3, .int v3), (4, .int v4)] := by rw [hnat4]; exact hl
        have hL_3 : (m_goHour_L3 RA RS RN v1 v2 v4 (n_3 + 1) i_3 a36_3) = (m_goHour_L3 RA RS RN v1 v2 v4 n_3 (i_3 + 1) r_26) := by subst hr_26; rw [m_goHour_L3.eq_2, if_neg c_24]
        try rw [hL_3] at hk_3
        exact ih_3 (i_3 + 1) r_26 (by omega) _ _ _ hP hS (lv_sub hl [1, 2, 3, 4, 5, 0] rfl)  hk_3
  have hP : va_P (dC, dI) vwCl (RWs cI ad (va_up RA 36 (RA 36)) RS RN RL) s.heap := (RWs_conv rfl rfl rfl rfl rfl rfl rfl rfl rfl rfl rfl rfl rfl rfl rfl rfl rfl rfl rfl rfl rfl rfl rfl rfl rfl rfl rfl rfl rfl rfl rfl rfl rfl rfl rfl rfl rfl rfl rfl rfl rfl hP)
  exact loop_3 v3.toNatClampNeg 0 (RA 36) (by omega) _ _ _ hP hS (lv_sub hl [1, 2, 3, 4, 5, 0] rfl)  (fun H locs ls hP hS hl  => rest_3 (m_goHour_L3 RA RS RN v1 v2 v4 v3.toNatClampNeg 0 (RA 36)) _ _ _ hP hS hl  (by rw [m_goHour]))
-- X8_tell
def m_tell (RN : Nat → Nat) (v1 : Int32) (v2 : Int32) : Int32 × Nat := if (m_isRoof RN v1) = 0 then ((-1), (RN 29)) else (if (m_in v2.toInt64 0 1) = 0 then ((-1), (RN 29)) else ((nI (RN 29)), (2 * v1.toNatClampNeg) + v2.toNatClampNeg))
set_option maxHeartbeats 4000000 in
set_option maxRecDepth 100000 in
theorem c_m_tell (hI : kInj ad 24) (v1 : Int32) (v2 : Int32) (hM : mI RA RS RN) : Met l yX8_tell (.code yX8_tell cX8_tell 4 (some .int) :: kT) ({ frames := 2, cells := 0, slots := 0, locals := 46 } : Room) (va_Pc [.ref (ad 0), .int v1, .int v2] (kB (dC, dI) [(cI, .int)] (RWs cI ad RA RS RN RL))) (kQ (some (.int ((m_tell RN v1 v2).1))) (kB (dC, dI) [(cI, .int)] (RWs cI ad RA RS (va_up RN 29 ((m_tell RN v1 v2).2)) RL)) (kAA ad 24)) 0 0 (kAA ad 24) := by
  refine kMet (by decide) (fun p e s m args below meth c ls hx hb hr hml hts hown hlocks hname hargs hB hl => ?_) (Nat.le_of_ble_eq_true rfl)
  obtain ⟨hP, hK, hN⟩ := hB
  have hl : lv_has ls 4 [(0, .ref (ad 0)), (1, .int v1), (2, .int v2)] := hl
  have hS : va_S (kAA ad 24) s.heap s.heap [] := va_S.rf
  have h4 : RN 4 ≤ 8 := mI_many hM
  refine lv_aload_n hx hb dX8_tell_0 rfl (lv_at hl 0 rfl) ?_
  refine lv_iload_n hx hb dX8_tell_1 rfl (lv_at hl 1 rfl) ?_
  refine k_rV (v := .int (m_isRoof RN v1)) (As := [.int v1]) (rest := []) hx hb hml hown hts hl.1 hP hK hN (c_m_isRoof hI v1) eX8_221 (ci := 7) (q0 := 0) rfl rfl rfl rfl rfl (Nat.le_of_ble_eq_true rfl) ⟨Nat.le_of_ble_eq_true rfl, Nat.le_of_ble_eq_true rfl⟩ ⟨rfl, rfl⟩ ⟨Nat.le_of_ble_eq_true rfl, Nat.le_of_ble_eq_true rfl⟩ dX8_tell_2 ?_
  refine lv_if_eq (tgt := 18) hx hb dX8_tell_5 (by decide) (fun c_3 => ?_) (fun c_3 => ?_)
  · refine lv_iconst (v := (-1)) hx hb dX8_tell_18 (by decide) ?_
    have hE : (m_tell RN v1 v2) = ((-1), (RN 29)) := by rw [m_tell, if_pos c_3]
    exact W.iret (v := (-1)) hx hb hr (fun t ht hW => ⟨by rw [hE], by rw [hE]; exact kB.of (ws := RWs cI ad RA RS (va_up RN 29 (RN 29)) RL) (RWs_conv rfl rfl rfl rfl rfl rfl rfl rfl rfl rfl rfl rfl rfl rfl rfl rfl rfl rfl rfl rfl rfl rfl rfl rfl rfl rfl rfl rfl rfl rfl rfl rfl rfl rfl rfl rfl rfl rfl rfl rfl rfl hP) hK hN ht hW, hS.F ht⟩) hS.2.2 dX8_tell_19 hlocks
  · have hr1 := m_isRoof_t h4 c_3
    have hnat1 : v1 = (nI v1.toNatClampNeg) := kNat hr1.1
    have hl : lv_has ls 4 [(0, .ref (ad 0)), (1, .int (nI v1.toNatClampNeg)), (2, .int v2)] := by rw [← hnat1]; exact hl
    have hr1b : v1.toNatClampNeg < (RN 4) := kNat_lt hr1.2 (by omega)
    refine lv_iload_n hx hb dX8_tell_8 rfl (lv_at hl 2 rfl) ?_
    refine lv_i2l (v := v2.toInt64) hx hb dX8_tell_9 rfl ?_
    refine lv_lconst (v := 0) hx hb dX8_tell_10 (by decide) ?_
    refine lv_lconst (v := 1) hx hb dX8_tell_11 (by decide) ?_
    refine k_rS (v := .int (m_in v2.toInt64 0 1)) (As := [.long v2.toInt64, .long 0, .long 1]) (rest := []) hx hb hml hown hts hl.1 (B := fun _ => True) (fun _ _ _ _ q => q) (fun _ _ _ => trivial) (c_m_in v2.toInt64 0 1) eX8_99 rfl rfl (Nat.le_of_ble_eq_true rfl) ⟨Nat.le_of_ble_eq_true rfl, Nat.le_of_ble_eq_true rfl⟩ ⟨rfl, rfl⟩ ⟨Nat.le_of_ble_eq_true rfl, Nat.le_of_ble_eq_true rfl⟩ dX8_tell_12 ?_
    refine lv_if_ne (tgt := 20) hx hb dX8_tell_15 (by decide) (fun c_4 => ?_) (fun c_4 => ?_)
    · have hq2 := m_in_t c_4
      have hnat2 : v2 = (nI v2.toNatClampNeg) := kNat (Int.le_trans (by decide) hq2.1)
      have hl : lv_has ls 4 [(0, .ref (ad 0)), (1, .int (nI v1.toNatClampNeg)), (2, .int (nI v2.toNatClampNeg))] := by rw [← hnat2]; exact hl
      have hq2b : v2.toNatClampNeg ≤ 1 := kNat_le hq2.2
      refine lv_aload_n hx hb dX8_tell_20 rfl (lv_at hl 0 rfl) ?_
      refine m_get (v := .int (nI (RN 29))) hx hb hts hown hK hP 29 (by decide) rfl kX8_169 rfl dX8_tell_21 ?_
      refine lv_istore_n (lv' := [(3, .int (nI (RN 29))), (0, .ref (ad 0)), (1, .int (nI v1.toNatClampNeg)), (2, .int (nI v2.toNatClampNeg))]) hx hb dX8_tell_24 rfl hl (by decide) rfl (fun ls hl => ?_)
      refine lv_aload_n hx hb dX8_tell_25 rfl (lv_at hl 1 rfl) ?_
      refine lv_iconst (v := 2) hx hb dX8_tell_26 (by decide) ?_
      refine lv_iload_n hx hb dX8_tell_27 rfl (lv_at hl 2 rfl) ?_
      refine kn_imul hx hb 2 v1.toNatClampNeg rfl rfl dX8_tell_28 ?_
      refine lv_iload_n hx hb dX8_tell_29 rfl (lv_at hl 3 rfl) ?_
      refine kn_iadd hx hb (2 * v1.toNatClampNeg) v2.toNatClampNeg rfl rfl dX8_tell_30 ?_
      refine kn_nm (fun z_5 hz_5 => ?_)
      refine m_put (RS' := RS) (RN' := (va_up RN 29 z_5)) (RL' := RL) (ty := .int) hx hb hts hown hI hK hP hS 29 (by decide) rfl kX8_169 rfl (by decide +kernel) rfl rfl rfl dX8_tell_31 (fun H locs hP hS => ?_)
      refine lv_iload_n hx hb dX8_tell_34 rfl (lv_at hl 0 rfl) ?_
      have hE : (m_tell RN v1 v2) = ((nI (RN 29)), z_5) := by subst hz_5; rw [m_tell, if_neg c_3, if_neg c_4]
      exact W.iret (v := (nI (RN 29))) hx hb hr (fun t ht hW => ⟨by rw [hE], by rw [hE]; exact kB.of (ws := RWs cI ad RA RS (va_up RN 29 z_5) RL) hP hK hN ht hW, hS.F ht⟩) hS.2.2 dX8_tell_35 hlocks
    · refine lv_iconst (v := (-1)) hx hb dX8_tell_18 (by decide) ?_
      have hE : (m_tell RN v1 v2) = ((-1), (RN 29)) := by rw [m_tell, if_neg c_3, if_pos c_4]
      exact W.iret (v := (-1)) hx hb hr (fun t ht hW => ⟨by rw [hE], by rw [hE]; exact kB.of (ws := RWs cI ad RA RS (va_up RN 29 (RN 29)) RL) (RWs_conv rfl rfl rfl rfl rfl rfl rfl rfl rfl rfl rfl rfl rfl rfl rfl rfl rfl rfl rfl rfl rfl rfl rfl rfl rfl rfl rfl rfl rfl rfl rfl rfl rfl rfl rfl rfl rfl rfl rfl rfl rfl hP) hK hN ht hW, hS.F ht⟩) hS.2.2 dX8_tell_19 hlocks
-- X8_on
def m_on_k60 (RA : Nat → Nat → Int32) (RS : Nat → Int32) (RN : Nat → Nat) (a21 : Nat → Int32) (a24 : Nat → Int32) (a36 : Nat → Int32) (a37 : Nat → Int32) (a39 : Nat → Int32) (s38 : Int32) (v2 : Nat) : Int32 × (Nat → Int32) × (Nat → Int32) × (Nat → Int32) × (Nat → Int32) × (Nat → Int32) × (Nat → Int32) × (Nat → Int32) × Nat × Int32 × Int32 × Int32 := (((RS 26) &&& (((m_feel (va_up (va_up (va_up (va_up (va_up RA 21 a21) 24 a24) 36 a36) 37 a37) 39 a39) (va_up (va_up RS 27 ((RS 27) + 1)) 38 s38) (va_up RN 28 v2)).2.2.2.2.2.2.1) ^^^ (-1))), (m_feel (va_up (va_up (va_up (va_up (va_up RA 21 a21) 24 a24) 36 a36) 37 a37) 39 a39) (va_up (va_up RS 27 ((RS 27) + 1)) 38 s38) (va_up RN 28 v2)).1, (m_feel (va_up (va_up (va_up (va_up (va_up RA 21 a21) 24 a24) 36 a36) 37 a37) 39 a39) (va_up (va_up RS 27 ((RS 27) + 1)) 38 s38) (va_up RN 28 v2)).2.1, (m_feel (va_up (va_up (va_up (va_up (va_up RA 21 a21) 24 a24) 36 a36) 37 a37) 39 a39) (va_up (va_up RS 27 ((RS 27) + 1)) 38 s38) (va_up RN 28 v2)).2.2.1, a24, (m_feel (va_up (va_up (va_up (va_up (va_up RA 21 a21) 24 a24) 36 a36) 37 a37) 39 a39) (va_up (va_up RS 27 ((RS 27) + 1)) 38 s38) (va_up RN 28 v2)).2.2.2.1, (m_feel (va_up (va_up (va_up (va_up (va_up RA 21 a21) 24 a24) 36 a36) 37 a37) 39 a39) (va_up (va_up RS 27 ((RS 27) + 1)) 38 s38) (va_up RN 28 v2)).2.2.2.2.1, (m_feel (va_up (va_up (va_up (va_up (va_up RA 21 a21) 24 a24) 36 a36) 37 a37) 39 a39) (va_up (va_up RS 27 ((RS 27) + 1)) 38 s38) (va_up RN 28 v2)).2.2.2.2.2.1, v2, (m_feel (va_up (va_up (va_up (va_up (va_up RA 21 a21) 24 a24) 36 a36) 37 a37) 39 a39) (va_up (va_up RS 27 ((RS 27) + 1)) 38 s38) (va_up RN 28 v2)).2.2.2.2.2.2.1, ((RS 27) + 1), (m_feel (va_up (va_up (va_up (va_up (va_up RA 21 a21) 24 a24) 36 a36) 37 a37) 39 a39) (va_up (va_up RS 27 ((RS 27) + 1)) 38 s38) (va_up RN 28 v2)).2.2.2.2.2.2.2)
def m_on_L60 (a37 : Nat → Int32) : Nat → Nat → (Nat → Int32) → (Nat → Int32)
  | 0, i, a24 => a24
  | n + 1, i, a24 => m_on_L60 a37 n (i + 1) (upd a24 i (a37 i))
def m_on_k34 (RA : Nat → Nat → Int32) (RS : Nat → Int32) (RN : Nat → Nat) (a21 : Nat → Int32) (a36 : Nat → Int32) (a37 : Nat → Int32) (a39 : Nat → Int32) (s38 : Int32) (v2 : Nat) : Int32 × (Nat → Int32) × (Nat → Int32) × (Nat → Int32) × (Nat → Int32) × (Nat → Int32) × (Nat → Int32) × (Nat → Int32) × Nat × Int32 × Int32 × Int32 := m_on_k60 RA RS RN a21 (m_on_L60 a37 24 0 (RA 24)) a36 a37 a39 s38 v2
def m_on_L34 (a36 : Nat → Int32) : Nat → Nat → (Nat → Int32) → (Nat → Int32)
  | 0, i, a21 => a21
  | n + 1, i, a21 => m_on_L34 a36 n (i + 1) (upd a21 i (a36 i))
def m_on (RA : Nat → Nat → Int32) (RS : Nat → Int32) (RN : Nat → Nat) (v1 : Int32) (v2 : Int32) : Int32 × (Nat → Int32) × (Nat → Int32) × (Nat → Int32) × (Nat → Int32) × (Nat → Int32) × (Nat → Int32) × (Nat → Int32) × Nat × Int32 × Int32 × Int32 := if (m_isRule v1) = 0 then ((-1), (RA 21), (RA 22), (RA 23), (RA 24), (RA 36), (RA 37), (RA 39), (RN 28), (RS 26), (RS 27), (RS 38)) else (if (m_isSky v2) = 0 then ((-1), (RA 21), (RA 22), (RA 23), (RA 24), (RA 36), (RA 37), (RA 39), (RN 28), (RS 26), (RS 27), (RS 38)) else m_on_k34 RA RS RN (m_on_L34 ((m_goHour (va_up (va_up (va_up RA 36 ((m_load RA RS).1)) 37 ((m_load RA RS).2.1)) 39 ((m_load RA RS).2.2.1)) (va_up RS 38 ((m_load RA RS).2.2.2)) RN v1 v2.toNatClampNeg (RS 15) (-4)).1) 16 0 (RA 21)) ((m_goHour (va_up (va_up (va_up RA 36 ((m_load RA RS).1)) 37 ((m_load RA RS).2.1)) 39 ((m_load RA RS).2.2.1)) (va_up RS 38 ((m_load RA RS).2.2.2)) RN v1 v2.toNatClampNeg (RS 15) (-4)).1) ((m_goHour (va_up (va_up (va_up RA 36 ((m_load RA RS).1)) 37 ((m_load RA RS).2.1)) 39 ((m_load RA RS).2.2.1)) (va_up RS 38 ((m_load RA RS).2.2.2)) RN v1 v2.toNatClampNeg (RS 15) (-4)).2.1) ((m_goHour (va_up (va_up (va_up RA 36 ((m_load RA RS).1)) 37 ((m_load RA RS).2.1)) 39 ((m_load RA RS).2.2.1)) (va_up RS 38 ((m_load RA RS).2.2.2)) RN v1 v2.toNatClampNeg (RS 15) (-4)).2.2) ((m_load RA RS).2.2.2) v2.toNatClampNeg)
set_option maxHeartbeats 4000000 in
set_option maxRecDepth 100000 in
theorem c_m_on (hI : kInj ad 24) (v1 : Int32) (v2 : Int32) (hM : mI RA RS RN) : Met l yX8_on (.code yX8_on cX8_on 4 (some .int) :: kT) ({ frames := 6, cells := 0, slots := 0, locals := 141 } : Room) (va_Pc [.ref (ad 0), .int v1, .int v2] (kB (dC, dI) [(cI, .int)] (RWs cI ad RA RS RN RL))) (kQ (some (.int ((m_on RA RS RN v1 v2).1))) (kB (dC, dI) [(cI, .int)] (RWs cI ad (va_up (va_up (va_up (va_up (va_up (va_up (va_up RA 21 ((m_on RA RS RN v1 v2).2.1)) 22 ((m_on RA RS RN v1 v2).2.2.1)) 23 ((m_on RA RS RN v1 v2).2.2.2.1)) 24 ((m_on RA RS RN v1 v2).2.2.2.2.1)) 36 ((m_on RA RS RN v1 v2).2.2.2.2.2.1)) 37 ((m_on RA RS RN v1 v2).2.2.2.2.2.2.1)) 39 ((m_on RA RS RN v1 v2).2.2.2.2.2.2.2.1)) (va_up (va_up (va_up RS 26 ((m_on RA RS RN v1 v2).2.2.2.2.2.2.2.2.2.1)) 27 ((m_on RA RS RN v1 v2).2.2.2.2.2.2.2.2.2.2.1)) 38 ((m_on RA RS RN v1 v2).2.2.2.2.2.2.2.2.2.2.2)) (va_up RN 28 ((m_on RA RS RN v1 v2).2.2.2.2.2.2.2.2.1)) RL)) (kAA ad 24)) 0 0 (kAA ad 24) := by
  refine kMet (by decide) (fun p e s m args below meth c ls hx hb hr hml hts hown hlocks hname hargs hB hl => ?_) (Nat.le_of_ble_eq_true rfl)
  obtain ⟨hP, hK, hN⟩ := hB
  have hl : lv_has ls 4 [(0, .ref (ad 0)), (1, .int v1), (2, .int v2)] := hl
  have hS : va_S (kAA ad 24) s.heap s.heap [] := va_S.rf
  have h4 : RN 4 ≤ 8 := mI_many hM
  refine lv_iload_n hx hb dX8_on_0 rfl (lv_at hl 1 rfl) ?_
  refine k_rS (v := .int (m_isRule v1)) (As := [.int v1]) (rest := []) hx hb hml hown hts hl.1 (B := fun _ => True) (fun _ _ _ _ q => q) (fun _ _ _ => trivial) (c_m_isRule v1) eX8_262 rfl rfl (Nat.le_of_ble_eq_true rfl) ⟨Nat.le_of_ble_eq_true rfl, Nat.le_of_ble_eq_true rfl⟩ ⟨rfl, rfl⟩ ⟨Nat.le_of_ble_eq_true rfl, Nat.le_of_ble_eq_true rfl⟩ dX8_on_1 ?_
  refine lv_if_eq (tgt := 14) hx hb dX8_on_4 (by decide) (fun c_5 => ?_) (fun c_5 => ?_)
  · refine lv_iconst (v := (-1)) hx hb dX8_on_14 (by decide) ?_
    have hE : (m_on RA RS RN v1 v2) = ((-1), (RA 21), (RA 22), (RA 23), (RA 24), (RA 36), (RA 37), (RA 39), (RN 28), (RS 26), (RS 27), (RS 38)) := by rw [m_on, if_pos c_5]
    exact W.iret (v := (-1)) hx hb hr (fun t ht hW => ⟨by rw [hE], by rw [hE]; exact kB.of (ws := RWs cI ad (va_up (va_up (va_up (va_up (va_up (va_up (va_up RA 21 (RA 21)) 22 (RA 22)) 23 (RA 23)) 24 (RA 24)) 36 (RA 36)) 37 (RA 37)) 39 (RA 39)) (va_up (va_up (va_up RS 26 (RS 26)) 27 (RS 27)) 38 (RS 38)) (va_up RN 28 (RN 28)) RL) (RWs_conv rfl rfl rfl rfl rfl rfl rfl rfl rfl rfl rfl rfl rfl rfl rfl rfl rfl rfl rfl rfl rfl rfl rfl rfl rfl rfl rfl rfl rfl rfl rfl rfl rfl rfl rfl rfl rfl rfl rfl rfl rfl hP) hK hN ht hW, hS.F ht⟩) hS.2.2 dX8_on_15 hlocks
  · refine lv_iload_n hx hb dX8_on_7 rfl (lv_at hl 2 rfl) ?_
    refine k_rS (v := .int (m_isSky v2)) (As := [.int v2]) (rest := []) hx hb hml hown hts hl.1 (B := fun _ => True) (fun _ _ _ _ q => q) (fun _ _ _ => trivial) (c_m_isSky v2) eX8_265 rfl rfl (Nat.le_of_ble_eq_true rfl) ⟨Nat.le_of_ble_eq_true rfl, Nat.le_of_ble_eq_true rfl⟩ ⟨rfl, rfl⟩ ⟨Nat.le_of_ble_eq_true rfl, Nat.le_of_ble_eq_true rfl⟩ dX8_on_8 ?_
    refine lv_if_ne (tgt := 16) hx hb dX8_on_11 (by decide) (fun c_6 => ?_) (fun c_6 => ?_)
    · have hk2 := m_isSky_t c_6
      have hnat2 : v2 = (nI v2.toNatClampNeg) := kNat hk2.1
      have hl : lv_has ls 4 [(0, .ref (ad 0)), (1, .int v1), (2, .int (nI v2.toNatClampNeg))] := by rw [← hnat2]; exact hl
      have hk2b : v2.toNatClampNeg < 3 := kNat_lt hk2.2 (by omega)
      refine lv_aload_n hx hb dX8_on_16 rfl (lv_at hl 0 rfl) ?_
      refine k_wV (r := none) (As := []) (rest := []) hx hb hml hown hts hl.1 hP hK hN hS (c_m_load hI) eX8_212 (ci := 7) (q0 := 0) rfl rfl rfl rfl rfl (Nat.le_of_ble_eq_true rfl) ⟨Nat.le_of_ble_eq_true rfl, Nat.le_of_ble_eq_true rfl⟩ ⟨rfl, rfl⟩ ⟨Nat.le_of_ble_eq_true rfl, Nat.le_of_ble_eq_true rfl⟩ dX8_on_17 (fun H locs hP hS => ?_)
      obtain ⟨r_7, hr_7⟩ : ∃ z, z = (m_load RA RS) := ⟨_, rfl⟩
      rw [← hr_7] at hP
      have hP : va_P (dC, dI) vwCl (RWs cI ad (va_up (va_up (va_up RA 36 r_7.1) 37 r_7.2.1) 39 r_7.2.2.1) (va_up RS 38 r_7.2.2.2) RN RL) H := (RWs_conv rfl rfl rfl rfl rfl rfl rfl rfl rfl rfl rfl rfl rfl rfl rfl rfl rfl rfl rfl rfl rfl rfl rfl rfl rfl rfl rfl rfl rfl rfl rfl rfl rfl rfl rfl rfl rfl rfl rfl rfl rfl hP)
      refine lv_aload_n hx hb dX8_on_20 rfl (lv_at hl 0 rfl) ?_
      refine lv_iload_n hx hb dX8_on_21 rfl (lv_at hl 1 rfl) ?_
      refine lv_iload_n hx hb dX8_on_22 rfl (lv_at hl 2 rfl) ?_
      refine lv_aload_n hx hb dX8_on_23 rfl (lv_at hl 0 rfl) ?_
      refine m_get (v := .int (RS 15)) hx hb hts hown hK hP 15 (by decide) rfl kX8_142 rfl dX8_on_24 ?_
      refine lv_bipush (v := (-4)) hx hb dX8_on_27 (by decide) ?_
      refine k_wV (r := none) (As := [.int v1, .int (nI v2.toNatClampNeg), .int (RS 15), .int (-4)]) (rest := []) hx hb hml hown hts hl.1 hP hK hN hS (c_m_goHour hI v1 v2.toNatClampNeg (RS 15) (-4) hM (by omega) (by decide)) eX8_268 (ci := 7) (q0 := 0) rfl rfl rfl rfl rfl (Nat.le_of_ble_eq_true rfl) ⟨Nat.le_of_ble_eq_true rfl, Nat.le_of_ble_eq_true rfl⟩ ⟨rfl, rfl⟩ ⟨Nat.le_of_ble_eq_true rfl, Nat.le_of_ble_eq_true rfl⟩ dX8_on_29 (fun H locs hP hS => ?_)
      obtain ⟨r_8, hr_8⟩ : ∃ z, z = (m_goHour (va_up (va_up (va_up RA 36 r_7.1) 37 r_7.2.1) 39 r_7.2.2.1) (va_up RS 38 r_7.2.2.2) RN v1 v2.toNatClampNeg (RS 15) (-4)) := ⟨_, rfl⟩
      rw [← hr_8] at hP
      have hP : va_P (dC, dI) vwCl (RWs cI ad (va_up (va_up (va_up RA 36 r_8.1) 37 r_8.2.1) 39 r_8.2.2) (va_up RS 38 r_7.2.2.2) RN RL) H := (RWs_conv rfl rfl rfl rfl rfl rfl rfl rfl rfl rfl rfl rfl rfl rfl rfl rfl rfl rfl rfl rfl rfl rfl rfl rfl rfl rfl rfl rfl rfl rfl rfl rfl rfl rfl rfl rfl rfl rfl rfl rfl rfl hP)
      refine lv_iconst (v := 0) hx hb dX8_on_32 (by decide) ?_
      refine lv_istore_n (lv' := [(3, .int 0), (0, .ref (ad 0)), (1, .int v1), (2, .int (nI v2.toNatClampNeg))]) hx hb dX8_on_33 rfl hl (by decide) rfl (fun ls hl => ?_)
      have rest_34 : ∀ (a21_34 : Nat → Int32), ∀ (H : Heap) (locs : List Loc) (ls : Array Slot), va_P (dC, dI) vwCl (RWs cI ad (va_up (va_up (va_up (va_up RA 21 a21_34) 36 r_8.1) 37 r_8.2.1) 39 r_8.2.2) (va_up RS 38 r_7.2.2.2) RN RL) H → va_S (kAA ad 24) s.heap H locs → lv_has ls 4 [(0, .ref (ad 0)), (2, .int (nI v2.toNatClampNeg))] → (m_on RA RS RN v1 v2) = m_on_k34 RA RS RN a21_34 r_8.1 r_8.2.1 r_8.2.2 r_7.2.2.2 v2.toNatClampNeg → W p l e ({ frames := 6, cells := 0, slots := 0, locals := 141 } : Room) s m args below meth c H locs 0 0 (MQ below (kQ (some (.int ((m_on RA RS RN v1 v2).1))) (kB (dC, dI) [(cI, .int)] (RWs cI ad (va_up (va_up (va_up (va_up (va_up (va_up (va_up RA 21 ((m_on RA RS RN v1 v2).2.1)) 22 ((m_on RA RS RN v1 v2).2.2.1)) 23 ((m_on RA RS RN v1 v2).2.2.2.1)) 24 ((m_on RA RS RN v1 v2).2.2.2.2.1)) 36 ((m_on RA RS RN v1 v2).2.2.2.2.2.1)) 37 ((m_on RA RS RN v1 v2).2.2.2.2.2.2.1)) 39 ((m_on RA RS RN v1 v2).2.2.2.2.2.2.2.1)) (va_up (va_up (va_up RS 26 ((m_on RA RS RN v1 v2).2.2.2.2.2.2.2.2.2.1)) 27 ((m_on RA RS RN v1 v2).2.2.2.2.2.2.2.2.2.2.1)) 38 ((m_on RA RS RN v1 v2).2.2.2.2.2.2.2.2.2.2.2)) (va_up RN 28 ((m_on RA RS RN v1 v2).2.2.2.2.2.2.2.2.1)) RL)) (kAA ad 24)) args s 0 0 (kAA ad 24)) (F0 m 58 ls []) := by
        intro a21_34 H locs ls hP hS hl  hF_34
        refine lv_iconst (v := 0) hx hb dX8_on_58 (by decide) ?_
        refine lv_istore_n (lv' := [(3, .int 0), (0, .ref (ad 0)), (2, .int (nI v2.toNatClampNeg))]) hx hb dX8_on_59 rfl hl (by decide) rfl (fun ls hl => ?_)
        have rest_60 : ∀ (a24_60 : Nat → Int32), ∀ (H : Heap) (locs : List Loc) (ls : Array Slot), va_P (dC, dI) vwCl (RWs cI ad (va_up (va_up (va_up (va_up (va_up RA 21 a21_34) 24 a24_60) 36 r_8.1) 37 r_8.2.1) 39 r_8.2.2) (va_up RS 38 r_7.2.2.2) RN RL) H → va_S (kAA ad 24) s.heap H locs → lv_has ls 4 [(0, .ref (ad 0)), (2, .int (nI v2.toNatClampNeg))] → (m_on RA RS RN v1 v2) = m_on_k60 RA RS RN a21_34 a24_60 r_8.1 r_8.2.1 r_8.2.2 r_7.2.2.2 v2.toNatClampNeg → W p l e ({ frames := 6, cells := 0, slots := 0, locals := 141 } : Room) s m args below meth c H locs 0 0 (MQ below (kQ (some (.int ((m_on RA RS RN v1 v2).1))) (kB (dC, dI) [(cI, .int)] (RWs cI ad (va_up (va_up (va_up (va_up (va_up (va_up (va_up RA 21 ((m_on RA RS RN v1 v2).2.1)) 22 ((m_on RA RS RN v1 v2).2.2.1)) 23 ((m_on RA RS RN v1 v2).2.2.2.1)) 24 ((m_on RA RS RN v1 v2).2.2.2.2.1)) 36 ((m_on RA RS RN v1 v2).2.2.2.2.2.1)) 37 ((m_on RA RS RN v1 v2).2.2.2.2.2.2.1)) 39 ((m_on RA RS RN v1 v2).2.2.2.2.2.2.2.1)) (va_up (va_up (va_up RS 26 ((m_on RA RS RN v1 v2).2.2.2.2.2.2.2.2.2.1)) 27 ((m_on RA RS RN v1 v2).2.2.2.2.2.2.2.2.2.2.1)) 38 ((m_on RA RS RN v1 v2).2.2.2.2.2.2.2.2.2.2.2)) (va_up RN 28 ((m_on RA RS RN v1 v2).2.2.2.2.2.2.2.2.1)) RL)) (kAA ad 24)) args s 0 0 (kAA ad 24)) (F0 m 84 ls []) := by
          intro a24_60 H locs ls hP hS hl  hF_60
          refine lv_aload_n hx hb dX8_on_84 rfl (lv_at hl 0 rfl) ?_
          refine lv_dup hx hb dX8_on_85 rfl ?_
          refine m_get (v := .int (RS 27)) hx hb hts hown hK hP 27 (by decide) rfl kX8_166 rfl dX8_on_86 ?_
          refine lv_iconst (v := 1) hx hb dX8_on_89 (by decide) ?_
          refine lv_iadd hx hb dX8_on_90 ?_
          refine m_put (RS' := (va_up (va_up RS 27 ((RS 27) + 1)) 38 r_7.2.2.2)) (RN' := RN) (RL' := RL) (ty := .int) hx hb hts hown hI hK hP hS 27 (by decide) rfl kX8_166 rfl (by decide +kernel) rfl rfl rfl dX8_on_91 (fun H locs hP hS => ?_)
          refine lv_aload_n hx hb dX8_on_94 rfl (lv_at hl 0 rfl) ?_
          refine lv_iload_n hx hb dX8_on_95 rfl (lv_at hl 1 rfl) ?_
          refine kn_nm (fun z_9 hz_9 => ?_)
          refine m_put (RS' := (va_up (va_up RS 27 ((RS 27) + 1)) 38 r_7.2.2.2)) (RN' := (va_up RN 28 z_9)) (RL' := RL) (ty := .int) hx hb hts hown hI hK hP hS 28 (by decide) rfl kX8_160 rfl (by decide +kernel) rfl rfl rfl dX8_on_96 (fun H locs hP hS => ?_)
          refine lv_aload_n hx hb dX8_on_99 rfl (lv_at hl 0 rfl) ?_
          refine m_get (v := .int (RS 26)) hx hb hts hown hK hP 26 (by decide) rfl kX8_163 rfl dX8_on_100 ?_
          refine lv_istore_n (lv' := [(3, .int (RS 26)), (0, .ref (ad 0)), (2, .int (nI v2.toNatClampNeg))]) hx hb dX8_on_103 rfl hl (by decide) rfl (fun ls hl => ?_)
          refine lv_aload_n hx hb dX8_on_104 rfl (lv_at hl 1 rfl) ?_
          refine k_wV (r := none) (As := []) (rest := []) hx hb hml hown hts hl.1 hP hK hN hS (c_m_feel hI (mI_sky_up hM (by omega))) eX8_180 (ci := 7) (q0 := 0) rfl rfl rfl rfl rfl (Nat.le_of_ble_eq_true rfl) ⟨Nat.le_of_ble_eq_true rfl, Nat.le_of_ble_eq_true rfl⟩ ⟨rfl, rfl⟩ ⟨Nat.le_of_ble_eq_true rfl, Nat.le_of_ble_eq_true rfl⟩ dX8_on_105 (fun H locs hP hS => ?_)
          obtain ⟨r_10, hr_10⟩ : ∃ z, z = (m_feel (va_up (va_up (va_up (va_up (va_up RA 21 a21_34) 24 a24_60) 36 r_8.1) 37 r_8.2.1) 39 r_8.2.2) (va_up (va_up RS 27 ((RS 27) + 1)) 38 r_7.2.2.2) (va_up RN 28 z_9)) := ⟨_, rfl⟩
          rw [← hr_10] at hP
          have hP : va_P (dC, dI) vwCl (RWs cI ad (va_up (va_up (va_up (va_up (va_up (va_up (va_up RA 21 r_10.1) 22 r_10.2.1) 23 r_10.2.2.1) 24 a24_60) 36 r_10.2.2.2.1) 37 r_10.2.2.2.2.1) 39 r_10.2.2.2.2.2.1) (va_up (va_up (va_up RS 26 r_10.2.2.2.2.2.2.1) 27 ((RS 27) + 1)) 38 r_10.2.2.2.2.2.2.2) (va_up RN 28 z_9) RL) H := (RWs_conv rfl rfl rfl rfl rfl rfl rfl rfl rfl rfl rfl rfl rfl rfl rfl rfl rfl rfl rfl rfl rfl rfl rfl rfl rfl rfl rfl rfl rfl rfl rfl rfl rfl rfl rfl rfl rfl rfl rfl rfl rfl hP)
          refine lv_iload_n hx hb dX8_on_108 rfl (lv_at hl 0 rfl) ?_
          refine lv_aload_n hx hb dX8_on_109 rfl (lv_at hl 1 rfl) ?_
          refine m_get (v := .int r_10.2.2.2.2.2.2.1) hx hb hts hown hK hP 26 (by decide) rfl kX8_163 rfl dX8_on_110 ?_
          refine lv_iconst (v := (-1)) hx hb dX8_on_113 (by decide) ?_
          refine lv_ixor hx hb dX8_on_114 ?_
          refine lv_iand hx hb dX8_on_115 ?_
          have hE : (m_on RA RS RN v1 v2) = (((RS 26) &&& (r_10.2.2.2.2.2.2.1 ^^^ (-1))), r_10.1, r_10.2.1, r_10.2.2.1, a24_60, r_10.2.2.2.1, r_10.2.2.2.2.1, r_10.2.2.2.2.2.1, z_9, r_10.2.2.2.2.2.2.1, ((RS 27) + 1), r_10.2.2.2.2.2.2.2) := by subst hr_10; subst hz_9; subst hr_8; subst hr_7; exact hF_60.trans (by rw [m_on_k60])
          exact W.iret (v := ((RS 26) &&& (r_10.2.2.2.2.2.2.1 ^^^ (-1)))) hx hb hr (fun t ht hW => ⟨by rw [hE], by rw [hE]; exact kB.of (ws := RWs cI ad (va_up (va_up (va_up (va_up (va_up (va_up (va_up RA 21 r_10.1) 22 r_10.2.1) 23 r_10.2.2.1) 24 a24_60) 36 r_10.2.2.2.1) 37 r_10.2.2.2.2.1) 39 r_10.2.2.2.2.2.1) (va_up (va_up (va_up RS 26 r_10.2.2.2.2.2.2.1) 27 ((RS 27) + 1)) 38 r_10.2.2.2.2.2.2.2) (va_up RN 28 z_9) RL) hP hK hN ht hW, hS.F ht⟩) hS.2.2 dX8_on_116 hlocks
        have loop_60 : ∀ (n_60 i_60 : Nat) (a24_60 : Nat → Int32), i_60 + n_60 = 24 → ∀ (H : Heap) (locs : List Loc) (ls : Array Slot), va_P (dC, dI) vwCl (RWs cI ad (va_up (va_up (va_up (va_up (va_up RA 21 a21_34) 24 a24_60) 36 r_8.1) 37 r_8.2.1) 39 r_8.2.2) (va_up RS 38 r_7.2.2.2) RN RL) H → va_S (kAA ad 24) s.heap H locs → lv_has ls 4 [(0, .ref (ad 0)), (2, .int (nI v2.toNatClampNeg)), (3, .int (nI i_60))] → (∀ (H : Heap) (locs : List Loc) (ls : Array Slot), va_P (dC, dI) vwCl (RWs cI ad (va_up (va_up (va_up (va_up (va_up RA 21 a21_34) 24 (m_on_L60 r_8.2.1 n_60 i_60 a24_60)) 36 r_8.1) 37 r_8.2.1) 39 r_8.2.2) (va_up RS 38 r_7.2.2.2) RN RL) H → va_S (kAA ad 24) s.heap H locs → lv_has ls 4 [(0, .ref (ad 0)), (2, .int (nI v2.toNatClampNeg))] → W p l e ({ frames := 6, cells := 0, slots := 0, locals := 141 } : Room) s m args below meth c H locs 0 0 (MQ below (kQ (some (.int ((m_on RA RS RN v1 v2).1))) (kB (dC, dI) [(cI, .int)] (RWs cI ad (va_up (va_up (va_up (va_up (va_up (va_up (va_up RA 21 ((m_on RA RS RN v1 v2).2.1)) 22 ((m_on RA RS RN v1 v2).2.2.1)) 23 ((m_on RA RS RN v1 v2).2.2.2.1)) 24 ((m_on RA RS RN v1 v2).2.2.2.2.1)) 36 ((m_on RA RS RN v1 v2).2.2.2.2.2.1)) 37 ((m_on RA RS RN v1 v2).2.2.2.2.2.2.1)) 39 ((m_on RA RS RN v1 v2).2.2.2.2.2.2.2.1)) (va_up (va_up (va_up RS 26 ((m_on RA RS RN v1 v2).2.2.2.2.2.2.2.2.2.1)) 27 ((m_on RA RS RN v1 v2).2.2.2.2.2.2.2.2.2.2.1)) 38 ((m_on RA RS RN v1 v2).2.2.2.2.2.2.2.2.2.2.2)) (va_up RN 28 ((m_on RA RS RN v1 v2).2.2.2.2.2.2.2.2.1)) RL)) (kAA ad 24)) args s 0 0 (kAA ad 24)) (F0 m 84 ls [])) → W p l e ({ frames := 6, cells := 0, slots := 0, locals := 141 } : Room) s m args below meth c H locs 0 0 (MQ below (kQ (some (.int ((m_on RA RS RN v1 v2).1))) (kB (dC, dI) [(cI, .int)] (RWs cI ad (va_up (va_up (va_up (va_up (va_up (va_up (va_up RA 21 ((m_on RA RS RN v1 v2).2.1)) 22 ((m_on RA RS RN v1 v2).2.2.1)) 23 ((m_on RA RS RN v1 v2).2.2.2.1)) 24 ((m_on RA RS RN v1 v2).2.2.2.2.1)) 36 ((m_on RA RS RN v1 v2).2.2.2.2.2.1)) 37 ((m_on RA RS RN v1 v2).2.2.2.2.2.2.1)) 39 ((m_on RA RS RN v1 v2).2.2.2.2.2.2.2.1)) (va_up (va_up (va_up RS 26 ((m_on RA RS RN v1 v2).2.2.2.2.2.2.2.2.2.1)) 27 ((m_on RA RS RN v1 v2).2.2.2.2.2.2.2.2.2.2.1)) 38 ((m_on RA RS RN v1 v2).2.2.2.2.2.2.2.2.2.2.2)) (va_up RN 28 ((m_on RA RS RN v1 v2).2.2.2.2.2.2.2.2.1)) RL)) (kAA ad 24)) args s 0 0 (kAA ad 24)) (F0 m 60 ls []) := by
          intro n_60
          induction n_60 with
          | zero =>
            intro i_60 a24_60 hin_60 H locs ls hP hS hl  hk_60
            refine lv_iload_n hx hb dX8_on_60 rfl (lv_at hl 2 rfl) ?_
            refine lv_bipush (v := 24) hx hb dX8_on_61 (by decide) ?_
            refine lv_icmp_ge (tgt := 84) hx hb dX8_on_63 (by decide) (fun _ => ?_) (fun c_11 => absurd (kct_ge (N := 24) rfl (by omega) (by omega)) c_11)
            have hL_60 : (m_on_L60 r_8.2.1 0 i_60 a24_60) = a24_60 := by subst hr_8; subst hr_7; rw [m_on_L60.eq_1]
            try rw [hL_60] at hk_60
            exact hk_60 _ _ _ hP hS (lv_sub hl [0, 1] rfl) 
          | succ n_60 ih_60 =>
            intro i_60 a24_60 hin_60 H locs ls hP hS hl  hk_60
            refine lv_iload_n hx hb dX8_on_60 rfl (lv_at hl 2 rfl) ?_
            refine lv_bipush (v := 24) hx hb dX8_on_61 (by decide) ?_
            refine lv_icmp_ge (tgt := 84) hx hb dX8_on_63 (by decide) (fun c_12 => absurd c_12 (kct_lt (N := 24) rfl (by omega))) (fun _ => ?_)
            refine lv_aload_n hx hb dX8_on_66 rfl (lv_at hl 0 rfl) ?_
            refine m_get (v := .ref (ad 16)) hx hb hts hown hK hP 24 (by decide) rfl kX8_55 rfl dX8_on_67 ?_
            refine lv_iload_n hx hb dX8_on_70 rfl (lv_at hl 2 rfl) ?_
            refine lv_aload_n hx hb dX8_on_71 rfl (lv_at hl 0 rfl) ?_
            refine m_get (v := .ref (ad 21)) hx hb hts hown hK hP 37 (by decide) rfl kX8_70 rfl dX8_on_72 ?_
            refine lv_iload_n hx hb dX8_on_75 rfl (lv_at hl 2 rfl) ?_
            refine kn_iald (f := r_8.2.1) (v := (r_8.2.1 i_60)) hx hb hK hP 21 rfl i_60 rfl (by omega) (by omega) rfl dX8_on_76 ?_
            refine kn_iast (f := a24_60) (ws' := RWs cI ad (va_up (va_up (va_up (va_up (va_up RA 21 a21_34) 24 (upd a24_60 i_60 (r_8.2.1 i_60))) 36 r_8.1) 37 r_8.2.1) 39 r_8.2.2) (va_up RS 38 r_7.2.2.2) RN RL) hx hb hK hP (RWsD hI) hS 16 rfl i_60 rfl (by omega) (by omega) rfl dX8_on_77 (fun H locs hP hS => ?_)
            refine lv_iinc (v := (nI (i_60 + 1))) (lv' := [(3, .int (nI (i_60 + 1))), (0, .ref (ad 0)), (2, .int (nI v2.toNatClampNeg))]) hx hb dX8_on_78 hl (k := 2) rfl (nI_add _ _) (by decide) rfl (fun ls hl => ?_)
            refine lv_goto (tgt := 60) hx hb dX8_on_81 (by decide) ?_
            have hL_60 : (m_on_L60 r_8.2.1 (n_60 + 1) i_60 a24_60) = (m_on_L60 r_8.2.1 n_60 (i_60 + 1) (upd a24_60 i_60 (r_8.2.1 i_60))) := by subst hr_8; subst hr_7; rw [m_on_L60.eq_2]
            try rw [hL_60] at hk_60
            exact ih_60 (i_60 + 1) (upd a24_60 i_60 (r_8.2.1 i_60)) (by omega) _ _ _ hP hS (lv_sub hl [1, 2, 0] rfl)  hk_60
        have hP : va_P (dC, dI) vwCl (RWs cI ad (va_up (va_up (va_up (va_up (va_up RA 21 a21_34) 24 (RA 24)) 36 r_8.1) 37 r_8.2.1) 39 r_8.2.2) (va_up RS 38 r_7.2.2.2) RN RL) H := (RWs_conv rfl rfl rfl rfl rfl rfl rfl rfl rfl rfl rfl rfl rfl rfl rfl rfl rfl rfl rfl rfl rfl rfl rfl rfl rfl rfl rfl rfl rfl rfl rfl rfl rfl rfl rfl rfl rfl rfl rfl rfl rfl hP)
        exact loop_60 24 0 (RA 24) (by omega) _ _ _ hP hS (lv_sub hl [1, 2, 0] rfl)  (fun H locs ls hP hS hl  => rest_60 (m_on_L60 r_8.2.1 24 0 (RA 24)) _ _ _ hP hS hl  (by subst hr_8; subst hr_7; exact hF_34.trans (by rw [m_on_k34])))
      have loop_34 : ∀ (n_34 i_34 : Nat) (a21_34 : Nat → Int32), i_34 + n_34 = 16 → ∀ (H : Heap) (locs : List Loc) (ls : Array Slot), va_P (dC, dI) vwCl (RWs cI ad (va_up (va_up (va_up (va_up RA 21 a21_34) 36 r_8.1) 37 r_8.2.1) 39 r_8.2.2) (va_up RS 38 r_7.2.2.2) RN RL) H → va_S (kAA ad 24) s.heap H locs → lv_has ls 4 [(0, .ref (ad 0)), (2, .int (nI v2.toNatClampNeg)), (3, .int (nI i_34))] → (∀ (H : Heap) (locs : List Loc) (ls : Array Slot), va_P (dC, dI) vwCl (RWs cI ad (va_up (va_up (va_up (va_up RA 21 (m_on_L34 r_8.1 n_34 i_34 a21_34)) 36 r_8.1) 37 r_8.2.1) 39 r_8.2.2) (va_up RS 38 r_7.2.2.2) RN RL) H → va_S (kAA ad 24) s.heap H locs → lv_has ls 4 [(0, .ref (ad 0)), (2, .int (nI v2.toNatClampNeg))] → W p l e ({ frames := 6, cells := 0, slots := 0, locals := 141 } : Room) s m args below meth c H locs 0 0 (MQ below (kQ (some (.int ((m_on RA RS RN v1 v2).1))) (kB (dC, dI) [(cI, .int)] (RWs cI ad (va_up (va_up (va_up (va_up (va_up (va_up (va_up RA 21 ((m_on RA RS RN v1 v2).2.1)) 22 ((m_on RA RS RN v1 v2).2.2.1)) 23 ((m_on RA RS RN v1 v2).2.2.2.1)) 24 ((m_on RA RS RN v1 v2).2.2.2.2.1)) 36 ((m_on RA RS RN v1 v2).2.2.2.2.2.1)) 37 ((m_on RA RS RN v1 v2).2.2.2.2.2.2.1)) 39 ((m_on RA RS RN v1 v2).2.2.2.2.2.2.2.1)) (va_up (va_up (va_up RS 26 ((m_on RA RS RN v1 v2).2.2.2.2.2.2.2.2.2.1)) 27 ((m_on RA RS RN v1 v2).2.2.2.2.2.2.2.2.2.2.1)) 38 ((m_on RA RS RN v1 v2).2.2.2.2.2.2.2.2.2.2.2)) (va_up RN 28 ((m_on RA RS RN v1 v2).2.2.2.2.2.2.2.2.1)) RL)) (kAA ad 24)) args s 0 0 (kAA ad 24)) (F0 m 58 ls [])) → W p l e ({ frames := 6, cells := 0, slots := 0, locals := 141 } : Room) s m args below meth c H locs 0 0 (MQ below (kQ (some (.int ((m_on RA RS RN v1 v2).1))) (kB (dC, dI) [(cI, .int)] (RWs cI ad (va_up (va_up (va_up (va_up (va_up (va_up (va_up RA 21 ((m_on RA RS RN v1 v2).2.1)) 22 ((m_on RA RS RN v1 v2).2.2.1)) 23 ((m_on RA RS RN v1 v2).2.2.2.1)) 24 ((m_on RA RS RN v1 v2).2.2.2.2.1)) 36 ((m_on RA RS RN v1 v2).2.2.2.2.2.1)) 37 ((m_on RA RS RN v1 v2).2.2.2.2.2.2.1)) 39 ((m_on RA RS RN v1 v2).2.2.2.2.2.2.2.1)) (va_up (va_up (va_up RS 26 ((m_on RA RS RN v1 v2).2.2.2.2.2.2.2.2.2.1)) 27 ((m_on RA RS RN v1 v2).2.2.2.2.2.2.2.2.2.2.1)) 38 ((m_on RA RS RN v1 v2).2.2.2.2.2.2.2.2.2.2.2)) (va_up RN 28 ((m_on RA RS RN v1 v2).2.2.2.2.2.2.2.2.1)) RL)) (kAA ad 24)) args s 0 0 (kAA ad 24)) (F0 m 34 ls []) := by
        intro n_34
        induction n_34 with
        | zero =>
          intro i_34 a21_34 hin_34 H locs ls hP hS hl  hk_34
          refine lv_iload_n hx hb dX8_on_34 rfl (lv_at hl 2 rfl) ?_
          refine lv_bipush (v := 16) hx hb dX8_on_35 (by decide) ?_
          refine lv_icmp_ge (tgt := 58) hx hb dX8_on_37 (by decide) (fun _ => ?_) (fun c_13 => absurd (kct_ge (N := 16) rfl (by omega) (by omega)) c_13)
          have hL_34 : (m_on_L34 r_8.1 0 i_34 a21_34) = a21_34 := by subst hr_8; subst hr_7; rw [m_on_L34.eq_1]
          try rw [hL_34] at hk_34
          exact hk_34 _ _ _ hP hS (lv_sub hl [0, 1] rfl) 
        | succ n_34 ih_34 =>
          intro i_34 a21_34 hin_34 H locs ls hP hS hl  hk_34
          refine lv_iload_n hx hb dX8_on_34 rfl (lv_at hl 2 rfl) ?_
          refine lv_bipush (v := 16) hx hb dX8_on_35 (by decide) ?_
          refine lv_icmp_ge (tgt := 58) hx hb dX8_on_37 (by decide) (fun c_14 => absurd c_14 (kct_lt (N := 16) rfl (by omega))) (fun _ => ?_)
          refine lv_aload_n hx hb dX8_on_40 rfl (lv_at hl 0 rfl) ?_
          refine m_get (v := .ref (ad 13)) hx hb hts hown hK hP 21 (by decide) rfl kX8_46 rfl dX8_on_41 ?_
          refine lv_iload_n hx hb dX8_on_44 rfl (lv_at hl 2 rfl) ?_
          refine lv_aload_n hx hb dX8_on_45 rfl (lv_at hl 0 rfl) ?_
          refine m_get (v := .ref (ad 20)) hx hb hts hown hK hP 36 (by decide) rfl kX8_67 rfl dX8_on_46 ?_
          refine lv_iload_n hx hb dX8_on_49 rfl (lv_at hl 2 rfl) ?_
          refine kn_iald (f := r_8.1) (v := (r_8.1 i_34)) hx hb hK hP 20 rfl i_34 rfl (by omega) (by omega) rfl dX8_on_50 ?_
          refine kn_iast (f := a21_34) (ws' := RWs cI ad (va_up (va_up (va_up (va_up RA 21 (upd a21_34 i_34 (r_8.1 i_34))) 36 r_8.1) 37 r_8.2.1) 39 r_8.2.2) (va_up RS 38 r_7.2.2.2) RN RL) hx hb hK hP (RWsD hI) hS 13 rfl i_34 rfl (by omega) (by omega) rfl dX8_on_51 (fun H locs hP hS => ?_)
          refine lv_iinc (v := (nI (i_34 + 1))) (lv' := [(3, .int (nI (i_34 + 1))), (0, .ref (ad 0)), (2, .int (nI v2.toNatClampNeg))]) hx hb dX8_on_52 hl (k := 2) rfl (nI_add _ _) (by decide) rfl (fun ls hl => ?_)
          refine lv_goto (tgt := 34) hx hb dX8_on_55 (by decide) ?_
          have hL_34 : (m_on_L34 r_8.1 (n_34 + 1) i_34 a21_34) = (m_on_L34 r_8.1 n_34 (i_34 + 1) (upd a21_34 i_34 (r_8.1 i_34))) := by subst hr_8; subst hr_7; rw [m_on_L34.eq_2]
          try rw [hL_34] at hk_34
          exact ih_34 (i_34 + 1) (upd a21_34 i_34 (r_8.1 i_34)) (by omega) _ _ _ hP hS (lv_sub hl [1, 2, 0] rfl)  hk_34
      have hP : va_P (dC, dI) vwCl (RWs cI ad (va_up (va_up (va_up (va_up RA 21 (RA 21)) 36 r_8.1) 37 r_8.2.1) 39 r_8.2.2) (va_up RS 38 r_7.2.2.2) RN RL) H := (RWs_conv rfl rfl rfl rfl rfl rfl rfl rfl rfl rfl rfl rfl rfl rfl rfl rfl rfl rfl rfl rfl rfl rfl rfl rfl rfl rfl rfl rfl rfl rfl rfl rfl rfl rfl rfl rfl rfl rfl rfl rfl rfl hP)
      exact loop_34 16 0 (RA 21) (by omega) _ _ _ hP hS (lv_sub hl [1, 3, 0] rfl)  (fun H locs ls hP hS hl  => rest_34 (m_on_L34 r_8.1 16 0 (RA 21)) _ _ _ hP hS hl  (by subst hr_8; subst hr_7; rw [m_on, if_neg c_5, if_neg c_6]))
    · refine lv_iconst (v := (-1)) hx hb dX8_on_14 (by decide) ?_
      have hE : (m_on RA RS RN v1 v2) = ((-1), (RA 21), (RA 22), (RA 23), (RA 24), (RA 36), (RA 37), (RA 39), (RN 28), (RS 26), (RS 27), (RS 38)) := by rw [m_on, if_neg c_5, if_pos c_6]
      exact W.iret (v := (-1)) hx hb hr (fun t ht hW => ⟨by rw [hE], by rw [hE]; exact kB.of (ws := RWs cI ad (va_up (va_up (va_up (va_up (va_up (va_up (va_up RA 21 (RA 21)) 22 (RA 22)) 23 (RA 23)) 24 (RA 24)) 36 (RA 36)) 37 (RA 37)) 39 (RA 39)) (va_up (va_up (va_up RS 26 (RS 26)) 27 (RS 27)) 38 (RS 38)) (va_up RN 28 (RN 28)) RL) (RWs_conv rfl rfl rfl rfl rfl rfl rfl rfl rfl rfl rfl rfl rfl rfl rfl rfl rfl rfl rfl rfl rfl rfl rfl rfl rfl rfl rfl rfl rfl rfl rfl rfl rfl rfl rfl rfl rfl rfl rfl rfl rfl hP) hK hN ht hW, hS.F ht⟩) hS.2.2 dX8_on_15 hlocks
-- X8_sky
def m_sky (RA : Nat → Nat → Int32) (RN : Nat → Nat) (v1 : Int32) : Int32 × (Nat → Int32) × Nat := if (m_isSky v1) = 0 then ((-1), (RA 31), (RN 32)) else (if (nI (RN 32)) = 12 then ((-3), (RA 31), (RN 32)) else ((nI ((RN 32) + 1)), (upd (RA 31) (RN 32) (nI v1.toNatClampNeg)), (RN 32) + 1))
set_option maxHeartbeats 4000000 in
set_option maxRecDepth 100000 in
theorem c_m_sky (hI : kInj ad 24) (v1 : Int32) (hM : mI RA RS RN) : Met l yX8_sky (.code yX8_sky cX8_sky 2 (some .int) :: kT) ({ frames := 2, cells := 0, slots := 0, locals := 45 } : Room) (va_Pc [.ref (ad 0), .int v1] (kB (dC, dI) [(cI, .int)] (RWs cI ad RA RS RN RL))) (kQ (some (.int ((m_sky RA RN v1).1))) (kB (dC, dI) [(cI, .int)] (RWs cI ad (va_up RA 31 ((m_sky RA RN v1).2.1)) RS (va_up RN 32 ((m_sky RA RN v1).2.2)) RL)) (kAA ad 24)) 0 0 (kAA ad 24) := by
  refine kMet (by decide) (fun p e s m args below meth c ls hx hb hr hml hts hown hlocks hname hargs hB hl => ?_) (Nat.le_of_ble_eq_true rfl)
  obtain ⟨hP, hK, hN⟩ := hB
  have hl : lv_has ls 2 [(0, .ref (ad 0)), (1, .int v1)] := hl
  have hS : va_S (kAA ad 24) s.heap s.heap [] := va_S.rf
  refine lv_iload_n hx hb dX8_sky_0 rfl (lv_at hl 1 rfl) ?_
  refine k_rS (v := .int (m_isSky v1)) (As := [.int v1]) (rest := []) hx hb hml hown hts hl.1 (B := fun _ => True) (fun _ _ _ _ q => q) (fun _ _ _ => trivial) (c_m_isSky v1) eX8_265 rfl rfl (Nat.le_of_ble_eq_true rfl) ⟨Nat.le_of_ble_eq_true rfl, Nat.le_of_ble_eq_true rfl⟩ ⟨rfl, rfl⟩ ⟨Nat.le_of_ble_eq_true rfl, Nat.le_of_ble_eq_true rfl⟩ dX8_sky_1 ?_
  refine lv_if_ne (tgt := 9) hx hb dX8_sky_4 (by decide) (fun c_3 => ?_) (fun c_3 => ?_)
  · have hk1 := m_isSky_t c_3
    have hnat1 : v1 = (nI v1.toNatClampNeg) := kNat hk1.1
    have hl : lv_has ls 2 [(0, .ref (ad 0)), (1, .int (nI v1.toNatClampNeg))] := by rw [← hnat1]; exact hl
    have hk1b : v1.toNatClampNeg < 3 := kNat_lt hk1.2 (by omega)
    refine lv_aload_n hx hb dX8_sky_9 rfl (lv_at hl 0 rfl) ?_
    refine m_get (v := .int (nI (RN 32))) hx hb hts hown hK hP 32 (by decide) rfl kX8_174 rfl dX8_sky_10 ?_
    refine lv_bipush (v := 12) hx hb dX8_sky_13 (by decide) ?_
    refine lv_icmp_ne (tgt := 21) hx hb dX8_sky_15 (by decide) (fun c_4 => ?_) (fun c_4 => ?_)
    · have h12r : RN 32 < 12 := by have := knI_ne (a := RN 32) (b := 12) (by assumption); have := mI_rowMany hM; omega
      refine lv_aload_n hx hb dX8_sky_21 rfl (lv_at hl 0 rfl) ?_
      refine m_get (v := .ref (ad 18)) hx hb hts hown hK hP 31 (by decide) rfl kX8_61 rfl dX8_sky_22 ?_
      refine lv_aload_n hx hb dX8_sky_25 rfl (lv_at hl 0 rfl) ?_
      refine m_get (v := .int (nI (RN 32))) hx hb hts hown hK hP 32 (by decide) rfl kX8_174 rfl dX8_sky_26 ?_
      refine lv_iload_n hx hb dX8_sky_29 rfl (lv_at hl 1 rfl) ?_
      refine kn_iast (f := (RA 31)) (ws' := RWs cI ad (va_up RA 31 (upd (RA 31) (RN 32) (nI v1.toNatClampNeg))) RS RN RL) hx hb hK hP (RWsD hI) hS 18 rfl (RN 32) rfl (by omega) (by omega) rfl dX8_sky_30 (fun H locs hP hS => ?_)
      refine lv_aload_n hx hb dX8_sky_31 rfl (lv_at hl 0 rfl) ?_
      refine lv_dup hx hb dX8_sky_32 rfl ?_
      refine m_get (v := .int (nI (RN 32))) hx hb hts hown hK hP 32 (by decide) rfl kX8_174 rfl dX8_sky_33 ?_
      refine lv_iconst (v := 1) hx hb dX8_sky_36 (by decide) ?_
      refine kn_iadd hx hb (RN 32) 1 rfl rfl dX8_sky_37 ?_
      refine m_put (RS' := RS) (RN' := (va_up RN 32 ((RN 32) + 1))) (RL' := RL) (ty := .int) hx hb hts hown hI hK hP hS 32 (by decide) rfl kX8_174 rfl (by decide +kernel) rfl rfl rfl dX8_sky_38 (fun H locs hP hS => ?_)
      refine lv_aload_n hx hb dX8_sky_41 rfl (lv_at hl 0 rfl) ?_
      refine m_get (v := .int (nI ((RN 32) + 1))) hx hb hts hown hK hP 32 (by decide) rfl kX8_174 rfl dX8_sky_42 ?_
      have hE : (m_sky RA RN v1) = ((nI ((RN 32) + 1)), (upd (RA 31) (RN 32) (nI v1.toNatClampNeg)), (RN 32) + 1) := by rw [m_sky, if_neg c_3, if_neg c_4]
      exact W.iret (v := (nI ((RN 32) + 1))) hx hb hr (fun t ht hW => ⟨by rw [hE], by rw [hE]; exact kB.of (ws := RWs cI ad (va_up RA 31 (upd (RA 31) (RN 32) (nI v1.toNatClampNeg))) RS (va_up RN 32 ((RN 32) + 1)) RL) hP hK hN ht hW, hS.F ht⟩) hS.2.2 dX8_sky_45 hlocks
    · refine lv_bipush (v := (-3)) hx hb dX8_sky_18 (by decide) ?_
      have hE : (m_sky RA RN v1) = ((-3), (RA 31), (RN 32)) := by rw [m_sky, if_neg c_3, if_pos c_4]
      exact W.iret (v := (-3)) hx hb hr (fun t ht hW => ⟨by rw [hE], by rw [hE]; exact kB.of (ws := RWs cI ad (va_up RA 31 (RA 31)) RS (va_up RN 32 (RN 32)) RL) (RWs_conv rfl rfl rfl rfl rfl rfl rfl rfl rfl rfl rfl rfl rfl rfl rfl rfl rfl rfl rfl rfl rfl rfl rfl rfl rfl rfl rfl rfl rfl rfl rfl rfl rfl rfl rfl rfl rfl rfl rfl rfl rfl hP) hK hN ht hW, hS.F ht⟩) hS.2.2 dX8_sky_20 hlocks
  · refine lv_iconst (v := (-1)) hx hb dX8_sky_7 (by decide) ?_
    have hE : (m_sky RA RN v1) = ((-1), (RA 31), (RN 32)) := by rw [m_sky, if_pos c_3]
    exact W.iret (v := (-1)) hx hb hr (fun t ht hW => ⟨by rw [hE], by rw [hE]; exact kB.of (ws := RWs cI ad (va_up RA 31 (RA 31)) RS (va_up RN 32 (RN 32)) RL) (RWs_conv rfl rfl rfl rfl rfl rfl rfl rfl rfl rfl rfl rfl rfl rfl rfl rfl rfl rfl rfl rfl rfl rfl rfl rfl rfl rfl rfl rfl rfl rfl rfl rfl rfl rfl rfl rfl rfl rfl rfl rfl rfl hP) hK hN ht hW, hS.F ht⟩) hS.2.2 dX8_sky_8 hlocks
-- X8_noSkies
def m_noSkies (RN : Nat → Nat) : Int32 × Nat := ((nI (RN 32)), 0)
set_option maxHeartbeats 4000000 in
set_option maxRecDepth 100000 in
theorem c_m_noSkies (hI : kInj ad 24)  : Met l yX8_noSkies (.code yX8_noSkies cX8_noSkies 2 (some .int) :: kT) ({ frames := 0, cells := 0, slots := 0, locals := 0 } : Room) (va_Pc [.ref (ad 0)] (kB (dC, dI) [(cI, .int)] (RWs cI ad RA RS RN RL))) (kQ (some (.int ((m_noSkies RN).1))) (kB (dC, dI) [(cI, .int)] (RWs cI ad RA RS (va_up RN 32 ((m_noSkies RN).2)) RL)) (kAA ad 24)) 0 0 (kAA ad 24) := by
  refine kMet (by decide) (fun p e s m args below meth c ls hx hb hr hml hts hown hlocks hname hargs hB hl => ?_) (Nat.le_of_ble_eq_true rfl)
  obtain ⟨hP, hK, hN⟩ := hB
  have hl : lv_has ls 2 [(0, .ref (ad 0))] := hl
  have hS : va_S (kAA ad 24) s.heap s.heap [] := va_S.rf
  refine lv_aload_n hx hb dX8_noSkies_0 rfl (lv_at hl 0 rfl) ?_
  refine m_get (v := .int (nI (RN 32))) hx hb hts hown hK hP 32 (by decide) rfl kX8_174 rfl dX8_noSkies_1 ?_
  refine lv_istore_n (lv' := [(1, .int (nI (RN 32))), (0, .ref (ad 0))]) hx hb dX8_noSkies_4 rfl hl (by decide) rfl (fun ls hl => ?_)
  refine lv_aload_n hx hb dX8_noSkies_5 rfl (lv_at hl 1 rfl) ?_
  refine lv_iconst (v := 0) hx hb dX8_noSkies_6 (by decide) ?_
  refine m_put (RS' := RS) (RN' := (va_up RN 32 0)) (RL' := RL) (ty := .int) hx hb hts hown hI hK hP hS 32 (by decide) rfl kX8_174 rfl (by decide +kernel) rfl rfl rfl dX8_noSkies_7 (fun H locs hP hS => ?_)
  refine lv_iload_n hx hb dX8_noSkies_10 rfl (lv_at hl 0 rfl) ?_
  have hE : (m_noSkies RN) = ((nI (RN 32)), 0) := by rw [m_noSkies]
  exact W.iret (v := (nI (RN 32))) hx hb hr (fun t ht hW => ⟨by rw [hE], by rw [hE]; exact kB.of (ws := RWs cI ad RA RS (va_up RN 32 0) RL) hP hK hN ht hW, hS.F ht⟩) hS.2.2 dX8_noSkies_11 hlocks
-- X8_lost
def m_lost_k4 (v1 : Int64) : Int64 := v1
def m_lost_L4 (RA : Nat → Nat → Int32) (RS : Nat → Int32) : Nat → Nat → Int64 → Int64
  | 0, i, v1 => v1
  | n + 1, i, v1 => if (m_has (RS 26) (nI i)) = 0 then m_lost_L4 RA RS n (i + 1) v1 else m_lost_L4 RA RS n (i + 1) (v1 + ((((((RA 7 i) + ((RS 20) * (RA 9 i))).toInt64) * 1000000) * ((m_below RA i (RA 39 i)).toInt64)) / ((m_chances RA i).toInt64)))
def m_lost (RA : Nat → Nat → Int32) (RS : Nat → Int32) (RN : Nat → Nat) : Int64 := m_lost_k4 (m_lost_L4 RA RS (RN 4) 0 0)
set_option maxHeartbeats 4000000 in
set_option maxRecDepth 100000 in
theorem c_m_lost (hI : kInj ad 24) (hM : mI RA RS RN) (hC : mC RA RS RN) : Met l yX8_lost (.code yX8_lost cX8_lost 6 (some .long) :: kT) ({ frames := 3, cells := 0, slots := 0, locals := 66 } : Room) (va_Pc [.ref (ad 0)] (kB (dC, dI) [(cI, .int)] (RWs cI ad RA RS RN RL))) (kR (some (.long (m_lost RA RS RN)))) 0 0 (fun _ => False) := by
  refine kMet (by decide) (fun p e s m args below meth c ls hx hb hr hml hts hown hlocks hname hargs hB hl => ?_) (Nat.le_of_ble_eq_true rfl)
  obtain ⟨hP, hK, hN⟩ := hB
  have hl : lv_has ls 6 [(0, .ref (ad 0))] := hl
  have h4 : RN 4 ≤ 8 := mI_many hM
  refine lv_lconst (v := 0) hx hb dX8_lost_0 (by decide) ?_
  refine lv_lstore_n (lv' := [(1, .long 0), (0, .ref (ad 0))]) hx hb dX8_lost_1 rfl hl (by decide) rfl (fun ls hl => ?_)
  refine lv_iconst (v := 0) hx hb dX8_lost_2 (by decide) ?_
  refine lv_istore_n (lv' := [(3, .int 0), (1, .long 0), (0, .ref (ad 0))]) hx hb dX8_lost_3 rfl hl (by decide) rfl (fun ls hl => ?_)
  have rest_4 : ∀ (x1_4 : Int64), ∀ (ls : Array Slot), lv_has ls 6 [(1, .long x1_4)] → (m_lost RA RS RN) = m_lost_k4 x1_4 → W p l e ({ frames := 3, cells := 0, slots := 0, locals := 66 } : Room) s m args below meth c s.heap [] 0 0 (MQ below (kR (some (.long (m_lost RA RS RN)))) args s 0 0 (fun _ => False)) (F0 m 79 ls []) := by
    intro x1_4 ls hl  hF_4
    refine lv_lload_n hx hb dX8_lost_79 rfl (lv_at hl 0 rfl) ?_
    have hE : (m_lost RA RS RN) = x1_4 := hF_4.trans (by rw [m_lost_k4])
    exact W.lret (v := x1_4) hx hb hr (fun t ht hW => ⟨by rw [hE], ht⟩) (fun _ h => absurd h List.not_mem_nil) dX8_lost_80 hlocks
  have loop_4 : ∀ (n_4 i_4 : Nat) (x1_4 : Int64), i_4 + n_4 = (RN 4) → ∀ (ls : Array Slot), lv_has ls 6 [(0, .ref (ad 0)), (1, .long x1_4), (3, .int (nI i_4))] → (∀ (ls : Array Slot), lv_has ls 6 [(1, .long (m_lost_L4 RA RS n_4 i_4 x1_4))] → W p l e ({ frames := 3, cells := 0, slots := 0, locals := 66 } : Room) s m args below meth c s.heap [] 0 0 (MQ below (kR (some (.long (m_lost RA RS RN)))) args s 0 0 (fun _ => False)) (F0 m 79 ls [])) → W p l e ({ frames := 3, cells := 0, slots := 0, locals := 66 } : Room) s m args below meth c s.heap [] 0 0 (MQ below (kR (some (.long (m_lost RA RS RN)))) args s 0 0 (fun _ => False)) (F0 m 4 ls []) := by
    intro n_4
    induction n_4 with
    | zero =>
      intro i_4 x1_4 hin_4 ls hl  hk_4
      refine lv_iload_n hx hb dX8_lost_4 rfl (lv_at hl 2 rfl) ?_
      refine lv_aload_n hx hb dX8_lost_5 rfl (lv_at hl 0 rfl) ?_
      refine m_get (v := .int (nI (RN 4))) hx hb hts hown hK hP 4 (by decide) rfl kX8_82 rfl dX8_lost_6 ?_
      refine lv_icmp_ge (tgt := 79) hx hb dX8_lost_9 (by decide) (fun _ => ?_) (fun c_3 => absurd (kct_ge (N := (RN 4)) (nI_clamp (by omega)) (by omega) (by omega)) c_3)
      have hL_4 : (m_lost_L4 RA RS 0 i_4 x1_4) = x1_4 := by rw [m_lost_L4.eq_1]
      try rw [hL_4] at hk_4
      exact hk_4 _ (lv_sub hl [1] rfl) 
    | succ n_4 ih_4 =>
      intro i_4 x1_4 hin_4 ls hl  hk_4
      refine lv_iload_n hx hb dX8_lost_4 rfl (lv_at hl 2 rfl) ?_
      refine lv_aload_n hx hb dX8_lost_5 rfl (lv_at hl 0 rfl) ?_
      refine m_get (v := .int (nI (RN 4))) hx hb hts hown hK hP 4 (by decide) rfl kX8_82 rfl dX8_lost_6 ?_
      refine lv_icmp_ge (tgt := 79) hx hb dX8_lost_9 (by decide) (fun c_4 => absurd c_4 (kct_lt (N := (RN 4)) (nI_clamp (by omega)) (by omega))) (fun _ => ?_)
      refine lv_aload_n hx hb dX8_lost_12 rfl (lv_at hl 0 rfl) ?_
      refine m_get (v := .int (RS 26)) hx hb hts hown hK hP 26 (by decide) rfl kX8_163 rfl dX8_lost_13 ?_
      refine lv_iload_n hx hb dX8_lost_16 rfl (lv_at hl 2 rfl) ?_
      refine k_rS (v := .int (m_has (RS 26) (nI i_4))) (As := [.int (RS 26), .int (nI i_4)]) (rest := []) hx hb hml hown hts hl.1 (B := fun _ => True) (fun _ _ _ _ q => q) (fun _ _ _ => trivial) (c_m_has (RS 26) (nI i_4)) eX8_204 rfl rfl (Nat.le_of_ble_eq_true rfl) ⟨Nat.le_of_ble_eq_true rfl, Nat.le_of_ble_eq_true rfl⟩ ⟨rfl, rfl⟩ ⟨Nat.le_of_ble_eq_true rfl, Nat.le_of_ble_eq_true rfl⟩ dX8_lost_17 ?_
      refine lv_if_eq (tgt := 73) hx hb dX8_lost_20 (by decide) (fun c_5 => ?_) (fun c_5 => ?_)
      · refine lv_iinc (v := (nI (i_4 + 1))) (lv' := [(3, .int (nI (i_4 + 1))), (0, .ref (ad 0)), (1, .long x1_4)]) hx hb dX8_lost_73 hl (k := 2) rfl (nI_add _ _) (by decide) rfl (fun ls hl => ?_)
        refine lv_goto (tgt := 4) hx hb dX8_lost_76 (by decide) ?_
        have hL_4 : (m_lost_L4 RA RS (n_4 + 1) i_4 x1_4) = (m_lost_L4 RA RS n_4 (i_4 + 1) x1_4) := by rw [m_lost_L4.eq_2, if_pos c_5]
        try rw [hL_4] at hk_4
        exact ih_4 (i_4 + 1) x1_4 (by omega) _ (lv_sub hl [1, 2, 0] rfl)  hk_4
      · refine lv_aload_n hx hb dX8_lost_23 rfl (lv_at hl 0 rfl) ?_
        refine m_get (v := .ref (ad 5)) hx hb hts hown hK hP 7 (by decide) rfl kX8_22 rfl dX8_lost_24 ?_
        refine lv_iload_n hx hb dX8_lost_27 rfl (lv_at hl 2 rfl) ?_
        refine kn_iald (f := (RA 7)) (v := (RA 7 i_4)) hx hb hK hP 5 rfl i_4 rfl (by omega) (by omega) rfl dX8_lost_28 ?_
        refine lv_aload_n hx hb dX8_lost_29 rfl (lv_at hl 0 rfl) ?_
        refine m_get (v := .int (RS 20)) hx hb hts hown hK hP 20 (by decide) rfl kX8_157 rfl dX8_lost_30 ?_
        refine lv_aload_n hx hb dX8_lost_33 rfl (lv_at hl 0 rfl) ?_
        refine m_get (v := .ref (ad 7)) hx hb hts hown hK hP 9 (by decide) rfl kX8_28 rfl dX8_lost_34 ?_
        refine lv_iload_n hx hb dX8_lost_37 rfl (lv_at hl 2 rfl) ?_
        refine kn_iald (f := (RA 9)) (v := (RA 9 i_4)) hx hb hK hP 7 rfl i_4 rfl (by omega) (by omega) rfl dX8_lost_38 ?_
        refine lv_imul hx hb dX8_lost_39 ?_
        refine lv_iadd hx hb dX8_lost_40 ?_
        refine lv_i2l (v := (((RA 7 i_4) + ((RS 20) * (RA 9 i_4))).toInt64)) hx hb dX8_lost_41 rfl ?_
        refine lv_lstore (lv' := [(4, .long (((RA 7 i_4) + ((RS 20) * (RA 9 i_4))).toInt64)), (0, .ref (ad 0)), (1, .long x1_4), (3, .int (nI i_4))]) hx hb dX8_lost_42 hl (by decide) rfl (fun ls hl => ?_)
        refine lv_lload_n hx hb dX8_lost_44 rfl (lv_at hl 2 rfl) ?_
        refine lv_lload hx hb dX8_lost_45 (lv_at hl 0 rfl) ?_
        refine lv_ldc2 (v := 1000000) hx hb hown (hts _ kX8_272) dX8_lost_47 ?_
        refine lv_lmul hx hb dX8_lost_50 ?_
        refine lv_aload_n hx hb dX8_lost_51 rfl (lv_at hl 1 rfl) ?_
        refine lv_iload_n hx hb dX8_lost_52 rfl (lv_at hl 3 rfl) ?_
        refine lv_aload_n hx hb dX8_lost_53 rfl (lv_at hl 1 rfl) ?_
        refine m_get (v := .ref (ad 22)) hx hb hts hown hK hP 39 (by decide) rfl kX8_73 rfl dX8_lost_54 ?_
        refine lv_iload_n hx hb dX8_lost_57 rfl (lv_at hl 3 rfl) ?_
        refine kn_iald (f := (RA 39)) (v := (RA 39 i_4)) hx hb hK hP 22 rfl i_4 rfl (by omega) (by omega) rfl dX8_lost_58 ?_
        refine k_rV (v := .int (m_below RA i_4 (RA 39 i_4))) (As := [.int (nI i_4), .int (RA 39 i_4)]) (rest := [.long ((((RA 7 i_4) + ((RS 20) * (RA 9 i_4))).toInt64) * 1000000), .long x1_4]) hx hb hml hown hts hl.1 hP hK hN (c_m_below hI i_4 (RA 39 i_4) hM (by omega)) eX8_209 (ci := 7) (q0 := 0) rfl rfl rfl rfl rfl (Nat.le_of_ble_eq_true rfl) ⟨Nat.le_of_ble_eq_true rfl, Nat.le_of_ble_eq_true rfl⟩ ⟨rfl, rfl⟩ ⟨Nat.le_of_ble_eq_true rfl, Nat.le_of_ble_eq_true rfl⟩ dX8_lost_59 ?_
        refine lv_i2l (v := ((m_below RA i_4 (RA 39 i_4)).toInt64)) hx hb dX8_lost_62 rfl ?_
        refine lv_lmul hx hb dX8_lost_63 ?_
        refine lv_aload_n hx hb dX8_lost_64 rfl (lv_at hl 1 rfl) ?_
        refine lv_iload_n hx hb dX8_lost_65 rfl (lv_at hl 3 rfl) ?_
        refine k_rV (v := .int (m_chances RA i_4)) (As := [.int (nI i_4)]) (rest := [.long (((((RA 7 i_4) + ((RS 20) * (RA 9 i_4))).toInt64) * 1000000) * ((m_below RA i_4 (RA 39 i_4)).toInt64)), .long x1_4]) hx hb hml hown hts hl.1 hP hK hN (c_m_chances hI i_4 hM (by omega)) eX8_218 (ci := 7) (q0 := 0) rfl rfl rfl rfl rfl (Nat.le_of_ble_eq_true rfl) ⟨Nat.le_of_ble_eq_true rfl, Nat.le_of_ble_eq_true rfl⟩ ⟨rfl, rfl⟩ ⟨Nat.le_of_ble_eq_true rfl, Nat.le_of_ble_eq_true rfl⟩ dX8_lost_66 ?_
        refine lv_i2l (v := ((m_chances RA i_4).toInt64)) hx hb dX8_lost_69 rfl ?_
        refine lv_ldiv hx hb dX8_lost_70 (ki2l_ne (hC i_4 (by omega) (by assumption))) ?_
        refine lv_ladd hx hb dX8_lost_71 ?_
        refine lv_lstore_n (lv' := [(1, .long (x1_4 + ((((((RA 7 i_4) + ((RS 20) * (RA 9 i_4))).toInt64) * 1000000) * ((m_below RA i_4 (RA 39 i_4)).toInt64)) / ((m_chances RA i_4).toInt64)))), (4, .long (((RA 7 i_4) + ((RS 20) * (RA 9 i_4))).toInt64)), (0, .ref (ad 0)), (3, .int (nI i_4))]) hx hb dX8_lost_72 rfl hl (by decide) rfl (fun ls hl => ?_)
        refine lv_iinc (v := (nI (i_4 + 1))) (lv' := [(3, .int (nI (i_4 + 1))), (1, .long (x1_4 + ((((((RA 7 i_4) + ((RS 20) * (RA 9 i_4))).toInt64) * 1000000) * ((m_below RA i_4 (RA 39 i_4)).toInt64)) / ((m_chances RA i_4).toInt64)))), (4, .long (((RA 7 i_4) + ((RS 20) * (RA 9 i_4))).toInt64)), (0, .ref (ad 0))]) hx hb dX8_lost_73 hl (k := 3) rfl (nI_add _ _) (by decide) rfl (fun ls hl => ?_)
        refine lv_goto (tgt := 4) hx hb dX8_lost_76 (by decide) ?_
        have hL_4 : (m_lost_L4 RA RS (n_4 + 1) i_4 x1_4) = (m_lost_L4 RA RS n_4 (i_4 + 1) (x1_4 + ((((((RA 7 i_4) + ((RS 20) * (RA 9 i_4))).toInt64) * 1000000) * ((m_below RA i_4 (RA 39 i_4)).toInt64)) / ((m_chances RA i_4).toInt64)))) := by rw [m_lost_L4.eq_2, if_neg c_5]
        try rw [hL_4] at hk_4
        exact ih_4 (i_4 + 1) (x1_4 + ((((((RA 7 i_4) + ((RS 20) * (RA 9 i_4))).toInt64) * 1000000) * ((m_below RA i_4 (RA 39 i_4)).toInt64)) / ((m_chances RA i_4).toInt64))) (by omega) _ (lv_sub hl [3, 1, 0] rfl)  hk_4
  exact loop_4 (RN 4) 0 0 (by omega) _ (lv_sub hl [2, 1, 0] rfl)  (fun ls hl  => rest_4 (m_lost_L4 RA RS (RN 4) 0 0) _ hl  (by rw [m_lost]))
-- X8_lossBy
def m_lossBy_k3 (RA : Nat → Nat → Int32) (RS : Nat → Int32) (RN : Nat → Nat) (a36 : Nat → Int32) (a37 : Nat → Int32) (a39 : Nat → Int32) : Int64 × (Nat → Int32) × (Nat → Int32) × (Nat → Int32) := ((m_lost (va_up (va_up (va_up RA 36 a36) 37 a37) 39 a39) RS RN), a36, a37, a39)
def m_lossBy_L3 (RA : Nat → Nat → Int32) (RS : Nat → Int32) (RN : Nat → Nat) (v1 : Int32) (v2 : Int32) (v3 : Int32) (v4 : Int32) : Nat → Nat → (Nat → Int32) → (Nat → Int32) → (Nat → Int32) → (Nat → Int32) × (Nat → Int32) × (Nat → Int32)
  | 0, i, a36, a37, a39 => (a36, a37, a39)
  | n + 1, i, a36, a37, a39 => if (nI i) = 0 then m_lossBy_L3 RA RS RN v1 v2 v3 v4 n (i + 1) ((m_goHour (va_up (va_up (va_up RA 36 a36) 37 a37) 39 a39) RS RN v1 ((RA 31 i).toNatClampNeg) v2 v4).1) ((m_goHour (va_up (va_up (va_up RA 36 a36) 37 a37) 39 a39) RS RN v1 ((RA 31 i).toNatClampNeg) v2 v4).2.1) ((m_goHour (va_up (va_up (va_up RA 36 a36) 37 a37) 39 a39) RS RN v1 ((RA 31 i).toNatClampNeg) v2 v4).2.2) else m_lossBy_L3 RA RS RN v1 v2 v3 v4 n (i + 1) ((m_goHour (va_up (va_up (va_up RA 36 a36) 37 a37) 39 a39) RS RN v1 ((RA 31 i).toNatClampNeg) v3 (-4)).1) ((m_goHour (va_up (va_up (va_up RA 36 a36) 37 a37) 39 a39) RS RN v1 ((RA 31 i).toNatClampNeg) v3 (-4)).2.1) ((m_goHour (va_up (va_up (va_up RA 36 a36) 37 a37) 39 a39) RS RN v1 ((RA 31 i).toNatClampNeg) v3 (-4)).2.2)
def m_lossBy (RA : Nat → Nat → Int32) (RS : Nat → Int32) (RN : Nat → Nat) (v1 : Int32) (v2 : Int32) (v3 : Int32) (v4 : Int32) : Int64 × (Nat → Int32) × (Nat → Int32) × (Nat → Int32) := m_lossBy_k3 RA RS RN (m_lossBy_L3 RA RS RN v1 v2 v3 v4 (RN 32) 0 (RA 36) (RA 37) (RA 39)).1 (m_lossBy_L3 RA RS RN v1 v2 v3 v4 (RN 32) 0 (RA 36) (RA 37) (RA 39)).2.1 (m_lossBy_L3 RA RS RN v1 v2 v3 v4 (RN 32) 0 (RA 36) (RA 37) (RA 39)).2.2
set_option maxHeartbeats 4000000 in
set_option maxRecDepth 100000 in
theorem c_m_lossBy (hI : kInj ad 24) (v1 : Int32) (v2 : Int32) (v3 : Int32) (v4 : Int32) (hM : mI RA RS RN) (hC : mC RA RS RN) (hside : v4.toInt ≤ 16) : Met l yX8_lossBy (.code yX8_lossBy cX8_lossBy 6 (some .long) :: kT) ({ frames := 6, cells := 0, slots := 0, locals := 141 } : Room) (va_Pc [.ref (ad 0), .int v1, .int v2, .int v3, .int v4] (kB (dC, dI) [(cI, .int)] (RWs cI ad RA RS RN RL))) (kQ (some (.long ((m_lossBy RA RS RN v1 v2 v3 v4).1))) (kB (dC, dI) [(cI, .int)] (RWs cI ad (va_up (va_up (va_up RA 36 ((m_lossBy RA RS RN v1 v2 v3 v4).2.1)) 37 ((m_lossBy RA RS RN v1 v2 v3 v4).2.2.1)) 39 ((m_lossBy RA RS RN v1 v2 v3 v4).2.2.2)) RS RN RL)) (kAA ad 24)) 0 0 (kAA ad 24) := by
  refine kMet (by decide) (fun p e s m args below meth c ls hx hb hr hml hts hown hlocks hname hargs hB hl => ?_) (Nat.le_of_ble_eq_true rfl)
  obtain ⟨hP, hK, hN⟩ := hB
  have hl : lv_has ls 6 [(0, .ref (ad 0)), (1, .int v1), (2, .int v2), (3, .int v3), (4, .int v4)] := hl
  have hS : va_S (kAA ad 24) s.heap s.heap [] := va_S.rf
  have h32 := mI_rowMany hM
  refine lv_iconst (v := 0) hx hb dX8_lossBy_0 (by decide) ?_
  refine lv_istore (lv' := [(5, .int 0), (0, .ref (ad 0)), (1, .int v1), (2, .int v2), (3, .int v3), (4, .int v4)]) hx hb dX8_lossBy_1 hl (by decide) rfl (fun ls hl => ?_)
  have rest_3 : ∀ (a36_3 : Nat → Int32) (a37_3 : Nat → Int32) (a39_3 : Nat → Int32), ∀ (H : Heap) (locs : List Loc) (ls : Array Slot), va_P (dC, dI) vwCl (RWs cI ad (va_up (va_up (va_up RA 36 a36_3) 37 a37_3) 39 a39_3) RS RN RL) H → va_S (kAA ad 24) s.heap H locs → lv_has ls 6 [(0, .ref (ad 0))] → (m_lossBy RA RS RN v1 v2 v3 v4) = m_lossBy_k3 RA RS RN a36_3 a37_3 a39_3 → W p l e ({ frames := 6, cells := 0, slots := 0, locals := 141 } : Room) s m args below meth c H locs 0 0 (MQ below (kQ (some (.long ((m_lossBy RA RS RN v1 v2 v3 v4).1))) (kB (dC, dI) [(cI, .int)] (RWs cI ad (va_up (va_up (va_up RA 36 ((m_lossBy RA RS RN v1 v2 v3 v4).2.1)) 37 ((m_lossBy RA RS RN v1 v2 v3 v4).2.2.1)) 39 ((m_lossBy RA RS RN v1 v2 v3 v4).2.2.2)) RS RN RL)) (kAA ad 24)) args s 0 0 (kAA ad 24)) (F0 m 52 ls []) := by
    intro a36_3 a37_3 a39_3 H locs ls hP hS hl  hF_3
    refine lv_aload_n hx hb dX8_lossBy_52 rfl (lv_at hl 0 rfl) ?_
    refine k_rV (v := .long (m_lost (va_up (va_up (va_up RA 36 a36_3) 37 a37_3) 39 a39_3) RS RN)) (As := []) (rest := []) hx hb hml hown hts hl.1 hP hK hN (c_m_lost hI hM (mC_of hC rfl rfl rfl rfl rfl rfl)) eX8_274 (ci := 7) (q0 := 0) rfl rfl rfl rfl rfl (Nat.le_of_ble_eq_true rfl) ⟨Nat.le_of_ble_eq_true rfl, Nat.le_of_ble_eq_true rfl⟩ ⟨rfl, rfl⟩ ⟨Nat.le_of_ble_eq_true rfl, Nat.le_of_ble_eq_true rfl⟩ dX8_lossBy_53 ?_
    have hE : (m_lossBy RA RS RN v1 v2 v3 v4) = ((m_lost (va_up (va_up (va_up RA 36 a36_3) 37 a37_3) 39 a39_3) RS RN), a36_3, a37_3, a39_3) := hF_3.trans (by rw [m_lossBy_k3])
    exact W.lret (v := (m_lost (va_up (va_up (va_up RA 36 a36_3) 37 a37_3) 39 a39_3) RS RN)) hx hb hr (fun t ht hW => ⟨by rw [hE], by rw [hE]; exact kB.of (ws := RWs cI ad (va_up (va_up (va_up RA 36 a36_3) 37 a37_3) 39 a39_3) RS RN RL) hP hK hN ht hW, hS.F ht⟩) hS.2.2 dX8_lossBy_56 hlocks
  have loop_3 : ∀ (n_3 i_3 : Nat) (a36_3 : Nat → Int32) (a37_3 : Nat → Int32) (a39_3 : Nat → Int32), i_3 + n_3 = (RN 32) → ∀ (H : Heap) (locs : List Loc) (ls : Array Slot), va_P (dC, dI) vwCl (RWs cI ad (va_up (va_up (va_up RA 36 a36_3) 37 a37_3) 39 a39_3) RS RN RL) H → va_S (kAA ad 24) s.heap H locs → lv_has ls 6 [(0, .ref (ad 0)), (1, .int v1), (2, .int v2), (3, .int v3), (4, .int v4), (5, .int (nI i_3))] → (∀ (H : Heap) (locs : List Loc) (ls : Array Slot), va_P (dC, dI) vwCl (RWs cI ad (va_up (va_up (va_up RA 36 ((m_lossBy_L3 RA RS RN v1 v2 v3 v4 n_3 i_3 a36_3 a37_3 a39_3).1)) 37 ((m_lossBy_L3 RA RS RN v1 v2 v3 v4 n_3 i_3 a36_3 a37_3 a39_3).2.1)) 39 ((m_lossBy_L3 RA RS RN v1 v2 v3 v4 n_3 i_3 a36_3 a37_3 a39_3).2.2)) RS RN RL) H → va_S (kAA ad 24) s.heap H locs → lv_has ls 6 [(0, .ref (ad 0))] → W p l e ({ frames := 6, cells := 0, slots := 0, locals := 141 } : Room) s m args below meth c H locs 0 0 (MQ below (kQ (some (.long ((m_lossBy RA RS RN v1 v2 v3 v4).1))) (kB (dC, dI) [(cI, .int)] (RWs cI ad (va_up (va_up (va_up RA 36 ((m_lossBy RA RS RN v1 v2 v3 v4).2.1)) 37 ((m_lossBy RA RS RN v1 v2 v3 v4).2.2.1)) 39 ((m_lossBy RA RS RN v1 v2 v3 v4).2.2.2)) RS RN RL)) (kAA ad 24)) args s 0 0 (kAA ad 24)) (F0 m 52 ls [])) → W p l e ({ frames := 6, cells := 0, slots := 0, locals := 141 } : Room) s m args below meth c H locs 0 0 (MQ below (kQ (some (.long ((m_lossBy RA RS RN v1 v2 v3 v4).1))) (kB (dC, dI) [(cI, .int)] (RWs cI ad (va_up (va_up (va_up RA 36 ((m_lossBy RA RS RN v1 v2 v3 v4).2.1)) 37 ((m_lossBy RA RS RN v1 v2 v3 v4).2.2.1)) 39 ((m_lossBy RA RS RN v1 v2 v3 v4).2.2.2)) RS RN RL)) (kAA ad 24)) args s 0 0 (kAA ad 24)) (F0 m 3 ls []) := by
    intro n_3
    induction n_3 with
    | zero =>
      intro i_3 a36_3 a37_3 a39_3 hin_3 H locs ls hP hS hl  hk_3
      refine lv_iload hx hb dX8_lossBy_3 (lv_at hl 5 rfl) ?_
      refine lv_aload_n hx hb dX8_lossBy_5 rfl (lv_at hl 0 rfl) ?_
      refine m_get (v := .int (nI (RN 32))) hx hb hts hown hK hP 32 (by decide) rfl kX8_174 rfl dX8_lossBy_6 ?_
      refine lv_icmp_ge (tgt := 52) hx hb dX8_lossBy_9 (by decide) (fun _ => ?_) (fun c_5 => absurd (kct_ge (N := (RN 32)) (nI_clamp (by omega)) (by omega) (by omega)) c_5)
      have hL_3 : (m_lossBy_L3 RA RS RN v1 v2 v3 v4 0 i_3 a36_3 a37_3 a39_3) = (a36_3, a37_3, a39_3) := by rw [m_lossBy_L3.eq_1]
      try rw [hL_3] at hk_3
      exact hk_3 _ _ _ hP hS (lv_sub hl [0] rfl) 
    | succ n_3 ih_3 =>
      intro i_3 a36_3 a37_3 a39_3 hin_3 H locs ls hP hS hl  hk_3
      refine lv_iload hx hb dX8_lossBy_3 (lv_at hl 5 rfl) ?_
      refine lv_aload_n hx hb dX8_lossBy_5 rfl (lv_at hl 0 rfl) ?_
      refine m_get (v := .int (nI (RN 32))) hx hb hts hown hK hP 32 (by decide) rfl kX8_174 rfl dX8_lossBy_6 ?_
      refine lv_icmp_ge (tgt := 52) hx hb dX8_lossBy_9 (by decide) (fun c_6 => absurd c_6 (kct_lt (N := (RN 32)) (nI_clamp (by omega)) (by omega))) (fun _ => ?_)
      refine lv_aload_n hx hb dX8_lossBy_12 rfl (lv_at hl 0 rfl) ?_
      refine lv_iload_n hx hb dX8_lossBy_13 rfl (lv_at hl 1 rfl) ?_
      refine lv_aload_n hx hb dX8_lossBy_14 rfl (lv_at hl 0 rfl) ?_
      refine m_get (v := .ref (ad 18)) hx hb hts hown hK hP 31 (by decide) rfl kX8_61 rfl dX8_lossBy_15 ?_
      refine lv_iload hx hb dX8_lossBy_18 (lv_at hl 5 rfl) ?_
      refine kn_iald (f := (RA 31)) (v := (RA 31 i_3)) hx hb hK hP 18 rfl i_3 rfl (by omega) (by omega) rfl dX8_lossBy_20 ?_
      refine kn_top (x' := (nI ((RA 31 i_3).toNatClampNeg))) (kNat (mI_row0 hM i_3 (by omega))) ?_
      refine lv_iload hx hb dX8_lossBy_21 (lv_at hl 5 rfl) ?_
      refine lv_if_ne (tgt := 30) hx hb dX8_lossBy_23 (by decide) (fun c_7 => ?_) (fun c_7 => ?_)
      · refine lv_iload_n hx hb dX8_lossBy_30 rfl (lv_at hl 3 rfl) ?_
        refine lv_iload hx hb dX8_lossBy_31 (lv_at hl 5 rfl) ?_
        refine lv_if_ne (tgt := 41) hx hb dX8_lossBy_33 (by decide) (fun _ => ?_) (fun c_8 => absurd c_8 c_7)
        refine lv_bipush (v := (-4)) hx hb dX8_lossBy_41 (by decide) ?_
        refine k_wV (r := none) (As := [.int v1, .int (nI ((RA 31 i_3).toNatClampNeg)), .int v3, .int (-4)]) (rest := []) hx hb hml hown hts hl.1 hP hK hN hS (c_m_goHour hI v1 ((RA 31 i_3).toNatClampNeg) v3 (-4) hM (mI_row hM i_3 (by omega)) (by first | exact hside | decide)) eX8_268 (ci := 7) (q0 := 0) rfl rfl rfl rfl rfl (Nat.le_of_ble_eq_true rfl) ⟨Nat.le_of_ble_eq_true rfl, Nat.le_of_ble_eq_true rfl⟩ ⟨rfl, rfl⟩ ⟨Nat.le_of_ble_eq_true rfl, Nat.le_of_ble_eq_true rfl⟩ dX8_lossBy_43 (fun H locs hP hS => ?_)
        obtain ⟨r_9, hr_9⟩ : ∃ z, z = (m_goHour (va_up (va_up (va_up RA 36 a36_3) 37 a37_3) 39 a39_3) RS RN v1 ((RA 31 i_3).toNatClampNeg) v3 (-4)) := ⟨_, rfl⟩
        rw [← hr_9] at hP
        have hP : va_P (dC, dI) vwCl (RWs cI ad (va_up (va_up (va_up RA 36 r_9.1) 37 r_9.2.1) 39 r_9.2.2) RS RN RL) H := (RWs_conv rfl rfl rfl rfl rfl rfl rfl rfl rfl rfl rfl rfl rfl rfl rfl rfl rfl rfl rfl rfl rfl rfl rfl rfl rfl rfl rfl rfl rfl rfl rfl rfl rfl rfl rfl rfl rfl rfl rfl rfl rfl hP)
        refine lv_iinc (v := (nI (i_3 + 1))) (lv' := [(5, .int (nI (i_3 + 1))), (0, .ref (ad 0)), (1, .int v1), (2, .int v2), (3, .int v3), (4, .int v4)]) hx hb dX8_lossBy_46 hl (k := 5) rfl (nI_add _ _) (by decide) rfl (fun ls hl => ?_)
        refine lv_goto (tgt := 3) hx hb dX8_lossBy_49 (by decide) ?_
        have hL_3 : (m_lossBy_L3 RA RS RN v1 v2 v3 v4 (n_3 + 1) i_3 a36_3 a37_3 a39_3) = (m_lossBy_L3 RA RS RN v1 v2 v3 v4 n_3 (i_3 + 1) r_9.1 r_9.2.1 r_9.2.2) := by subst hr_9; rw [m_lossBy_L3.eq_2, if_neg c_7]
        try rw [hL_3] at hk_3
        exact ih_3 (i_3 + 1) r_9.1 r_9.2.1 r_9.2.2 (by omega) _ _ _ hP hS (lv_sub hl [1, 2, 3, 4, 5, 0] rfl)  hk_3
      · refine lv_iload_n hx hb dX8_lossBy_26 rfl (lv_at hl 2 rfl) ?_
        refine lv_goto (tgt := 31) hx hb dX8_lossBy_27 (by decide) ?_
        refine lv_iload hx hb dX8_lossBy_31 (lv_at hl 5 rfl) ?_
        refine lv_if_ne (tgt := 41) hx hb dX8_lossBy_33 (by decide) (fun c_10 => absurd c_7 c_10) (fun _ => ?_)
        refine lv_iload hx hb dX8_lossBy_36 (lv_at hl 4 rfl) ?_
        refine lv_goto (tgt := 43) hx hb dX8_lossBy_38 (by decide) ?_
        refine k_wV (r := none) (As := [.int v1, .int (nI ((RA 31 i_3).toNatClampNeg)), .int v2, .int v4]) (rest := []) hx hb hml hown hts hl.1 hP hK hN hS (c_m_goHour hI v1 ((RA 31 i_3).toNatClampNeg) v2 v4 hM (mI_row hM i_3 (by omega)) (by first | exact hside | decide)) eX8_268 (ci := 7) (q0 := 0) rfl rfl rfl rfl rfl (Nat.le_of_ble_eq_true rfl) ⟨Nat.le_of_ble_eq_true rfl, Nat.le_of_ble_eq_true rfl⟩ ⟨rfl, rfl⟩ ⟨Nat.le_of_ble_eq_true rfl, Nat.le_of_ble_eq_true rfl⟩ dX8_lossBy_43 (fun H locs hP hS => ?_)
        obtain ⟨r_11, hr_11⟩ : ∃ z, z = (m_goHour (va_up (va_up (va_up RA 36 a36_3) 37 a37_3) 39 a39_3) RS RN v1 ((RA 31 i_3).toNatClampNeg) v2 v4) := ⟨_, rfl⟩
        rw [← hr_11] at hP
        have hP : va_P (dC, dI) vwCl (RWs cI ad (va_up (va_up (va_up RA 36 r_11.1) 37 r_11.2.1) 39 r_11.2.2) RS RN RL) H := (RWs_conv rfl rfl rfl rfl rfl rfl rfl rfl rfl rfl rfl rfl rfl rfl rfl rfl rfl rfl rfl rfl rfl rfl rfl rfl rfl rfl rfl rfl rfl rfl rfl rfl rfl rfl rfl rfl rfl rfl rfl rfl rfl hP)
        refine lv_iinc (v := (nI (i_3 + 1))) (lv' := [(5, .int (nI (i_3 + 1))), (0, .ref (ad 0)), (1, .int v1), (2, .int v2), (3, .int v3), (4, .int v4)]) hx hb dX8_lossBy_46 hl (k := 5) rfl (nI_add _ _) (by decide) rfl (fun ls hl => ?_)
        refine lv_goto (tgt := 3) hx hb dX8_lossBy_49 (by decide) ?_
        have hL_3 : (m_lossBy_L3 RA RS RN v1 v2 v3 v4 (n_3 + 1) i_3 a36_3 a37_3 a39_3) = (m_lossBy_L3 RA RS RN v1 v2 v3 v4 n_3 (i_3 + 1) r_11.1 r_11.2.1 r_11.2.2) := by subst hr_11; rw [m_lossBy_L3.eq_2, if_pos c_7]
        try rw [hL_3] at hk_3
        exact ih_3 (i_3 + 1) r_11.1 r_11.2.1 r_11.2.2 (by omega) _ _ _ hP hS (lv_sub hl [1, 2, 3, 4, 5, 0] rfl)  hk_3
  have hP : va_P (dC, dI) vwCl (RWs cI ad (va_up (va_up (va_up RA 36 (RA 36)) 37 (RA 37)) 39 (RA 39)) RS RN RL) s.heap := (RWs_conv rfl rfl rfl rfl rfl rfl rfl rfl rfl rfl rfl rfl rfl rfl rfl rfl rfl rfl rfl rfl rfl rfl rfl rfl rfl rfl rfl rfl rfl rfl rfl rfl rfl rfl rfl rfl rfl rfl rfl rfl rfl hP)
  exact loop_3 (RN 32) 0 (RA 36) (RA 37) (RA 39) (by omega) _ _ _ hP hS (lv_sub hl [1, 2, 3, 4, 5, 0] rfl)  (fun H locs ls hP hS hl  => rest_3 (m_lossBy_L3 RA RS RN v1 v2 v3 v4 (RN 32) 0 (RA 36) (RA 37) (RA 39)).1 (m_lossBy_L3 RA RS RN v1 v2 v3 v4 (RN 32) 0 (RA 36) (RA 37) (RA 39)).2.1 (m_lossBy_L3 RA RS RN v1 v2 v3 v4 (RN 32) 0 (RA 36) (RA 37) (RA 39)).2.2 _ _ _ hP hS hl  (by rw [m_lossBy]))

end REF
