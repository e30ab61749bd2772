section REF
variable {l : Launch} {dC : Nat → ClassId} {dI : Nat → Nat → Nat} {cI : ClassId} {ad : Nat → Nat} {RA : Nat → Nat → Int32} {RS : Nat → Int32} {RN : Nat → Nat} {RL : Int64}
-- X8_bestRow
def m_bestRow_k12 (a36 : Nat → Int32) (a37 : Nat → Int32) (a39 : Nat → Int32) (ll0 : Int64) (s38 : Int32) (v2 : Int32) : Int32 × (Nat → Int32) × (Nat → Int32) × (Nat → Int32) × Int64 × Int32 := (v2, a36, a37, a39, ll0, s38)
def m_bestRow_b12_k32 (RA : Nat → Nat → Int32) (RS : Nat → Int32) (RN : Nat → Nat) (a36 : Nat → Int32) (a37 : Nat → Int32) (a39 : Nat → Int32) (ll0 : Int64) (s38 : Int32) (v2 : Int32) (v3 : Nat) (v4 : Int32) : Int32 × (Nat → Int32) × (Nat → Int32) × (Nat → Int32) × Int64 × Int32 := if v4 = 0 then (if 0 ≤ (lg_cmp 1152921504606846976 ll0) then (v2, a36, a37, a39, ll0, s38) else ((nI v3), a36, a37, a39, 1152921504606846976, s38)) else (if 0 ≤ (lg_cmp (m_lost (va_up (va_up (va_up RA 36 a36) 37 a37) 39 a39) (va_up RS 38 s38) RN) ll0) then (v2, a36, a37, a39, ll0, s38) else ((nI v3), a36, a37, a39, (m_lost (va_up (va_up (va_up RA 36 a36) 37 a37) 39 a39) (va_up RS 38 s38) RN), s38))
def m_bestRow_L32 (RA : Nat → Nat → Int32) (RS : Nat → Int32) (RN : Nat → Nat) (s38 : Int32) (v1 : Nat) (v3 : Nat) : Nat → Nat → Int32 → (Nat → Int32) → (Nat → Int32) → (Nat → Int32) → Int32 × (Nat → Int32) × (Nat → Int32) × (Nat → Int32)
  | 0, i, v4, a36, a37, a39 => (v4, a36, a37, a39)
  | n + 1, i, v4, a36, a37, a39 => if v4 = 0 then m_bestRow_L32 RA RS RN s38 v1 v3 n (i + 1) 0 a36 a37 a39 else (if (nI ((v3 / m_power 17 (v1 - 1 - i)) % 17)) = 16 then m_bestRow_L32 RA RS RN s38 v1 v3 n (i + 1) 1 ((m_goHour (va_up (va_up (va_up RA 36 a36) 37 a37) 39 a39) (va_up RS 38 s38) RN 0 ((RA 31 i).toNatClampNeg) (RS 15) (nI ((v3 / m_power 17 (v1 - 1 - i)) % 17))).1) ((m_goHour (va_up (va_up (va_up RA 36 a36) 37 a37) 39 a39) (va_up RS 38 s38) RN 0 ((RA 31 i).toNatClampNeg) (RS 15) (nI ((v3 / m_power 17 (v1 - 1 - i)) % 17))).2.1) ((m_goHour (va_up (va_up (va_up RA 36 a36) 37 a37) 39 a39) (va_up RS 38 s38) RN 0 ((RA 31 i).toNatClampNeg) (RS 15) (nI ((v3 / m_power 17 (v1 - 1 - i)) % 17))).2.2) else (if (nI (RN 4)) ≤ (nI (((v3 / m_power 17 (v1 - 1 - i)) % 17) / 2)) then m_bestRow_L32 RA RS RN s38 v1 v3 n (i + 1) 0 a36 a37 a39 else (if (m_has (RS 26) (nI (((v3 / m_power 17 (v1 - 1 - i)) % 17) / 2))) = 0 then m_bestRow_L32 RA RS RN s38 v1 v3 n (i + 1) 0 a36 a37 a39 else m_bestRow_L32 RA RS RN s38 v1 v3 n (i + 1) 1 ((m_goHour (va_up (va_up (va_up RA 36 a36) 37 a37) 39 a39) (va_up RS 38 s38) RN 0 ((RA 31 i).toNatClampNeg) (RS 15) (nI ((v3 / m_power 17 (v1 - 1 - i)) % 17))).1) ((m_goHour (va_up (va_up (va_up RA 36 a36) 37 a37) 39 a39) (va_up RS 38 s38) RN 0 ((RA 31 i).toNatClampNeg) (RS 15) (nI ((v3 / m_power 17 (v1 - 1 - i)) % 17))).2.1) ((m_goHour (va_up (va_up (va_up RA 36 a36) 37 a37) 39 a39) (va_up RS 38 s38) RN 0 ((RA 31 i).toNatClampNeg) (RS 15) (nI ((v3 / m_power 17 (v1 - 1 - i)) % 17))).2.2))))
def m_bestRow_b12 (RA : Nat → Nat → Int32) (RS : Nat → Int32) (RN : Nat → Nat) (v1 : Nat) (i : Nat) (v2 : Int32) (a36 : Nat → Int32) (a37 : Nat → Int32) (a39 : Nat → Int32) (ll0 : Int64) (s38 : Int32) : Int32 × (Nat → Int32) × (Nat → Int32) × (Nat → Int32) × Int64 × Int32 := m_bestRow_b12_k32 RA RS RN (m_bestRow_L32 RA RS RN ((m_load (va_up (va_up (va_up RA 36 a36) 37 a37) 39 a39) (va_up RS 38 s38)).2.2.2) v1 i v1 0 1 ((m_load (va_up (va_up (va_up RA 36 a36) 37 a37) 39 a39) (va_up RS 38 s38)).1) ((m_load (va_up (va_up (va_up RA 36 a36) 37 a37) 39 a39) (va_up RS 38 s38)).2.1) ((m_load (va_up (va_up (va_up RA 36 a36) 37 a37) 39 a39) (va_up RS 38 s38)).2.2.1)).2.1 (m_bestRow_L32 RA RS RN ((m_load (va_up (va_up (va_up RA 36 a36) 37 a37) 39 a39) (va_up RS 38 s38)).2.2.2) v1 i v1 0 1 ((m_load (va_up (va_up (va_up RA 36 a36) 37 a37) 39 a39) (va_up RS 38 s38)).1) ((m_load (va_up (va_up (va_up RA 36 a36) 37 a37) 39 a39) (va_up RS 38 s38)).2.1) ((m_load (va_up (va_up (va_up RA 36 a36) 37 a37) 39 a39) (va_up RS 38 s38)).2.2.1)).2.2.1 (m_bestRow_L32 RA RS RN ((m_load (va_up (va_up (va_up RA 36 a36) 37 a37) 39 a39) (va_up RS 38 s38)).2.2.2) v1 i v1 0 1 ((m_load (va_up (va_up (va_up RA 36 a36) 37 a37) 39 a39) (va_up RS 38 s38)).1) ((m_load (va_up (va_up (va_up RA 36 a36) 37 a37) 39 a39) (va_up RS 38 s38)).2.1) ((m_load (va_up (va_up (va_up RA 36 a36) 37 a37) 39 a39) (va_up RS 38 s38)).2.2.1)).2.2.2 ll0 ((m_load (va_up (va_up (va_up RA 36 a36) 37 a37) 39 a39) (va_up RS 38 s38)).2.2.2) v2 i (m_bestRow_L32 RA RS RN ((m_load (va_up (va_up (va_up RA 36 a36) 37 a37) 39 a39) (va_up RS 38 s38)).2.2.2) v1 i v1 0 1 ((m_load (va_up (va_up (va_up RA 36 a36) 37 a37) 39 a39) (va_up RS 38 s38)).1) ((m_load (va_up (va_up (va_up RA 36 a36) 37 a37) 39 a39) (va_up RS 38 s38)).2.1) ((m_load (va_up (va_up (va_up RA 36 a36) 37 a37) 39 a39) (va_up RS 38 s38)).2.2.1)).1
def m_bestRow_L12 (RA : Nat → Nat → Int32) (RS : Nat → Int32) (RN : Nat → Nat) (v1 : Nat) : Nat → Nat → Int32 → (Nat → Int32) → (Nat → Int32) → (Nat → Int32) → Int64 → Int32 → Int32 × (Nat → Int32) × (Nat → Int32) × (Nat → Int32) × Int64 × Int32
  | 0, i, v2, a36, a37, a39, ll0, s38 => (v2, a36, a37, a39, ll0, s38)
  | n + 1, i, v2, a36, a37, a39, ll0, s38 => m_bestRow_L12 RA RS RN v1 n (i + 1) (m_bestRow_b12 RA RS RN v1 i v2 a36 a37 a39 ll0 s38).1 (m_bestRow_b12 RA RS RN v1 i v2 a36 a37 a39 ll0 s38).2.1 (m_bestRow_b12 RA RS RN v1 i v2 a36 a37 a39 ll0 s38).2.2.1 (m_bestRow_b12 RA RS RN v1 i v2 a36 a37 a39 ll0 s38).2.2.2.1 (m_bestRow_b12 RA RS RN v1 i v2 a36 a37 a39 ll0 s38).2.2.2.2.1 (m_bestRow_b12 RA RS RN v1 i v2 a36 a37 a39 ll0 s38).2.2.2.2.2
def m_bestRow (RA : Nat → Nat → Int32) (RS : Nat → Int32) (RN : Nat → Nat) (v1 : Nat) : Int32 × (Nat → Int32) × (Nat → Int32) × (Nat → Int32) × Int64 × Int32 := m_bestRow_k12 (m_bestRow_L12 RA RS RN v1 (m_power 17 v1) 0 (-4) (RA 36) (RA 37) (RA 39) 1152921504606846976 (RS 38)).2.1 (m_bestRow_L12 RA RS RN v1 (m_power 17 v1) 0 (-4) (RA 36) (RA 37) (RA 39) 1152921504606846976 (RS 38)).2.2.1 (m_bestRow_L12 RA RS RN v1 (m_power 17 v1) 0 (-4) (RA 36) (RA 37) (RA 39) 1152921504606846976 (RS 38)).2.2.2.1 (m_bestRow_L12 RA RS RN v1 (m_power 17 v1) 0 (-4) (RA 36) (RA 37) (RA 39) 1152921504606846976 (RS 38)).2.2.2.2.1 (m_bestRow_L12 RA RS RN v1 (m_power 17 v1) 0 (-4) (RA 36) (RA 37) (RA 39) 1152921504606846976 (RS 38)).2.2.2.2.2 (m_bestRow_L12 RA RS RN v1 (m_power 17 v1) 0 (-4) (RA 36) (RA 37) (RA 39) 1152921504606846976 (RS 38)).1
set_option maxHeartbeats 4000000 in
set_option maxRecDepth 100000 in
theorem c_m_bestRow (hI : kInj ad 24) (v1 : Nat) (hM : mI RA RS RN) (hC : mC RA RS RN) (hn : v1 ≤ 3) : Met l yX8_bestRow (.code yX8_bestRow cX8_bestRow 7 (some .int) :: kT) ({ frames := 6, cells := 0, slots := 0, locals := 141 } : Room) (va_Pc [.ref (ad 0), .int (nI v1)] (kB (dC, dI) [(cI, .int)] (RWs cI ad RA RS RN RL))) (kQ (some (.int ((m_bestRow RA RS RN v1).1))) (kB (dC, dI) [(cI, .int)] (RWs cI ad (va_up (va_up (va_up RA 36 ((m_bestRow RA RS RN v1).2.1)) 37 ((m_bestRow RA RS RN v1).2.2.1)) 39 ((m_bestRow RA RS RN v1).2.2.2.1)) (va_up RS 38 ((m_bestRow RA RS RN v1).2.2.2.2.2)) RN (m_bestRow RA RS RN v1).2.2.2.2.1)) (kAA ad 24)) 0 0 (kAA ad 24) := by
  refine kMet (by decide) (fun p e s m args below meth c ls hx hb hr hml hts hown hlocks hname hargs hB hl => ?_) (Nat.le_of_ble_eq_true rfl)
  obtain ⟨hP, hK, hN⟩ := hB
  have hl : lv_has ls 7 [(0, .ref (ad 0)), (1, .int (nI v1))] := hl
  have hS : va_S (kAA ad 24) s.heap s.heap [] := va_S.rf
  have hp : m_power 17 v1 < 2147483648 := m_power_lt17 (by omega)
  have h4 : RN 4 ≤ 8 := mI_many hM
  refine lv_bipush (v := (-4)) hx hb dX8_bestRow_0 (by decide) ?_
  refine lv_istore_n (lv' := [(2, .int (-4)), (0, .ref (ad 0)), (1, .int (nI v1))]) hx hb dX8_bestRow_2 rfl hl (by decide) rfl (fun ls hl => ?_)
  refine lv_aload_n hx hb dX8_bestRow_3 rfl (lv_at hl 1 rfl) ?_
  refine lv_ldc2 (v := 1152921504606846976) hx hb hown (hts _ kX8_287) dX8_bestRow_4 ?_
  refine m_put (RS' := RS) (RN' := RN) (RL' := 1152921504606846976) (ty := .long) hx hb hts hown hI hK hP hS 40 (by decide) rfl kX8_289 rfl (by decide +kernel) rfl rfl rfl dX8_bestRow_7 (fun H locs hP hS => ?_)
  refine lv_iconst (v := 0) hx hb dX8_bestRow_10 (by decide) ?_
  refine lv_istore_n (lv' := [(3, .int 0), (2, .int (-4)), (0, .ref (ad 0)), (1, .int (nI v1))]) hx hb dX8_bestRow_11 rfl hl (by decide) rfl (fun ls hl => ?_)
  have rest_12 : ∀ (x2_12 : Int32) (a36_12 : Nat → Int32) (a37_12 : Nat → Int32) (a39_12 : Nat → Int32) (ll0_12 : Int64) (s38_12 : Int32), ∀ (H : Heap) (locs : List Loc) (ls : Array Slot), va_P (dC, dI) vwCl (RWs cI ad (va_up (va_up (va_up RA 36 a36_12) 37 a37_12) 39 a39_12) (va_up RS 38 s38_12) RN ll0_12) H → va_S (kAA ad 24) s.heap H locs → lv_has ls 7 [(2, .int x2_12)] → (m_bestRow RA RS RN v1) = m_bestRow_k12 a36_12 a37_12 a39_12 ll0_12 s38_12 x2_12 → W p l e ({ frames := 6, cells := 0, slots := 0, locals := 141 } : Room) s m args below meth c H locs 0 0 (MQ below (kQ (some (.int ((m_bestRow RA RS RN v1).1))) (kB (dC, dI) [(cI, .int)] (RWs cI ad (va_up (va_up (va_up RA 36 ((m_bestRow RA RS RN v1).2.1)) 37 ((m_bestRow RA RS RN v1).2.2.1)) 39 ((m_bestRow RA RS RN v1).2.2.2.1)) (va_up RS 38 ((m_bestRow RA RS RN v1).2.2.2.2.2)) RN (m_bestRow RA RS RN v1).2.2.2.2.1)) (kAA ad 24)) args s 0 0 (kAA ad 24)) (F0 m 191 ls []) := by
    intro x2_12 a36_12 a37_12 a39_12 ll0_12 s38_12 H locs ls hP hS hl  hF_12
    refine lv_iload_n hx hb dX8_bestRow_191 rfl (lv_at hl 0 rfl) ?_
    have hE : (m_bestRow RA RS RN v1) = (x2_12, a36_12, a37_12, a39_12, ll0_12, s38_12) := hF_12.trans (by rw [m_bestRow_k12])
    exact W.iret (v := x2_12) hx hb hr (fun t ht hW => ⟨by rw [hE], by rw [hE]; exact kB.of (ws := RWs cI ad (va_up (va_up (va_up RA 36 a36_12) 37 a37_12) 39 a39_12) (va_up RS 38 s38_12) RN ll0_12) hP hK hN ht hW, hS.F ht⟩) hS.2.2 dX8_bestRow_192 hlocks
  have loop_12 : ∀ (n_12 i_12 : Nat) (x2_12 : Int32) (a36_12 : Nat → Int32) (a37_12 : Nat → Int32) (a39_12 : Nat → Int32) (ll0_12 : Int64) (s38_12 : Int32), i_12 + n_12 = (m_power 17 v1) → ∀ (H : Heap) (locs : List Loc) (ls : Array Slot), va_P (dC, dI) vwCl (RWs cI ad (va_up (va_up (va_up RA 36 a36_12) 37 a37_12) 39 a39_12) (va_up RS 38 s38_12) RN ll0_12) H → va_S (kAA ad 24) s.heap H locs → lv_has ls 7 [(0, .ref (ad 0)), (1, .int (nI v1)), (2, .int x2_12), (3, .int (nI i_12))] → (∀ (H : Heap) (locs : List Loc) (ls : Array Slot), va_P (dC, dI) vwCl (RWs cI ad (va_up (va_up (va_up RA 36 ((m_bestRow_L12 RA RS RN v1 n_12 i_12 x2_12 a36_12 a37_12 a39_12 ll0_12 s38_12).2.1)) 37 ((m_bestRow_L12 RA RS RN v1 n_12 i_12 x2_12 a36_12 a37_12 a39_12 ll0_12 s38_12).2.2.1)) 39 ((m_bestRow_L12 RA RS RN v1 n_12 i_12 x2_12 a36_12 a37_12 a39_12 ll0_12 s38_12).2.2.2.1)) (va_up RS 38 ((m_bestRow_L12 RA RS RN v1 n_12 i_12 x2_12 a36_12 a37_12 a39_12 ll0_12 s38_12).2.2.2.2.2)) RN (m_bestRow_L12 RA RS RN v1 n_12 i_12 x2_12 a36_12 a37_12 a39_12 ll0_12 s38_12).2.2.2.2.1) H → va_S (kAA ad 24) s.heap H locs → lv_has ls 7 [(2, .int ((m_bestRow_L12 RA RS RN v1 n_12 i_12 x2_12 a36_12 a37_12 a39_12 ll0_12 s38_12).1))] → W p l e ({ frames := 6, cells := 0, slots := 0, locals := 141 } : Room) s m args below meth c H locs 0 0 (MQ below (kQ (some (.int ((m_bestRow RA RS RN v1).1))) (kB (dC, dI) [(cI, .int)] (RWs cI ad (va_up (va_up (va_up RA 36 ((m_bestRow RA RS RN v1).2.1)) 37 ((m_bestRow RA RS RN v1).2.2.1)) 39 ((m_bestRow RA RS RN v1).2.2.2.1)) (va_up RS 38 ((m_bestRow RA RS RN v1).2.2.2.2.2)) RN (m_bestRow RA RS RN v1).2.2.2.2.1)) (kAA ad 24)) args s 0 0 (kAA ad 24)) (F0 m 191 ls [])) → W p l e ({ frames := 6, cells := 0, slots := 0, locals := 141 } : Room) s m args below meth c H locs 0 0 (MQ below (kQ (some (.int ((m_bestRow RA RS RN v1).1))) (kB (dC, dI) [(cI, .int)] (RWs cI ad (va_up (va_up (va_up RA 36 ((m_bestRow RA RS RN v1).2.1)) 37 ((m_bestRow RA RS RN v1).2.2.1)) 39 ((m_bestRow RA RS RN v1).2.2.2.1)) (va_up RS 38 ((m_bestRow RA RS RN v1).2.2.2.2.2)) RN (m_bestRow RA RS RN v1).2.2.2.2.1)) (kAA ad 24)) args s 0 0 (kAA ad 24)) (F0 m 12 ls []) := by
    intro n_12
    induction n_12 with
    | zero =>
      intro i_12 x2_12 a36_12 a37_12 a39_12 ll0_12 s38_12 hin_12 H locs ls hP hS hl  hk_12
      refine lv_iload_n hx hb dX8_bestRow_12 rfl (lv_at hl 3 rfl) ?_
      refine lv_bipush (v := 17) hx hb dX8_bestRow_13 (by decide) ?_
      refine lv_iload_n hx hb dX8_bestRow_15 rfl (lv_at hl 1 rfl) ?_
      refine k_rS (v := .int (nI (m_power 17 v1))) (As := [.int 17, .int (nI v1)]) (rest := [.int (nI i_12)]) hx hb hml hown hts hl.1 (B := fun _ => True) (fun _ _ _ _ q => q) (fun _ _ _ => trivial) (c_m_power 17 v1 (by omega)) eX8_284 rfl rfl (Nat.le_of_ble_eq_true rfl) ⟨Nat.le_of_ble_eq_true rfl, Nat.le_of_ble_eq_true rfl⟩ ⟨rfl, rfl⟩ ⟨Nat.le_of_ble_eq_true rfl, Nat.le_of_ble_eq_true rfl⟩ dX8_bestRow_16 ?_
      refine lv_icmp_ge (tgt := 191) hx hb dX8_bestRow_19 (by decide) (fun _ => ?_) (fun c_19 => absurd (kct_ge (N := (m_power 17 v1)) (nI_clamp (by omega)) (by omega) (by omega)) c_19)
      have hL_12 : (m_bestRow_L12 RA RS RN v1 0 i_12 x2_12 a36_12 a37_12 a39_12 ll0_12 s38_12) = (x2_12, a36_12, a37_12, a39_12, ll0_12, s38_12) := by rw [m_bestRow_L12.eq_1]
      try rw [hL_12] at hk_12
      exact hk_12 _ _ _ hP hS (lv_sub hl [2] rfl) 
    | succ n_12 ih_12 =>
      intro i_12 x2_12 a36_12 a37_12 a39_12 ll0_12 s38_12 hin_12 H locs ls hP hS hl  hk_12
      refine lv_iload_n hx hb dX8_bestRow_12 rfl (lv_at hl 3 rfl) ?_
      refine lv_bipush (v := 17) hx hb dX8_bestRow_13 (by decide) ?_
      refine lv_iload_n hx hb dX8_bestRow_15 rfl (lv_at hl 1 rfl) ?_
      refine k_rS (v := .int (nI (m_power 17 v1))) (As := [.int 17, .int (nI v1)]) (rest := [.int (nI i_12)]) hx hb hml hown hts hl.1 (B := fun _ => True) (fun _ _ _ _ q => q) (fun _ _ _ => trivial) (c_m_power 17 v1 (by omega)) eX8_284 rfl rfl (Nat.le_of_ble_eq_true rfl) ⟨Nat.le_of_ble_eq_true rfl, Nat.le_of_ble_eq_true rfl⟩ ⟨rfl, rfl⟩ ⟨Nat.le_of_ble_eq_true rfl, Nat.le_of_ble_eq_true rfl⟩ dX8_bestRow_16 ?_
      refine lv_icmp_ge (tgt := 191) hx hb dX8_bestRow_19 (by decide) (fun c_20 => absurd c_20 (kct_lt (N := (m_power 17 v1)) (nI_clamp (by omega)) (by omega))) (fun _ => ?_)
      refine lv_aload_n hx hb dX8_bestRow_22 rfl (lv_at hl 0 rfl) ?_
      refine k_wV (r := none) (As := []) (rest := []) hx hb hml hown hts hl.1 hP hK hN hS (c_m_load hI) eX8_212 (ci := 7) (q0 := 0) rfl rfl rfl rfl rfl (Nat.le_of_ble_eq_true rfl) ⟨Nat.le_of_ble_eq_true rfl, Nat.le_of_ble_eq_true rfl⟩ ⟨rfl, rfl⟩ ⟨Nat.le_of_ble_eq_true rfl, Nat.le_of_ble_eq_true rfl⟩ dX8_bestRow_23 (fun H locs hP hS => ?_)
      obtain ⟨r_21, hr_21⟩ : ∃ z, z = (m_load (va_up (va_up (va_up RA 36 a36_12) 37 a37_12) 39 a39_12) (va_up RS 38 s38_12)) := ⟨_, rfl⟩
      rw [← hr_21] at hP
      have hP : va_P (dC, dI) vwCl (RWs cI ad (va_up (va_up (va_up RA 36 r_21.1) 37 r_21.2.1) 39 r_21.2.2.1) (va_up RS 38 r_21.2.2.2) RN ll0_12) H := (RWs_conv rfl rfl rfl rfl rfl rfl rfl rfl rfl rfl rfl rfl rfl rfl rfl rfl rfl rfl rfl rfl rfl rfl rfl rfl rfl rfl rfl rfl rfl rfl rfl rfl rfl rfl rfl rfl rfl rfl rfl rfl rfl hP)
      refine lv_iconst (v := 1) hx hb dX8_bestRow_26 (by decide) ?_
      refine lv_istore (lv' := [(4, .int 1), (0, .ref (ad 0)), (1, .int (nI v1)), (2, .int x2_12), (3, .int (nI i_12))]) hx hb dX8_bestRow_27 hl (by decide) rfl (fun ls hl => ?_)
      refine lv_iconst (v := 0) hx hb dX8_bestRow_29 (by decide) ?_
      refine lv_istore (lv' := [(5, .int 0), (4, .int 1), (0, .ref (ad 0)), (1, .int (nI v1)), (2, .int x2_12), (3, .int (nI i_12))]) hx hb dX8_bestRow_30 hl (by decide) rfl (fun ls hl => ?_)
      have rest_32 : ∀ (x4_32 : Int32) (a36_32 : Nat → Int32) (a37_32 : Nat → Int32) (a39_32 : Nat → Int32), ∀ (H : Heap) (locs : List Loc) (ls : Array Slot), va_P (dC, dI) vwCl (RWs cI ad (va_up (va_up (va_up RA 36 a36_32) 37 a37_32) 39 a39_32) (va_up RS 38 r_21.2.2.2) RN ll0_12) H → va_S (kAA ad 24) s.heap H locs → lv_has ls 7 [(0, .ref (ad 0)), (1, .int (nI v1)), (2, .int x2_12), (3, .int (nI i_12)), (4, .int x4_32)] → (m_bestRow_b12 RA RS RN v1 i_12 x2_12 a36_12 a37_12 a39_12 ll0_12 s38_12) = m_bestRow_b12_k32 RA RS RN a36_32 a37_32 a39_32 ll0_12 r_21.2.2.2 x2_12 i_12 x4_32 → W p l e ({ frames := 6, cells := 0, slots := 0, locals := 141 } : Room) s m args below meth c H locs 0 0 (MQ below (kQ (some (.int ((m_bestRow RA RS RN v1).1))) (kB (dC, dI) [(cI, .int)] (RWs cI ad (va_up (va_up (va_up RA 36 ((m_bestRow RA RS RN v1).2.1)) 37 ((m_bestRow RA RS RN v1).2.2.1)) 39 ((m_bestRow RA RS RN v1).2.2.2.1)) (va_up RS 38 ((m_bestRow RA RS RN v1).2.2.2.2.2)) RN (m_bestRow RA RS RN v1).2.2.2.2.1)) (kAA ad 24)) args s 0 0 (kAA ad 24)) (F0 m 129 ls []) := by
        intro x4_32 a36_32 a37_32 a39_32 H locs ls hP hS hl  hF_32
        refine lv_iload hx hb dX8_bestRow_129 (lv_at hl 4 rfl) ?_
        refine lv_if_eq (tgt := 141) hx hb dX8_bestRow_131 (by decide) (fun c_22 => ?_) (fun c_22 => ?_)
        · refine lv_ldc2 (v := 1152921504606846976) hx hb hown (hts _ kX8_287) dX8_bestRow_141 ?_
          refine lv_lstore (lv' := [(5, .long 1152921504606846976), (0, .ref (ad 0)), (1, .int (nI v1)), (2, .int x2_12), (3, .int (nI i_12)), (4, .int x4_32)]) hx hb dX8_bestRow_144 hl (by decide) rfl (fun ls hl => ?_)
          refine lv_lload hx hb dX8_bestRow_146 (lv_at hl 0 rfl) ?_
          refine lv_aload_n hx hb dX8_bestRow_148 rfl (lv_at hl 1 rfl) ?_
          refine m_get (v := .long ll0_12) hx hb hts hown hK hP 40 (by decide) rfl kX8_289 rfl dX8_bestRow_149 ?_
          refine W.lcmp hx hb dX8_bestRow_152 ?_
          refine lv_if_ge (tgt := 160) hx hb dX8_bestRow_153 (by decide) (fun c_23 => ?_) (fun c_23 => ?_)
          · refine lv_iload_n hx hb dX8_bestRow_160 rfl (lv_at hl 3 rfl) ?_
            refine lv_istore_n (lv' := [(2, .int x2_12), (5, .long 1152921504606846976), (0, .ref (ad 0)), (1, .int (nI v1)), (3, .int (nI i_12)), (4, .int x4_32)]) hx hb dX8_bestRow_161 rfl hl (by decide) rfl (fun ls hl => ?_)
            refine lv_aload_n hx hb dX8_bestRow_162 rfl (lv_at hl 2 rfl) ?_
            refine lv_lload hx hb dX8_bestRow_163 (lv_at hl 1 rfl) ?_
            refine lv_aload_n hx hb dX8_bestRow_165 rfl (lv_at hl 2 rfl) ?_
            refine m_get (v := .long ll0_12) hx hb hts hown hK hP 40 (by decide) rfl kX8_289 rfl dX8_bestRow_166 ?_
            refine W.lcmp hx hb dX8_bestRow_169 ?_
            refine lv_if_ge (tgt := 178) hx hb dX8_bestRow_170 (by decide) (fun _ => ?_) (fun c_24 => absurd c_23 c_24)
            refine lv_aload_n hx hb dX8_bestRow_178 rfl (lv_at hl 2 rfl) ?_
            refine m_get (v := .long ll0_12) hx hb hts hown hK hP 40 (by decide) rfl kX8_289 rfl dX8_bestRow_179 ?_
            refine m_put (RS' := (va_up RS 38 r_21.2.2.2)) (RN' := RN) (RL' := ll0_12) (ty := .long) hx hb hts hown hI hK hP hS 40 (by decide) rfl kX8_289 rfl (by decide +kernel) rfl rfl rfl dX8_bestRow_182 (fun H locs hP hS => ?_)
            refine lv_iinc (v := (nI (i_12 + 1))) (lv' := [(3, .int (nI (i_12 + 1))), (2, .int x2_12), (5, .long 1152921504606846976), (0, .ref (ad 0)), (1, .int (nI v1)), (4, .int x4_32)]) hx hb dX8_bestRow_185 hl (k := 4) rfl (nI_add _ _) (by decide) rfl (fun ls hl => ?_)
            refine lv_goto (tgt := 12) hx hb dX8_bestRow_188 (by decide) ?_
            have hb_12 : (m_bestRow_b12 RA RS RN v1 i_12 x2_12 a36_12 a37_12 a39_12 ll0_12 s38_12) = (x2_12, a36_32, a37_32, a39_32, ll0_12, r_21.2.2.2) := by subst hr_21; exact hF_32.trans (by rw [m_bestRow_b12_k32, if_pos c_22, if_pos c_23])
            have hL_12 : (m_bestRow_L12 RA RS RN v1 (n_12 + 1) i_12 x2_12 a36_12 a37_12 a39_12 ll0_12 s38_12) = (m_bestRow_L12 RA RS RN v1 n_12 (i_12 + 1) x2_12 a36_32 a37_32 a39_32 ll0_12 r_21.2.2.2) := by rw [m_bestRow_L12.eq_2, hb_12]
            try rw [hL_12] at hk_12
            exact ih_12 (i_12 + 1) x2_12 a36_32 a37_32 a39_32 ll0_12 r_21.2.2.2 (by omega) _ _ _ hP hS (lv_sub hl [3, 4, 1, 0] rfl)  hk_12
          · refine lv_iload_n hx hb dX8_bestRow_156 rfl (lv_at hl 4 rfl) ?_
            refine lv_goto (tgt := 161) hx hb dX8_bestRow_157 (by decide) ?_
            refine lv_istore_n (lv' := [(2, .int (nI i_12)), (5, .long 1152921504606846976), (0, .ref (ad 0)), (1, .int (nI v1)), (3, .int (nI i_12)), (4, .int x4_32)]) hx hb dX8_bestRow_161 rfl hl (by decide) rfl (fun ls hl => ?_)
            refine lv_aload_n hx hb dX8_bestRow_162 rfl (lv_at hl 2 rfl) ?_
            refine lv_lload hx hb dX8_bestRow_163 (lv_at hl 1 rfl) ?_
            refine lv_aload_n hx hb dX8_bestRow_165 rfl (lv_at hl 2 rfl) ?_
            refine m_get (v := .long ll0_12) hx hb hts hown hK hP 40 (by decide) rfl kX8_289 rfl dX8_bestRow_166 ?_
            refine W.lcmp hx hb dX8_bestRow_169 ?_
            refine lv_if_ge (tgt := 178) hx hb dX8_bestRow_170 (by decide) (fun c_25 => absurd c_25 c_23) (fun _ => ?_)
            refine lv_lload hx hb dX8_bestRow_173 (lv_at hl 1 rfl) ?_
            refine lv_goto (tgt := 182) hx hb dX8_bestRow_175 (by decide) ?_
            refine m_put (RS' := (va_up RS 38 r_21.2.2.2)) (RN' := RN) (RL' := 1152921504606846976) (ty := .long) hx hb hts hown hI hK hP hS 40 (by decide) rfl kX8_289 rfl (by decide +kernel) rfl rfl rfl dX8_bestRow_182 (fun H locs hP hS => ?_)
            refine lv_iinc (v := (nI (i_12 + 1))) (lv' := [(3, .int (nI (i_12 + 1))), (2, .int (nI i_12)), (5, .long 1152921504606846976), (0, .ref (ad 0)), (1, .int (nI v1)), (4, .int x4_32)]) hx hb dX8_bestRow_185 hl (k := 4) rfl (nI_add _ _) (by decide) rfl (fun ls hl => ?_)
            refine lv_goto (tgt := 12) hx hb dX8_bestRow_188 (by decide) ?_
            have hb_12 : (m_bestRow_b12 RA RS RN v1 i_12 x2_12 a36_12 a37_12 a39_12 ll0_12 s38_12) = ((nI i_12), a36_32, a37_32, a39_32, 1152921504606846976, r_21.2.2.2) := by subst hr_21; exact hF_32.trans (by rw [m_bestRow_b12_k32, if_pos c_22, if_neg c_23])
            have hL_12 : (m_bestRow_L12 RA RS RN v1 (n_12 + 1) i_12 x2_12 a36_12 a37_12 a39_12 ll0_12 s38_12) = (m_bestRow_L12 RA RS RN v1 n_12 (i_12 + 1) (nI i_12) a36_32 a37_32 a39_32 1152921504606846976 r_21.2.2.2) := by rw [m_bestRow_L12.eq_2, hb_12]
            try rw [hL_12] at hk_12
            exact ih_12 (i_12 + 1) (nI i_12) a36_32 a37_32 a39_32 1152921504606846976 r_21.2.2.2 (by omega) _ _ _ hP hS (lv_sub hl [3, 4, 1, 0] rfl)  hk_12
        · refine lv_aload_n hx hb dX8_bestRow_134 rfl (lv_at hl 0 rfl) ?_
          refine k_rV (v := .long (m_lost (va_up (va_up (va_up RA 36 a36_32) 37 a37_32) 39 a39_32) (va_up RS 38 r_21.2.2.2) RN)) (As := []) (rest := []) hx hb hml hown hts hl.1 hP hK hN (c_m_lost hI hM (mC_of hC rfl rfl rfl rfl rfl rfl)) eX8_274 (ci := 7) (q0 := 0) rfl rfl rfl rfl rfl (Nat.le_of_ble_eq_true rfl) ⟨Nat.le_of_ble_eq_true rfl, Nat.le_of_ble_eq_true rfl⟩ ⟨rfl, rfl⟩ ⟨Nat.le_of_ble_eq_true rfl, Nat.le_of_ble_eq_true rfl⟩ dX8_bestRow_135 ?_
          refine lv_goto (tgt := 144) hx hb dX8_bestRow_138 (by decide) ?_
          refine lv_lstore (lv' := [(5, .long (m_lost (va_up (va_up (va_up RA 36 a36_32) 37 a37_32) 39 a39_32) (va_up RS 38 r_21.2.2.2) RN)), (0, .ref (ad 0)), (1, .int (nI v1)), (2, .int x2_12), (3, .int (nI i_12)), (4, .int x4_32)]) hx hb dX8_bestRow_144 hl (by decide) rfl (fun ls hl => ?_)
          refine lv_lload hx hb dX8_bestRow_146 (lv_at hl 0 rfl) ?_
          refine lv_aload_n hx hb dX8_bestRow_148 rfl (lv_at hl 1 rfl) ?_
          refine m_get (v := .long ll0_12) hx hb hts hown hK hP 40 (by decide) rfl kX8_289 rfl dX8_bestRow_149 ?_
          refine W.lcmp hx hb dX8_bestRow_152 ?_
          refine lv_if_ge (tgt := 160) hx hb dX8_bestRow_153 (by decide) (fun c_26 => ?_) (fun c_26 => ?_)
          · refine lv_iload_n hx hb dX8_bestRow_160 rfl (lv_at hl 3 rfl) ?_
            refine lv_istore_n (lv' := [(2, .int x2_12), (5, .long (m_lost (va_up (va_up (va_up RA 36 a36_32) 37 a37_32) 39 a39_32) (va_up RS 38 r_21.2.2.2) RN)), (0, .ref (ad 0)), (1, .int (nI v1)), (3, .int (nI i_12)), (4, .int x4_32)]) hx hb dX8_bestRow_161 rfl hl (by decide) rfl (fun ls hl => ?_)
            refine lv_aload_n hx hb dX8_bestRow_162 rfl (lv_at hl 2 rfl) ?_
            refine lv_lload hx hb dX8_bestRow_163 (lv_at hl 1 rfl) ?_
            refine lv_aload_n hx hb dX8_bestRow_165 rfl (lv_at hl 2 rfl) ?_
            refine m_get (v := .long ll0_12) hx hb hts hown hK hP 40 (by decide) rfl kX8_289 rfl dX8_bestRow_166 ?_
            refine W.lcmp hx hb dX8_bestRow_169 ?_
            refine lv_if_ge (tgt := 178) hx hb dX8_bestRow_170 (by decide) (fun _ => ?_) (fun c_27 => absurd c_26 c_27)
            refine lv_aload_n hx hb dX8_bestRow_178 rfl (lv_at hl 2 rfl) ?_
            refine m_get (v := .long ll0_12) hx hb hts hown hK hP 40 (by decide) rfl kX8_289 rfl dX8_bestRow_179 ?_
            refine m_put (RS' := (va_up RS 38 r_21.2.2.2)) (RN' := RN) (RL' := ll0_12) (ty := .long) hx hb hts hown hI hK hP hS 40 (by decide) rfl kX8_289 rfl (by decide +kernel) rfl rfl rfl dX8_bestRow_182 (fun H locs hP hS => ?_)
            refine lv_iinc (v := (nI (i_12 + 1))) (lv' := [(3, .int (nI (i_12 + 1))), (2, .int x2_12), (5, .long (m_lost (va_up (va_up (va_up RA 36 a36_32) 37 a37_32) 39 a39_32) (va_up RS 38 r_21.2.2.2) RN)), (0, .ref (ad 0)), (1, .int (nI v1)), (4, .int x4_32)]) hx hb dX8_bestRow_185 hl (k := 4) rfl (nI_add _ _) (by decide) rfl (fun ls hl => ?_)
            refine lv_goto (tgt := 12) hx hb dX8_bestRow_188 (by decide) ?_
            have hb_12 : (m_bestRow_b12 RA RS RN v1 i_12 x2_12 a36_12 a37_12 a39_12 ll0_12 s38_12) = (x2_12, a36_32, a37_32, a39_32, ll0_12, r_21.2.2.2) := by subst hr_21; exact hF_32.trans (by rw [m_bestRow_b12_k32, if_neg c_22, if_pos c_26])
            have hL_12 : (m_bestRow_L12 RA RS RN v1 (n_12 + 1) i_12 x2_12 a36_12 a37_12 a39_12 ll0_12 s38_12) = (m_bestRow_L12 RA RS RN v1 n_12 (i_12 + 1) x2_12 a36_32 a37_32 a39_32 ll0_12 r_21.2.2.2) := by rw [m_bestRow_L12.eq_2, hb_12]
            try rw [hL_12] at hk_12
            exact ih_12 (i_12 + 1) x2_12 a36_32 a37_32 a39_32 ll0_12 r_21.2.2.2 (by omega) _ _ _ hP hS (lv_sub hl [3, 4, 1, 0] rfl)  hk_12
          · refine lv_iload_n hx hb dX8_bestRow_156 rfl (lv_at hl 4 rfl) ?_
            refine lv_goto (tgt := 161) hx hb dX8_bestRow_157 (by decide) ?_
            refine lv_istore_n (lv' := [(2, .int (nI i_12)), (5, .long (m_lost (va_up (va_up (va_up RA 36 a36_32) 37 a37_32) 39 a39_32) (va_up RS 38 r_21.2.2.2) RN)), (0, .ref (ad 0)), (1, .int (nI v1)), (3, .int (nI i_12)), (4, .int x4_32)]) hx hb dX8_bestRow_161 rfl hl (by decide) rfl (fun ls hl => ?_)
            refine lv_aload_n hx hb dX8_bestRow_162 rfl (lv_at hl 2 rfl) ?_
            refine lv_lload hx hb dX8_bestRow_163 (lv_at hl 1 rfl) ?_
            refine lv_aload_n hx hb dX8_bestRow_165 rfl (lv_at hl 2 rfl) ?_
            refine m_get (v := .long ll0_12) hx hb hts hown hK hP 40 (by decide) rfl kX8_289 rfl dX8_bestRow_166 ?_
            refine W.lcmp hx hb dX8_bestRow_169 ?_
            refine lv_if_ge (tgt := 178) hx hb dX8_bestRow_170 (by decide) (fun c_28 => absurd c_28 c_26) (fun _ => ?_)
            refine lv_lload hx hb dX8_bestRow_173 (lv_at hl 1 rfl) ?_
            refine lv_goto (tgt := 182) hx hb dX8_bestRow_175 (by decide) ?_
            refine m_put (RS' := (va_up RS 38 r_21.2.2.2)) (RN' := RN) (RL' := (m_lost (va_up (va_up (va_up RA 36 a36_32) 37 a37_32) 39 a39_32) (va_up RS 38 r_21.2.2.2) RN)) (ty := .long) hx hb hts hown hI hK hP hS 40 (by decide) rfl kX8_289 rfl (by decide +kernel) rfl rfl rfl dX8_bestRow_182 (fun H locs hP hS => ?_)
            refine lv_iinc (v := (nI (i_12 + 1))) (lv' := [(3, .int (nI (i_12 + 1))), (2, .int (nI i_12)), (5, .long (m_lost (va_up (va_up (va_up RA 36 a36_32) 37 a37_32) 39 a39_32) (va_up RS 38 r_21.2.2.2) RN)), (0, .ref (ad 0)), (1, .int (nI v1)), (4, .int x4_32)]) hx hb dX8_bestRow_185 hl (k := 4) rfl (nI_add _ _) (by decide) rfl (fun ls hl => ?_)
            refine lv_goto (tgt := 12) hx hb dX8_bestRow_188 (by decide) ?_
            have hb_12 : (m_bestRow_b12 RA RS RN v1 i_12 x2_12 a36_12 a37_12 a39_12 ll0_12 s38_12) = ((nI i_12), a36_32, a37_32, a39_32, (m_lost (va_up (va_up (va_up RA 36 a36_32) 37 a37_32) 39 a39_32) (va_up RS 38 r_21.2.2.2) RN), r_21.2.2.2) := by subst hr_21; exact hF_32.trans (by rw [m_bestRow_b12_k32, if_neg c_22, if_neg c_26])
            have hL_12 : (m_bestRow_L12 RA RS RN v1 (n_12 + 1) i_12 x2_12 a36_12 a37_12 a39_12 ll0_12 s38_12) = (m_bestRow_L12 RA RS RN v1 n_12 (i_12 + 1) (nI i_12) a36_32 a37_32 a39_32 (m_lost (va_up (va_up (va_up RA 36 a36_32) 37 a37_32) 39 a39_32) (va_up RS 38 r_21.2.2.2) RN) r_21.2.2.2) := by rw [m_bestRow_L12.eq_2, hb_12]
            try rw [hL_12] at hk_12
            exact ih_12 (i_12 + 1) (nI i_12) a36_32 a37_32 a39_32 (m_lost (va_up (va_up (va_up RA 36 a36_32) 37 a37_32) 39 a39_32) (va_up RS 38 r_21.2.2.2) RN) r_21.2.2.2 (by omega) _ _ _ hP hS (lv_sub hl [3, 4, 1, 0] rfl)  hk_12
      have loop_32 : ∀ (n_32 i_32 : Nat) (x4_32 : Int32) (a36_32 : Nat → Int32) (a37_32 : Nat → Int32) (a39_32 : Nat → Int32), i_32 + n_32 = v1 → ∀ (H : Heap) (locs : List Loc) (ls : Array Slot), va_P (dC, dI) vwCl (RWs cI ad (va_up (va_up (va_up RA 36 a36_32) 37 a37_32) 39 a39_32) (va_up RS 38 r_21.2.2.2) RN ll0_12) H → va_S (kAA ad 24) s.heap H locs → lv_has ls 7 [(0, .ref (ad 0)), (1, .int (nI v1)), (2, .int x2_12), (3, .int (nI i_12)), (4, .int x4_32), (5, .int (nI i_32))] → (∀ (H : Heap) (locs : List Loc) (ls : Array Slot), va_P (dC, dI) vwCl (RWs cI ad (va_up (va_up (va_up RA 36 ((m_bestRow_L32 RA RS RN r_21.2.2.2 v1 i_12 n_32 i_32 x4_32 a36_32 a37_32 a39_32).2.1)) 37 ((m_bestRow_L32 RA RS RN r_21.2.2.2 v1 i_12 n_32 i_32 x4_32 a36_32 a37_32 a39_32).2.2.1)) 39 ((m_bestRow_L32 RA RS RN r_21.2.2.2 v1 i_12 n_32 i_32 x4_32 a36_32 a37_32 a39_32).2.2.2)) (va_up RS 38 r_21.2.2.2) RN ll0_12) H → va_S (kAA ad 24) s.heap H locs → lv_has ls 7 [(0, .ref (ad 0)), (1, .int (nI v1)), (2, .int x2_12), (3, .int (nI i_12)), (4, .int ((m_bestRow_L32 RA RS RN r_21.2.2.2 v1 i_12 n_32 i_32 x4_32 a36_32 a37_32 a39_32).1))] → W p l e ({ frames := 6, cells := 0, slots := 0, locals := 141 } : Room) s m args below meth c H locs 0 0 (MQ below (kQ (some (.int ((m_bestRow RA RS RN v1).1))) (kB (dC, dI) [(cI, .int)] (RWs cI ad (va_up (va_up (va_up RA 36 ((m_bestRow RA RS RN v1).2.1)) 37 ((m_bestRow RA RS RN v1).2.2.1)) 39 ((m_bestRow RA RS RN v1).2.2.2.1)) (va_up RS 38 ((m_bestRow RA RS RN v1).2.2.2.2.2)) RN (m_bestRow RA RS RN v1).2.2.2.2.1)) (kAA ad 24)) args s 0 0 (kAA ad 24)) (F0 m 129 ls [])) → W p l e ({ frames := 6, cells := 0, slots := 0, locals := 141 } : Room) s m args below meth c H locs 0 0 (MQ below (kQ (some (.int ((m_bestRow RA RS RN v1).1))) (kB (dC, dI) [(cI, .int)] (RWs cI ad (va_up (va_up (va_up RA 36 ((m_bestRow RA RS RN v1).2.1)) 37 ((m_bestRow RA RS RN v1).2.2.1)) 39 ((m_bestRow RA RS RN v1).2.2.2.1)) (va_up RS 38 ((m_bestRow RA RS RN v1).2.2.2.2.2)) RN (m_bestRow RA RS RN v1).2.2.2.2.1)) (kAA ad 24)) args s 0 0 (kAA ad 24)) (F0 m 32 ls []) := by
        intro n_32
        induction n_32 with
        | zero =>
          intro i_32 x4_32 a36_32 a37_32 a39_32 hin_32 H locs ls hP hS hl  hk_32
          refine lv_iload hx hb dX8_bestRow_32 (lv_at hl 5 rfl) ?_
          refine lv_iload_n hx hb dX8_bestRow_34 rfl (lv_at hl 1 rfl) ?_
          refine lv_icmp_ge (tgt := 129) hx hb dX8_bestRow_35 (by decide) (fun _ => ?_) (fun c_29 => absurd (kct_ge (N := v1) (nI_clamp (by omega)) (by omega) (by omega)) c_29)
          have hL_32 : (m_bestRow_L32 RA RS RN r_21.2.2.2 v1 i_12 0 i_32 x4_32 a36_32 a37_32 a39_32) = (x4_32, a36_32, a37_32, a39_32) := by subst hr_21; rw [m_bestRow_L32.eq_1]
          try rw [hL_32] at hk_32
          exact hk_32 _ _ _ hP hS (lv_sub hl [0, 1, 2, 3, 4] rfl) 
        | succ n_32 ih_32 =>
          intro i_32 x4_32 a36_32 a37_32 a39_32 hin_32 H locs ls hP hS hl  hk_32
          refine lv_iload hx hb dX8_bestRow_32 (lv_at hl 5 rfl) ?_
          refine lv_iload_n hx hb dX8_bestRow_34 rfl (lv_at hl 1 rfl) ?_
          refine lv_icmp_ge (tgt := 129) hx hb dX8_bestRow_35 (by decide) (fun c_30 => absurd c_30 (kct_lt (N := v1) (nI_clamp (by omega)) (by omega))) (fun _ => ?_)
          refine lv_iload_n hx hb dX8_bestRow_38 rfl (lv_at hl 3 rfl) ?_
          refine lv_bipush (v := 17) hx hb dX8_bestRow_39 (by decide) ?_
          refine lv_iload_n hx hb dX8_bestRow_41 rfl (lv_at hl 1 rfl) ?_
          refine lv_iconst (v := 1) hx hb dX8_bestRow_42 (by decide) ?_
          refine lv_isub hx hb dX8_bestRow_43 ?_
          refine kn_top (x' := (nI (v1 - 1))) (pk_sub (a := v1) (b := 1) (by omega)) ?_
          refine lv_iload hx hb dX8_bestRow_44 (lv_at hl 5 rfl) ?_
          refine lv_isub hx hb dX8_bestRow_46 ?_
          refine kn_top (x' := (nI (v1 - 1 - i_32))) (pk_sub (a := v1 - 1) (b := i_32) (by omega)) ?_
          refine k_rS (v := .int (nI (m_power 17 (v1 - 1 - i_32)))) (As := [.int 17, .int (nI (v1 - 1 - i_32))]) (rest := [.int (nI i_12)]) hx hb hml hown hts hl.1 (B := fun _ => True) (fun _ _ _ _ q => q) (fun _ _ _ => trivial) (c_m_power 17 (v1 - 1 - i_32) (by omega)) eX8_284 rfl rfl (Nat.le_of_ble_eq_true rfl) ⟨Nat.le_of_ble_eq_true rfl, Nat.le_of_ble_eq_true rfl⟩ ⟨rfl, rfl⟩ ⟨Nat.le_of_ble_eq_true rfl, Nat.le_of_ble_eq_true rfl⟩ dX8_bestRow_47 ?_
          refine lv_idiv hx hb dX8_bestRow_50 (m_power_ne 17 (by omega) (m_power_lt17 (by omega))) ?_
          refine kn_top (x' := (nI (i_12 / m_power 17 (v1 - 1 - i_32)))) (pk_div (a := i_12) (d := m_power 17 (v1 - 1 - i_32)) (by omega) (m_power_pos 17 (by omega) _) (m_power_lt17 (by omega))) ?_
          refine lv_bipush (v := 17) hx hb dX8_bestRow_51 (by decide) ?_
          refine lv_irem hx hb dX8_bestRow_53 (by decide) ?_
          refine kn_top (x' := (nI ((i_12 / m_power 17 (v1 - 1 - i_32)) % 17))) (pk_rem (a := i_12 / m_power 17 (v1 - 1 - i_32)) (d := 17) (Nat.lt_of_le_of_lt (Nat.div_le_self _ _) (by omega)) (by omega) (by omega)) ?_
          refine lv_istore (lv' := [(6, .int (nI ((i_12 / m_power 17 (v1 - 1 - i_32)) % 17))), (0, .ref (ad 0)), (1, .int (nI v1)), (2, .int x2_12), (3, .int (nI i_12)), (4, .int x4_32), (5, .int (nI i_32))]) hx hb dX8_bestRow_54 hl (by decide) rfl (fun ls hl => ?_)
          refine lv_iload hx hb dX8_bestRow_56 (lv_at hl 5 rfl) ?_
          refine lv_if_eq (tgt := 97) hx hb dX8_bestRow_58 (by decide) (fun c_31 => ?_) (fun c_31 => ?_)
          · refine lv_iconst (v := 0) hx hb dX8_bestRow_97 (by decide) ?_
            refine lv_istore (lv' := [(4, .int 0), (6, .int (nI ((i_12 / m_power 17 (v1 - 1 - i_32)) % 17))), (0, .ref (ad 0)), (1, .int (nI v1)), (2, .int x2_12), (3, .int (nI i_12)), (5, .int (nI i_32))]) hx hb dX8_bestRow_98 hl (by decide) rfl (fun ls hl => ?_)
            refine lv_iload hx hb dX8_bestRow_100 (lv_at hl 0 rfl) ?_
            refine lv_if_eq (tgt := 123) hx hb dX8_bestRow_102 (by decide) (fun _ => ?_) (fun c_32 => absurd (by decide) c_32)
            refine lv_iinc (v := (nI (i_32 + 1))) (lv' := [(5, .int (nI (i_32 + 1))), (4, .int 0), (6, .int (nI ((i_12 / m_power 17 (v1 - 1 - i_32)) % 17))), (0, .ref (ad 0)), (1, .int (nI v1)), (2, .int x2_12), (3, .int (nI i_12))]) hx hb dX8_bestRow_123 hl (k := 6) rfl (nI_add _ _) (by decide) rfl (fun ls hl => ?_)
            refine lv_goto (tgt := 32) hx hb dX8_bestRow_126 (by decide) ?_
            have hL_32 : (m_bestRow_L32 RA RS RN r_21.2.2.2 v1 i_12 (n_32 + 1) i_32 x4_32 a36_32 a37_32 a39_32) = (m_bestRow_L32 RA RS RN r_21.2.2.2 v1 i_12 n_32 (i_32 + 1) 0 a36_32 a37_32 a39_32) := by subst hr_21; rw [m_bestRow_L32.eq_2, if_pos c_31]
            try rw [hL_32] at hk_32
            exact ih_32 (i_32 + 1) 0 a36_32 a37_32 a39_32 (by omega) _ _ _ hP hS (lv_sub hl [3, 4, 5, 6, 1, 0] rfl)  hk_32
          · refine lv_iload hx hb dX8_bestRow_61 (lv_at hl 0 rfl) ?_
            refine lv_bipush (v := 16) hx hb dX8_bestRow_63 (by decide) ?_
            refine lv_icmp_eq (tgt := 93) hx hb dX8_bestRow_65 (by decide) (fun c_33 => ?_) (fun c_33 => ?_)
            · refine lv_iconst (v := 1) hx hb dX8_bestRow_93 (by decide) ?_
              refine lv_goto (tgt := 98) hx hb dX8_bestRow_94 (by decide) ?_
              refine lv_istore (lv' := [(4, .int 1), (6, .int (nI ((i_12 / m_power 17 (v1 - 1 - i_32)) % 17))), (0, .ref (ad 0)), (1, .int (nI v1)), (2, .int x2_12), (3, .int (nI i_12)), (5, .int (nI i_32))]) hx hb dX8_bestRow_98 hl (by decide) rfl (fun ls hl => ?_)
              refine lv_iload hx hb dX8_bestRow_100 (lv_at hl 0 rfl) ?_
              refine lv_if_eq (tgt := 123) hx hb dX8_bestRow_102 (by decide) (fun c_34 => absurd c_34 (by decide)) (fun _ => ?_)
              refine lv_aload_n hx hb dX8_bestRow_105 rfl (lv_at hl 2 rfl) ?_
              refine lv_iconst (v := 0) hx hb dX8_bestRow_106 (by decide) ?_
              refine lv_aload_n hx hb dX8_bestRow_107 rfl (lv_at hl 2 rfl) ?_
              refine m_get (v := .ref (ad 18)) hx hb hts hown hK hP 31 (by decide) rfl kX8_61 rfl dX8_bestRow_108 ?_
              refine lv_iload hx hb dX8_bestRow_111 (lv_at hl 6 rfl) ?_
              refine kn_iald (f := (RA 31)) (v := (RA 31 i_32)) hx hb hK hP 18 rfl i_32 rfl (by omega) (by omega) rfl dX8_bestRow_113 ?_
              refine kn_top (x' := (nI ((RA 31 i_32).toNatClampNeg))) (kNat (mI_row0 hM i_32 (by omega))) ?_
              refine lv_aload_n hx hb dX8_bestRow_114 rfl (lv_at hl 2 rfl) ?_
              refine m_get (v := .int (RS 15)) hx hb hts hown hK hP 15 (by decide) rfl kX8_142 rfl dX8_bestRow_115 ?_
              refine lv_iload hx hb dX8_bestRow_118 (lv_at hl 1 rfl) ?_
              refine k_wV (r := none) (As := [.int 0, .int (nI ((RA 31 i_32).toNatClampNeg)), .int (RS 15), .int (nI ((i_12 / m_power 17 (v1 - 1 - i_32)) % 17))]) (rest := []) hx hb hml hown hts hl.1 hP hK hN hS (c_m_goHour hI 0 ((RA 31 i_32).toNatClampNeg) (RS 15) (nI ((i_12 / m_power 17 (v1 - 1 - i_32)) % 17)) hM (mI_row hM i_32 (by omega)) (by rw [nI_toInt (by omega)]; omega)) eX8_268 (ci := 7) (q0 := 0) rfl rfl rfl rfl rfl (Nat.le_of_ble_eq_true rfl) ⟨Nat.le_of_ble_eq_true rfl, Nat.le_of_ble_eq_true rfl⟩ ⟨rfl, rfl⟩ ⟨Nat.le_of_ble_eq_true rfl, Nat.le_of_ble_eq_true rfl⟩ dX8_bestRow_120 (fun H locs hP hS => ?_)
              obtain ⟨r_35, hr_35⟩ : ∃ z, z = (m_goHour (va_up (va_up (va_up RA 36 a36_32) 37 a37_32) 39 a39_32) (va_up RS 38 r_21.2.2.2) RN 0 ((RA 31 i_32).toNatClampNeg) (RS 15) (nI ((i_12 / m_power 17 (v1 - 1 - i_32)) % 17))) := ⟨_, rfl⟩
              rw [← hr_35] at hP
              have hP : va_P (dC, dI) vwCl (RWs cI ad (va_up (va_up (va_up RA 36 r_35.1) 37 r_35.2.1) 39 r_35.2.2) (va_up RS 38 r_21.2.2.2) RN ll0_12) H := (RWs_conv rfl rfl rfl rfl rfl rfl rfl rfl rfl rfl rfl rfl rfl rfl rfl rfl rfl rfl rfl rfl rfl rfl rfl rfl rfl rfl rfl rfl rfl rfl rfl rfl rfl rfl rfl rfl rfl rfl rfl rfl rfl hP)
              refine lv_iinc (v := (nI (i_32 + 1))) (lv' := [(5, .int (nI (i_32 + 1))), (4, .int 1), (6, .int (nI ((i_12 / m_power 17 (v1 - 1 - i_32)) % 17))), (0, .ref (ad 0)), (1, .int (nI v1)), (2, .int x2_12), (3, .int (nI i_12))]) hx hb dX8_bestRow_123 hl (k := 6) rfl (nI_add _ _) (by decide) rfl (fun ls hl => ?_)
              refine lv_goto (tgt := 32) hx hb dX8_bestRow_126 (by decide) ?_
              have hL_32 : (m_bestRow_L32 RA RS RN r_21.2.2.2 v1 i_12 (n_32 + 1) i_32 x4_32 a36_32 a37_32 a39_32) = (m_bestRow_L32 RA RS RN r_21.2.2.2 v1 i_12 n_32 (i_32 + 1) 1 r_35.1 r_35.2.1 r_35.2.2) := by subst hr_35; subst hr_21; rw [m_bestRow_L32.eq_2, if_neg c_31, if_pos c_33]
              try rw [hL_32] at hk_32
              exact ih_32 (i_32 + 1) 1 r_35.1 r_35.2.1 r_35.2.2 (by omega) _ _ _ hP hS (lv_sub hl [3, 4, 5, 6, 1, 0] rfl)  hk_32
            · refine lv_iload hx hb dX8_bestRow_68 (lv_at hl 0 rfl) ?_
              refine lv_iconst (v := 2) hx hb dX8_bestRow_70 (by decide) ?_
              refine lv_idiv hx hb dX8_bestRow_71 (by decide) ?_
              refine kn_top (x' := (nI (((i_12 / m_power 17 (v1 - 1 - i_32)) % 17) / 2))) (pk_div (a := (i_12 / m_power 17 (v1 - 1 - i_32)) % 17) (d := 2) (by omega) (by omega) (by omega)) ?_
              refine lv_aload_n hx hb dX8_bestRow_72 rfl (lv_at hl 1 rfl) ?_
              refine m_get (v := .int (nI (RN 4))) hx hb hts hown hK hP 4 (by decide) rfl kX8_82 rfl dX8_bestRow_73 ?_
              refine lv_icmp_ge (tgt := 97) hx hb dX8_bestRow_76 (by decide) (fun c_36 => ?_) (fun c_36 => ?_)
              · refine lv_iconst (v := 0) hx hb dX8_bestRow_97 (by decide) ?_
                refine lv_istore (lv' := [(4, .int 0), (6, .int (nI ((i_12 / m_power 17 (v1 - 1 - i_32)) % 17))), (0, .ref (ad 0)), (1, .int (nI v1)), (2, .int x2_12), (3, .int (nI i_12)), (5, .int (nI i_32))]) hx hb dX8_bestRow_98 hl (by decide) rfl (fun ls hl => ?_)
                refine lv_iload hx hb dX8_bestRow_100 (lv_at hl 0 rfl) ?_
                refine lv_if_eq (tgt := 123) hx hb dX8_bestRow_102 (by decide) (fun _ => ?_) (fun c_37 => absurd (by decide) c_37)
                refine lv_iinc (v := (nI (i_32 + 1))) (lv' := [(5, .int (nI (i_32 + 1))), (4, .int 0), (6, .int (nI ((i_12 / m_power 17 (v1 - 1 - i_32)) % 17))), (0, .ref (ad 0)), (1, .int (nI v1)), (2, .int x2_12), (3, .int (nI i_12))]) hx hb dX8_bestRow_123 hl (k := 6) rfl (nI_add _ _) (by decide) rfl (fun ls hl => ?_)
                refine lv_goto (tgt := 32) hx hb dX8_bestRow_126 (by decide) ?_
                have hL_32 : (m_bestRow_L32 RA RS RN r_21.2.2.2 v1 i_12 (n_32 + 1) i_32 x4_32 a36_32 a37_32 a39_32) = (m_bestRow_L32 RA RS RN r_21.2.2.2 v1 i_12 n_32 (i_32 + 1) 0 a36_32 a37_32 a39_32) := by subst hr_21; rw [m_bestRow_L32.eq_2, if_neg c_31, if_neg c_33, if_pos c_36]
                try rw [hL_32] at hk_32
                exact ih_32 (i_32 + 1) 0 a36_32 a37_32 a39_32 (by omega) _ _ _ hP hS (lv_sub hl [3, 4, 5, 6, 1, 0] rfl)  hk_32
              · refine lv_aload_n hx hb dX8_bestRow_79 rfl (lv_at hl 1 rfl) ?_
                refine m_get (v := .int (RS 26)) hx hb hts hown hK hP 26 (by decide) rfl kX8_163 rfl dX8_bestRow_80 ?_
                refine lv_iload hx hb dX8_bestRow_83 (lv_at hl 0 rfl) ?_
                refine lv_iconst (v := 2) hx hb dX8_bestRow_85 (by decide) ?_
                refine lv_idiv hx hb dX8_bestRow_86 (by decide) ?_
                refine kn_top (x' := (nI (((i_12 / m_power 17 (v1 - 1 - i_32)) % 17) / 2))) (pk_div (a := (i_12 / m_power 17 (v1 - 1 - i_32)) % 17) (d := 2) (by omega) (by omega) (by omega)) ?_
                refine k_rS (v := .int (m_has (RS 26) (nI (((i_12 / m_power 17 (v1 - 1 - i_32)) % 17) / 2)))) (As := [.int (RS 26), .int (nI (((i_12 / m_power 17 (v1 - 1 - i_32)) % 17) / 2))]) (rest := []) hx hb hml hown hts hl.1 (B := fun _ => True) (fun _ _ _ _ q => q) (fun _ _ _ => trivial) (c_m_has (RS 26) (nI (((i_12 / m_power 17 (v1 - 1 - i_32)) % 17) / 2))) eX8_204 rfl rfl (Nat.le_of_ble_eq_true rfl) ⟨Nat.le_of_ble_eq_true rfl, Nat.le_of_ble_eq_true rfl⟩ ⟨rfl, rfl⟩ ⟨Nat.le_of_ble_eq_true rfl, Nat.le_of_ble_eq_true rfl⟩ dX8_bestRow_87 ?_
                refine lv_if_eq (tgt := 97) hx hb dX8_bestRow_90 (by decide) (fun c_38 => ?_) (fun c_38 => ?_)
                · refine lv_iconst (v := 0) hx hb dX8_bestRow_97 (by decide) ?_
                  refine lv_istore (lv' := [(4, .int 0), (6, .int (nI ((i_12 / m_power 17 (v1 - 1 - i_32)) % 17))), (0, .ref (ad 0)), (1, .int (nI v1)), (2, .int x2_12), (3, .int (nI i_12)), (5, .int (nI i_32))]) hx hb dX8_bestRow_98 hl (by decide) rfl (fun ls hl => ?_)
                  refine lv_iload hx hb dX8_bestRow_100 (lv_at hl 0 rfl) ?_
                  refine lv_if_eq (tgt := 123) hx hb dX8_bestRow_102 (by decide) (fun _ => ?_) (fun c_39 => absurd (by decide) c_39)
                  refine lv_iinc (v := (nI (i_32 + 1))) (lv' := [(5, .int (nI (i_32 + 1))), (4, .int 0), (6, .int (nI ((i_12 / m_power 17 (v1 - 1 - i_32)) % 17))), (0, .ref (ad 0)), (1, .int (nI v1)), (2, .int x2_12), (3, .int (nI i_12))]) hx hb dX8_bestRow_123 hl (k := 6) rfl (nI_add _ _) (by decide) rfl (fun ls hl => ?_)
                  refine lv_goto (tgt := 32) hx hb dX8_bestRow_126 (by decide) ?_
                  have hL_32 : (m_bestRow_L32 RA RS RN r_21.2.2.2 v1 i_12 (n_32 + 1) i_32 x4_32 a36_32 a37_32 a39_32) = (m_bestRow_L32 RA RS RN r_21.2.2.2 v1 i_12 n_32 (i_32 + 1) 0 a36_32 a37_32 a39_32) := by subst hr_21; rw [m_bestRow_L32.eq_2, if_neg c_31, if_neg c_33, if_neg c_36, if_pos c_38]
                  try rw [hL_32] at hk_32
                  exact ih_32 (i_32 + 1) 0 a36_32 a37_32 a39_32 (by omega) _ _ _ hP hS (lv_sub hl [3, 4, 5, 6, 1, 0] rfl)  hk_32
                · refine lv_iconst (v := 1) hx hb dX8_bestRow_93 (by decide) ?_
                  refine lv_goto (tgt := 98) hx hb dX8_bestRow_94 (by decide) ?_
                  refine lv_istore (lv' := [(4, .int 1), (6, .int (nI ((i_12 / m_power 17 (v1 - 1 - i_32)) % 17))), (0, .ref (ad 0)), (1, .int (nI v1)), (2, .int x2_12), (3, .int (nI i_12)), (5, .int (nI i_32))]) hx hb dX8_bestRow_98 hl (by decide) rfl (fun ls hl => ?_)
                  refine lv_iload hx hb dX8_bestRow_100 (lv_at hl 0 rfl) ?_
                  refine lv_if_eq (tgt := 123) hx hb dX8_bestRow_102 (by decide) (fun c_40 => absurd c_40 (by decide)) (fun _ => ?_)
                  refine lv_aload_n hx hb dX8_bestRow_105 rfl (lv_at hl 2 rfl) ?_
                  refine lv_iconst (v := 0) hx hb dX8_bestRow_106 (by decide) ?_
                  refine lv_aload_n hx hb dX8_bestRow_107 rfl (lv_at hl 2 rfl) ?_
                  refine m_get (v := .ref (ad 18)) hx hb hts hown hK hP 31 (by decide) rfl kX8_61 rfl dX8_bestRow_108 ?_
                  refine lv_iload hx hb dX8_bestRow_111 (lv_at hl 6 rfl) ?_
                  refine kn_iald (f := (RA 31)) (v := (RA 31 i_32)) hx hb hK hP 18 rfl i_32 rfl (by omega) (by omega) rfl dX8_bestRow_113 ?_
                  refine kn_top (x' := (nI ((RA 31 i_32).toNatClampNeg))) (kNat (mI_row0 hM i_32 (by omega))) ?_
                  refine lv_aload_n hx hb dX8_bestRow_114 rfl (lv_at hl 2 rfl) ?_
                  refine m_get (v := .int (RS 15)) hx hb hts hown hK hP 15 (by decide) rfl kX8_142 rfl dX8_bestRow_115 ?_
                  refine lv_iload hx hb dX8_bestRow_118 (lv_at hl 1 rfl) ?_
                  refine k_wV (r := none) (As := [.int 0, .int (nI ((RA 31 i_32).toNatClampNeg)), .int (RS 15), .int (nI ((i_12 / m_power 17 (v1 - 1 - i_32)) % 17))]) (rest := []) hx hb hml hown hts hl.1 hP hK hN hS (c_m_goHour hI 0 ((RA 31 i_32).toNatClampNeg) (RS 15) (nI ((i_12 / m_power 17 (v1 - 1 - i_32)) % 17)) hM (mI_row hM i_32 (by omega)) (by rw [nI_toInt (by omega)]; omega)) eX8_268 (ci := 7) (q0 := 0) rfl rfl rfl rfl rfl (Nat.le_of_ble_eq_true rfl) ⟨Nat.le_of_ble_eq_true rfl, Nat.le_of_ble_eq_true rfl⟩ ⟨rfl, rfl⟩ ⟨Nat.le_of_ble_eq_true rfl, Nat.le_of_ble_eq_true rfl⟩ dX8_bestRow_120 (fun H locs hP hS => ?_)
                  obtain ⟨r_41, hr_41⟩ : ∃ z, z = (m_goHour (va_up (va_up (va_up RA 36 a36_32) 37 a37_32) 39 a39_32) (va_up RS 38 r_21.2.2.2) RN 0 ((RA 31 i_32).toNatClampNeg) (RS 15) (nI ((i_12 / m_power 17 (v1 - 1 - i_32)) % 17))) := ⟨_, rfl⟩
                  rw [← hr_41] at hP
                  have hP : va_P (dC, dI) vwCl (RWs cI ad (va_up (va_up (va_up RA 36 r_41.1) 37 r_41.2.1) 39 r_41.2.2) (va_up RS 38 r_21.2.2.2) RN ll0_12) H := (RWs_conv rfl rfl rfl rfl rfl rfl rfl rfl rfl rfl rfl rfl rfl rfl rfl rfl rfl rfl rfl rfl rfl rfl rfl rfl rfl rfl rfl rfl rfl rfl rfl rfl rfl rfl rfl rfl rfl rfl rfl rfl rfl hP)
                  refine lv_iinc (v := (nI (i_32 + 1))) (lv' := [(5, .int (nI (i_32 + 1))), (4, .int 1), (6, .int (nI ((i_12 / m_power 17 (v1 - 1 - i_32)) % 17))), (0, .ref (ad 0)), (1, .int (nI v1)), (2, .int x2_12), (3, .int (nI i_12))]) hx hb dX8_bestRow_123 hl (k := 6) rfl (nI_add _ _) (by decide) rfl (fun ls hl => ?_)
                  refine lv_goto (tgt := 32) hx hb dX8_bestRow_126 (by decide) ?_
                  have hL_32 : (m_bestRow_L32 RA RS RN r_21.2.2.2 v1 i_12 (n_32 + 1) i_32 x4_32 a36_32 a37_32 a39_32) = (m_bestRow_L32 RA RS RN r_21.2.2.2 v1 i_12 n_32 (i_32 + 1) 1 r_41.1 r_41.2.1 r_41.2.2) := by subst hr_41; subst hr_21; rw [m_bestRow_L32.eq_2, if_neg c_31, if_neg c_33, if_neg c_36, if_neg c_38]
                  try rw [hL_32] at hk_32
                  exact ih_32 (i_32 + 1) 1 r_41.1 r_41.2.1 r_41.2.2 (by omega) _ _ _ hP hS (lv_sub hl [3, 4, 5, 6, 1, 0] rfl)  hk_32
      exact loop_32 v1 0 1 r_21.1 r_21.2.1 r_21.2.2.1 (by omega) _ _ _ hP hS (lv_sub hl [2, 3, 4, 5, 1, 0] rfl)  (fun H locs ls hP hS hl  => rest_32 (m_bestRow_L32 RA RS RN r_21.2.2.2 v1 i_12 v1 0 1 r_21.1 r_21.2.1 r_21.2.2.1).1 (m_bestRow_L32 RA RS RN r_21.2.2.2 v1 i_12 v1 0 1 r_21.1 r_21.2.1 r_21.2.2.1).2.1 (m_bestRow_L32 RA RS RN r_21.2.2.2 v1 i_12 v1 0 1 r_21.1 r_21.2.1 r_21.2.2.1).2.2.1 (m_bestRow_L32 RA RS RN r_21.2.2.2 v1 i_12 v1 0 1 r_21.1 r_21.2.1 r_21.2.2.1).2.2.2 _ _ _ hP hS hl  (by subst hr_21; rw [m_bestRow_b12]))
  have hP : va_P (dC, dI) vwCl (RWs cI ad (va_up (va_up (va_up RA 36 (RA 36)) 37 (RA 37)) 39 (RA 39)) (va_up RS 38 (RS 38)) RN 1152921504606846976) H := (RWs_conv rfl rfl rfl rfl rfl rfl rfl rfl rfl rfl rfl rfl rfl rfl rfl rfl rfl rfl rfl rfl rfl rfl rfl rfl rfl rfl rfl rfl rfl rfl rfl rfl rfl rfl rfl rfl rfl rfl rfl rfl rfl hP)
  exact loop_12 (m_power 17 v1) 0 (-4) (RA 36) (RA 37) (RA 39) 1152921504606846976 (RS 38) (by omega) _ _ _ hP hS (lv_sub hl [2, 3, 1, 0] rfl)  (fun H locs ls hP hS hl  => rest_12 (m_bestRow_L12 RA RS RN v1 (m_power 17 v1) 0 (-4) (RA 36) (RA 37) (RA 39) 1152921504606846976 (RS 38)).1 (m_bestRow_L12 RA RS RN v1 (m_power 17 v1) 0 (-4) (RA 36) (RA 37) (RA 39) 1152921504606846976 (RS 38)).2.1 (m_bestRow_L12 RA RS RN v1 (m_power 17 v1) 0 (-4) (RA 36) (RA 37) (RA 39) 1152921504606846976 (RS 38)).2.2.1 (m_bestRow_L12 RA RS RN v1 (m_power 17 v1) 0 (-4) (RA 36) (RA 37) (RA 39) 1152921504606846976 (RS 38)).2.2.2.1 (m_bestRow_L12 RA RS RN v1 (m_power 17 v1) 0 (-4) (RA 36) (RA 37) (RA 39) 1152921504606846976 (RS 38)).2.2.2.2.1 (m_bestRow_L12 RA RS RN v1 (m_power 17 v1) 0 (-4) (RA 36) (RA 37) (RA 39) 1152921504606846976 (RS 38)).2.2.2.2.2 _ _ _ hP hS hl  (by rw [m_bestRow]))
-- X8_best
def m_best (RA : Nat → Nat → Int32) (RS : Nat → Int32) (RN : Nat → Nat) (RL : Int64) (v1 : Int32) (v2 : Int32) : Int64 × (Nat → Int32) × (Nat → Int32) × (Nat → Int32) × Int64 × Int32 := if (m_in v1.toInt64 1 3) = 0 then ((-1), (RA 36), (RA 37), (RA 39), RL, (RS 38)) else (if (m_in v2.toInt64 (-1) ((nI (v1.toNatClampNeg - 1)).toInt64)) = 0 then ((-1), (RA 36), (RA 37), (RA 39), RL, (RS 38)) else (if (nI v1.toNatClampNeg) ≤ (nI (RN 32)) then (if v2 = (-1) then (((m_bestRow RA RS RN v1.toNatClampNeg).2.2.2.2.1), (m_bestRow RA RS RN v1.toNatClampNeg).2.1, (m_bestRow RA RS RN v1.toNatClampNeg).2.2.1, (m_bestRow RA RS RN v1.toNatClampNeg).2.2.2.1, (m_bestRow RA RS RN v1.toNatClampNeg).2.2.2.2.1, (m_bestRow RA RS RN v1.toNatClampNeg).2.2.2.2.2) else ((((((m_bestRow RA RS RN v1.toNatClampNeg).1) / (nI (m_power 17 (v1.toNatClampNeg - 1 - v2.toNatClampNeg)))) - (((m_bestRow RA RS RN v1.toNatClampNeg).1) / (nI (m_power 17 (v1.toNatClampNeg - 1 - v2.toNatClampNeg)))) / 17 * 17).toInt64), (m_bestRow RA RS RN v1.toNatClampNeg).2.1, (m_bestRow RA RS RN v1.toNatClampNeg).2.2.1, (m_bestRow RA RS RN v1.toNatClampNeg).2.2.2.1, (m_bestRow RA RS RN v1.toNatClampNeg).2.2.2.2.1, (m_bestRow RA RS RN v1.toNatClampNeg).2.2.2.2.2)) else ((-2), (RA 36), (RA 37), (RA 39), RL, (RS 38))))
set_option maxHeartbeats 4000000 in
set_option maxRecDepth 100000 in
theorem c_m_best (hI : kInj ad 24) (v1 : Int32) (v2 : Int32) (hM : mI RA RS RN) (hC : mC RA RS RN) : Met l yX8_best (.code yX8_best cX8_best 4 (some .long) :: kT) ({ frames := 7, cells := 0, slots := 0, locals := 167 } : Room) (va_Pc [.ref (ad 0), .int v1, .int v2] (kB (dC, dI) [(cI, .int)] (RWs cI ad RA RS RN RL))) (kQ (some (.long ((m_best RA RS RN RL v1 v2).1))) (kB (dC, dI) [(cI, .int)] (RWs cI ad (va_up (va_up (va_up RA 36 ((m_best RA RS RN RL v1 v2).2.1)) 37 ((m_best RA RS RN RL v1 v2).2.2.1)) 39 ((m_best RA RS RN RL v1 v2).2.2.2.1)) (va_up RS 38 ((m_best RA RS RN RL v1 v2).2.2.2.2.2)) RN (m_best RA RS RN RL v1 v2).2.2.2.2.1)) (kAA ad 24)) 0 0 (kAA ad 24) := by
  refine kMet (by decide) (fun p e s m args below meth c ls hx hb hr hml hts hown hlocks hname hargs hB hl => ?_) (Nat.le_of_ble_eq_true rfl)
  obtain ⟨hP, hK, hN⟩ := hB
  have hl : lv_has ls 4 [(0, .ref (ad 0)), (1, .int v1), (2, .int v2)] := hl
  have hS : va_S (kAA ad 24) s.heap s.heap [] := va_S.rf
  refine lv_iload_n hx hb dX8_best_0 rfl (lv_at hl 1 rfl) ?_
  refine lv_i2l (v := v1.toInt64) hx hb dX8_best_1 rfl ?_
  refine lv_lconst (v := 1) hx hb dX8_best_2 (by decide) ?_
  refine lv_ldc2 (v := 3) hx hb hown (hts _ kX8_226) dX8_best_3 ?_
  refine k_rS (v := .int (m_in v1.toInt64 1 3)) (As := [.long v1.toInt64, .long 1, .long 3]) (rest := []) hx hb hml hown hts hl.1 (B := fun _ => True) (fun _ _ _ _ q => q) (fun _ _ _ => trivial) (c_m_in v1.toInt64 1 3) eX8_99 rfl rfl (Nat.le_of_ble_eq_true rfl) ⟨Nat.le_of_ble_eq_true rfl, Nat.le_of_ble_eq_true rfl⟩ ⟨rfl, rfl⟩ ⟨Nat.le_of_ble_eq_true rfl, Nat.le_of_ble_eq_true rfl⟩ dX8_best_6 ?_
  refine lv_if_eq (tgt := 27) hx hb dX8_best_9 (by decide) (fun c_5 => ?_) (fun c_5 => ?_)
  · refine lv_ldc2 (v := (-1)) hx hb hown (hts _ kX8_224) dX8_best_27 ?_
    have hE : (m_best RA RS RN RL v1 v2) = ((-1), (RA 36), (RA 37), (RA 39), RL, (RS 38)) := by rw [m_best, if_pos c_5]
    exact W.lret (v := (-1)) hx hb hr (fun t ht hW => ⟨by rw [hE], by rw [hE]; exact kB.of (ws := RWs cI ad (va_up (va_up (va_up RA 36 (RA 36)) 37 (RA 37)) 39 (RA 39)) (va_up RS 38 (RS 38)) RN RL) (RWs_conv rfl rfl rfl rfl rfl rfl rfl rfl rfl rfl rfl rfl rfl rfl rfl rfl rfl rfl rfl rfl rfl rfl rfl rfl rfl rfl rfl rfl rfl rfl rfl rfl rfl rfl rfl rfl rfl rfl rfl rfl rfl hP) hK hN ht hW, hS.F ht⟩) hS.2.2 dX8_best_30 hlocks
  · have hq1 := m_in_t c_5
    have hnat1 : v1 = (nI v1.toNatClampNeg) := kNat (Int.le_trans (by decide) hq1.1)
    have hl : lv_has ls 4 [(0, .ref (ad 0)), (1, .int (nI v1.toNatClampNeg)), (2, .int v2)] := by rw [← hnat1]; exact hl
    have hq1a : 1 ≤ v1.toNatClampNeg := kNat_ge hq1.1
    have hq1b : v1.toNatClampNeg ≤ 3 := kNat_le hq1.2
    refine lv_iload_n hx hb dX8_best_12 rfl (lv_at hl 2 rfl) ?_
    refine lv_i2l (v := v2.toInt64) hx hb dX8_best_13 rfl ?_
    refine lv_ldc2 (v := (-1)) hx hb hown (hts _ kX8_224) dX8_best_14 ?_
    refine lv_iload_n hx hb dX8_best_17 rfl (lv_at hl 1 rfl) ?_
    refine lv_iconst (v := 1) hx hb dX8_best_18 (by decide) ?_
    refine lv_isub hx hb dX8_best_19 ?_
    refine kn_top (x' := (nI (v1.toNatClampNeg - 1))) (pk_sub (a := v1.toNatClampNeg) (b := 1) (by omega)) ?_
    refine lv_i2l (v := ((nI (v1.toNatClampNeg - 1)).toInt64)) hx hb dX8_best_20 rfl ?_
    refine k_rS (v := .int (m_in v2.toInt64 (-1) ((nI (v1.toNatClampNeg - 1)).toInt64))) (As := [.long v2.toInt64, .long (-1), .long ((nI (v1.toNatClampNeg - 1)).toInt64)]) (rest := []) hx hb hml hown hts hl.1 (B := fun _ => True) (fun _ _ _ _ q => q) (fun _ _ _ => trivial) (c_m_in v2.toInt64 (-1) ((nI (v1.toNatClampNeg - 1)).toInt64)) eX8_99 rfl rfl (Nat.le_of_ble_eq_true rfl) ⟨Nat.le_of_ble_eq_true rfl, Nat.le_of_ble_eq_true rfl⟩ ⟨rfl, rfl⟩ ⟨Nat.le_of_ble_eq_true rfl, Nat.le_of_ble_eq_true rfl⟩ dX8_best_21 ?_
    refine lv_if_ne (tgt := 31) hx hb dX8_best_24 (by decide) (fun c_6 => ?_) (fun c_6 => ?_)
    · have hq2 := m_in_t c_6
      refine lv_aload_n hx hb dX8_best_31 rfl (lv_at hl 0 rfl) ?_
      refine m_get (v := .int (nI (RN 32))) hx hb hts hown hK hP 32 (by decide) rfl kX8_174 rfl dX8_best_32 ?_
      refine lv_iload_n hx hb dX8_best_35 rfl (lv_at hl 1 rfl) ?_
      refine lv_icmp_ge (tgt := 43) hx hb dX8_best_36 (by decide) (fun c_7 => ?_) (fun c_7 => ?_)
      · refine lv_aload_n hx hb dX8_best_43 rfl (lv_at hl 0 rfl) ?_
        refine lv_iload_n hx hb dX8_best_44 rfl (lv_at hl 1 rfl) ?_
        refine k_wV (r := (some (.int ((m_bestRow RA RS RN v1.toNatClampNeg).1)))) (As := [.int (nI v1.toNatClampNeg)]) (rest := []) hx hb hml hown hts hl.1 hP hK hN hS (c_m_bestRow hI v1.toNatClampNeg hM (mC_of hC rfl rfl rfl rfl rfl rfl) (by omega)) eX8_295 (ci := 7) (q0 := 0) rfl rfl rfl rfl rfl (Nat.le_of_ble_eq_true rfl) ⟨Nat.le_of_ble_eq_true rfl, Nat.le_of_ble_eq_true rfl⟩ ⟨rfl, rfl⟩ ⟨Nat.le_of_ble_eq_true rfl, Nat.le_of_ble_eq_true rfl⟩ dX8_best_45 (fun H locs hP hS => ?_)
        obtain ⟨r_8, hr_8⟩ : ∃ z, z = (m_bestRow RA RS RN v1.toNatClampNeg) := ⟨_, rfl⟩
        rw [← hr_8] at hP
        rw [← hr_8]
        have hP : va_P (dC, dI) vwCl (RWs cI ad (va_up (va_up (va_up RA 36 r_8.2.1) 37 r_8.2.2.1) 39 r_8.2.2.2.1) (va_up RS 38 r_8.2.2.2.2.2) RN r_8.2.2.2.2.1) H := (RWs_conv rfl rfl rfl rfl rfl rfl rfl rfl rfl rfl rfl rfl rfl rfl rfl rfl rfl rfl rfl rfl rfl rfl rfl rfl rfl rfl rfl rfl rfl rfl rfl rfl rfl rfl rfl rfl rfl rfl rfl rfl rfl hP)
        refine lv_istore_n (lv' := [(3, .int r_8.1), (0, .ref (ad 0)), (1, .int (nI v1.toNatClampNeg)), (2, .int v2)]) hx hb dX8_best_48 rfl hl (by decide) rfl (fun ls hl => ?_)
        refine lv_iload_n hx hb dX8_best_49 rfl (lv_at hl 3 rfl) ?_
        refine lv_iconst (v := (-1)) hx hb dX8_best_50 (by decide) ?_
        refine lv_icmp_ne (tgt := 61) hx hb dX8_best_51 (by decide) (fun c_9 => ?_) (fun c_9 => ?_)
        · have hnat2 : v2 = (nI v2.toNatClampNeg) := kNat (kgem1 hq2.1 (by assumption))
          have hl : lv_has ls 4 [(3, .int r_8.1), (0, .ref (ad 0)), (1, .int (nI v1.toNatClampNeg)), (2, .int (nI v2.toNatClampNeg))] := by rw [← hnat2]; exact hl
          have hq2c := kbest_i hq2.2 (by omega) (by omega)
          refine lv_iload_n hx hb dX8_best_61 rfl (lv_at hl 0 rfl) ?_
          refine lv_bipush (v := 17) hx hb dX8_best_62 (by decide) ?_
          refine lv_iload_n hx hb dX8_best_64 rfl (lv_at hl 2 rfl) ?_
          refine lv_iconst (v := 1) hx hb dX8_best_65 (by decide) ?_
          refine lv_isub hx hb dX8_best_66 ?_
          refine kn_top (x' := (nI (v1.toNatClampNeg - 1))) (pk_sub (a := v1.toNatClampNeg) (b := 1) (by omega)) ?_
          refine lv_iload_n hx hb dX8_best_67 rfl (lv_at hl 3 rfl) ?_
          refine lv_isub hx hb dX8_best_68 ?_
          refine kn_top (x' := (nI (v1.toNatClampNeg - 1 - v2.toNatClampNeg))) (pk_sub (a := v1.toNatClampNeg - 1) (b := v2.toNatClampNeg) (by omega)) ?_
          refine k_rS (v := .int (nI (m_power 17 (v1.toNatClampNeg - 1 - v2.toNatClampNeg)))) (As := [.int 17, .int (nI (v1.toNatClampNeg - 1 - v2.toNatClampNeg))]) (rest := [.int r_8.1]) hx hb hml hown hts hl.1 (B := fun _ => True) (fun _ _ _ _ q => q) (fun _ _ _ => trivial) (c_m_power 17 (v1.toNatClampNeg - 1 - v2.toNatClampNeg) (by omega)) eX8_284 rfl rfl (Nat.le_of_ble_eq_true rfl) ⟨Nat.le_of_ble_eq_true rfl, Nat.le_of_ble_eq_true rfl⟩ ⟨rfl, rfl⟩ ⟨Nat.le_of_ble_eq_true rfl, Nat.le_of_ble_eq_true rfl⟩ dX8_best_69 ?_
          refine lv_idiv hx hb dX8_best_72 (m_power_ne 17 (by omega) (m_power_lt17 (by omega))) ?_
          refine lv_bipush (v := 17) hx hb dX8_best_73 (by decide) ?_
          refine lv_irem hx hb dX8_best_75 (by decide) ?_
          refine lv_i2l (v := (((r_8.1 / (nI (m_power 17 (v1.toNatClampNeg - 1 - v2.toNatClampNeg)))) - (r_8.1 / (nI (m_power 17 (v1.toNatClampNeg - 1 - v2.toNatClampNeg)))) / 17 * 17).toInt64)) hx hb dX8_best_76 rfl ?_
          have hE : (m_best RA RS RN RL v1 v2) = ((((r_8.1 / (nI (m_power 17 (v1.toNatClampNeg - 1 - v2.toNatClampNeg)))) - (r_8.1 / (nI (m_power 17 (v1.toNatClampNeg - 1 - v2.toNatClampNeg)))) / 17 * 17).toInt64), r_8.2.1, r_8.2.2.1, r_8.2.2.2.1, r_8.2.2.2.2.1, r_8.2.2.2.2.2) := by subst hr_8; rw [m_best, if_neg c_5, if_neg c_6, if_pos c_7, if_neg c_9]
          exact W.lret (v := (((r_8.1 / (nI (m_power 17 (v1.toNatClampNeg - 1 - v2.toNatClampNeg)))) - (r_8.1 / (nI (m_power 17 (v1.toNatClampNeg - 1 - v2.toNatClampNeg)))) / 17 * 17).toInt64)) hx hb hr (fun t ht hW => ⟨by rw [hE], by rw [hE]; exact kB.of (ws := RWs cI ad (va_up (va_up (va_up RA 36 r_8.2.1) 37 r_8.2.2.1) 39 r_8.2.2.2.1) (va_up RS 38 r_8.2.2.2.2.2) RN r_8.2.2.2.2.1) hP hK hN ht hW, hS.F ht⟩) hS.2.2 dX8_best_77 hlocks
        · refine lv_aload_n hx hb dX8_best_54 rfl (lv_at hl 1 rfl) ?_
          refine m_get (v := .long r_8.2.2.2.2.1) hx hb hts hown hK hP 40 (by decide) rfl kX8_289 rfl dX8_best_55 ?_
          refine lv_goto (tgt := 77) hx hb dX8_best_58 (by decide) ?_
          have hE : (m_best RA RS RN RL v1 v2) = (r_8.2.2.2.2.1, r_8.2.1, r_8.2.2.1, r_8.2.2.2.1, r_8.2.2.2.2.1, r_8.2.2.2.2.2) := by subst hr_8; rw [m_best, if_neg c_5, if_neg c_6, if_pos c_7, if_pos c_9]
          exact W.lret (v := r_8.2.2.2.2.1) hx hb hr (fun t ht hW => ⟨by rw [hE], by rw [hE]; exact kB.of (ws := RWs cI ad (va_up (va_up (va_up RA 36 r_8.2.1) 37 r_8.2.2.1) 39 r_8.2.2.2.1) (va_up RS 38 r_8.2.2.2.2.2) RN r_8.2.2.2.2.1) hP hK hN ht hW, hS.F ht⟩) hS.2.2 dX8_best_77 hlocks
      · refine lv_ldc2 (v := (-2)) hx hb hown (hts _ kX8_293) dX8_best_39 ?_
        have hE : (m_best RA RS RN RL v1 v2) = ((-2), (RA 36), (RA 37), (RA 39), RL, (RS 38)) := by rw [m_best, if_neg c_5, if_neg c_6, if_neg c_7]
        exact W.lret (v := (-2)) hx hb hr (fun t ht hW => ⟨by rw [hE], by rw [hE]; exact kB.of (ws := RWs cI ad (va_up (va_up (va_up RA 36 (RA 36)) 37 (RA 37)) 39 (RA 39)) (va_up RS 38 (RS 38)) RN RL) (RWs_conv rfl rfl rfl rfl rfl rfl rfl rfl rfl rfl rfl rfl rfl rfl rfl rfl rfl rfl rfl rfl rfl rfl rfl rfl rfl rfl rfl rfl rfl rfl rfl rfl rfl rfl rfl rfl rfl rfl rfl rfl rfl hP) hK hN ht hW, hS.F ht⟩) hS.2.2 dX8_best_42 hlocks
    · refine lv_ldc2 (v := (-1)) hx hb hown (hts _ kX8_224) dX8_best_27 ?_
      have hE : (m_best RA RS RN RL v1 v2) = ((-1), (RA 36), (RA 37), (RA 39), RL, (RS 38)) := by rw [m_best, if_neg c_5, if_pos c_6]
      exact W.lret (v := (-1)) hx hb hr (fun t ht hW => ⟨by rw [hE], by rw [hE]; exact kB.of (ws := RWs cI ad (va_up (va_up (va_up RA 36 (RA 36)) 37 (RA 37)) 39 (RA 39)) (va_up RS 38 (RS 38)) RN RL) (RWs_conv rfl rfl rfl rfl rfl rfl rfl rfl rfl rfl rfl rfl rfl rfl rfl rfl rfl rfl rfl rfl rfl rfl rfl rfl rfl rfl rfl rfl rfl rfl rfl rfl rfl rfl rfl rfl rfl rfl rfl rfl rfl hP) hK hN ht hW, hS.F ht⟩) hS.2.2 dX8_best_30 hlocks
-- X8_prop
def m_prop (RA : Nat → Nat → Int32) (RS : Nat → Int32) (RN : Nat → Nat) (v1 : Int32) : Int32 × (Nat → Int32) × (Nat → Int32) := if (m_isRoof RN v1) = 0 then ((-1), (RA 24), (RA 25)) else (if (m_has (RS 26) (nI v1.toNatClampNeg)) = 0 then ((-2), (RA 24), (RA 25)) else (if (RA 25 v1.toNatClampNeg) = 3 then ((-3), (RA 24), (RA 25)) else (((upd (RA 25) v1.toNatClampNeg ((RA 25 v1.toNatClampNeg) + 1)) v1.toNatClampNeg), (upd (RA 24) ((3 * v1.toNatClampNeg) + ((RA 25 v1.toNatClampNeg).toNatClampNeg)) (RS 19)), (upd (RA 25) v1.toNatClampNeg ((RA 25 v1.toNatClampNeg) + 1)))))
set_option maxHeartbeats 4000000 in
set_option maxRecDepth 100000 in
theorem c_m_prop (hI : kInj ad 24) (v1 : Int32) (hM : mI RA RS RN) : Met l yX8_prop (.code yX8_prop cX8_prop 2 (some .int) :: kT) ({ frames := 2, cells := 0, slots := 0, locals := 46 } : Room) (va_Pc [.ref (ad 0), .int v1] (kB (dC, dI) [(cI, .int)] (RWs cI ad RA RS RN RL))) (kQ (some (.int ((m_prop RA RS RN v1).1))) (kB (dC, dI) [(cI, .int)] (RWs cI ad (va_up (va_up RA 24 ((m_prop RA RS RN v1).2.1)) 25 ((m_prop RA RS RN v1).2.2)) RS RN RL)) (kAA ad 24)) 0 0 (kAA ad 24) := by
  refine kMet (by decide) (fun p e s m args below meth c ls hx hb hr hml hts hown hlocks hname hargs hB hl => ?_) (Nat.le_of_ble_eq_true rfl)
  obtain ⟨hP, hK, hN⟩ := hB
  have hl : lv_has ls 2 [(0, .ref (ad 0)), (1, .int v1)] := hl
  have hS : va_S (kAA ad 24) s.heap s.heap [] := va_S.rf
  have h4 : RN 4 ≤ 8 := mI_many hM
  refine lv_aload_n hx hb dX8_prop_0 rfl (lv_at hl 0 rfl) ?_
  refine lv_iload_n hx hb dX8_prop_1 rfl (lv_at hl 1 rfl) ?_
  refine k_rV (v := .int (m_isRoof RN v1)) (As := [.int v1]) (rest := []) hx hb hml hown hts hl.1 hP hK hN (c_m_isRoof hI v1) eX8_221 (ci := 7) (q0 := 0) rfl rfl rfl rfl rfl (Nat.le_of_ble_eq_true rfl) ⟨Nat.le_of_ble_eq_true rfl, Nat.le_of_ble_eq_true rfl⟩ ⟨rfl, rfl⟩ ⟨Nat.le_of_ble_eq_true rfl, Nat.le_of_ble_eq_true rfl⟩ dX8_prop_2 ?_
  refine lv_if_ne (tgt := 10) hx hb dX8_prop_5 (by decide) (fun c_4 => ?_) (fun c_4 => ?_)
  · have hr1 := m_isRoof_t h4 c_4
    have hnat1 : v1 = (nI v1.toNatClampNeg) := kNat hr1.1
    have hl : lv_has ls 2 [(0, .ref (ad 0)), (1, .int (nI v1.toNatClampNeg))] := by rw [← hnat1]; exact hl
    have hr1b : v1.toNatClampNeg < (RN 4) := kNat_lt hr1.2 (by omega)
    refine lv_aload_n hx hb dX8_prop_10 rfl (lv_at hl 0 rfl) ?_
    refine m_get (v := .int (RS 26)) hx hb hts hown hK hP 26 (by decide) rfl kX8_163 rfl dX8_prop_11 ?_
    refine lv_iload_n hx hb dX8_prop_14 rfl (lv_at hl 1 rfl) ?_
    refine k_rS (v := .int (m_has (RS 26) (nI v1.toNatClampNeg))) (As := [.int (RS 26), .int (nI v1.toNatClampNeg)]) (rest := []) hx hb hml hown hts hl.1 (B := fun _ => True) (fun _ _ _ _ q => q) (fun _ _ _ => trivial) (c_m_has (RS 26) (nI v1.toNatClampNeg)) eX8_204 rfl rfl (Nat.le_of_ble_eq_true rfl) ⟨Nat.le_of_ble_eq_true rfl, Nat.le_of_ble_eq_true rfl⟩ ⟨rfl, rfl⟩ ⟨Nat.le_of_ble_eq_true rfl, Nat.le_of_ble_eq_true rfl⟩ dX8_prop_15 ?_
    refine lv_if_ne (tgt := 24) hx hb dX8_prop_18 (by decide) (fun c_5 => ?_) (fun c_5 => ?_)
    · refine lv_aload_n hx hb dX8_prop_24 rfl (lv_at hl 0 rfl) ?_
      refine m_get (v := .ref (ad 17)) hx hb hts hown hK hP 25 (by decide) rfl kX8_58 rfl dX8_prop_25 ?_
      refine lv_iload_n hx hb dX8_prop_28 rfl (lv_at hl 1 rfl) ?_
      refine kn_iald (f := (RA 25)) (v := (RA 25 v1.toNatClampNeg)) hx hb hK hP 17 rfl v1.toNatClampNeg rfl (by omega) (by omega) rfl dX8_prop_29 ?_
      refine lv_iconst (v := 3) hx hb dX8_prop_30 (by decide) ?_
      refine lv_icmp_ne (tgt := 37) hx hb dX8_prop_31 (by decide) (fun c_6 => ?_) (fun c_6 => ?_)
      · have hp3 : (RA 25 v1.toNatClampNeg).toNatClampNeg < 3 := kpm3 (mI_pm hM _ (by omega)) (mI_pm0 hM _ (by omega)) (by assumption)
        refine lv_aload_n hx hb dX8_prop_37 rfl (lv_at hl 0 rfl) ?_
        refine m_get (v := .ref (ad 16)) hx hb hts hown hK hP 24 (by decide) rfl kX8_55 rfl dX8_prop_38 ?_
        refine lv_iconst (v := 3) hx hb dX8_prop_41 (by decide) ?_
        refine lv_iload_n hx hb dX8_prop_42 rfl (lv_at hl 1 rfl) ?_
        refine kn_imul hx hb 3 v1.toNatClampNeg rfl rfl dX8_prop_43 ?_
        refine lv_aload_n hx hb dX8_prop_44 rfl (lv_at hl 0 rfl) ?_
        refine m_get (v := .ref (ad 17)) hx hb hts hown hK hP 25 (by decide) rfl kX8_58 rfl dX8_prop_45 ?_
        refine lv_iload_n hx hb dX8_prop_48 rfl (lv_at hl 1 rfl) ?_
        refine kn_iald (f := (RA 25)) (v := (RA 25 v1.toNatClampNeg)) hx hb hK hP 17 rfl v1.toNatClampNeg rfl (by omega) (by omega) rfl dX8_prop_49 ?_
        refine kn_top (x' := (nI ((RA 25 v1.toNatClampNeg).toNatClampNeg))) (kNat (mI_pm0 hM v1.toNatClampNeg (by omega))) ?_
        refine kn_iadd hx hb (3 * v1.toNatClampNeg) ((RA 25 v1.toNatClampNeg).toNatClampNeg) rfl rfl dX8_prop_50 ?_
        refine lv_aload_n hx hb dX8_prop_51 rfl (lv_at hl 0 rfl) ?_
        refine m_get (v := .int (RS 19)) hx hb hts hown hK hP 19 (by decide) rfl kX8_154 rfl dX8_prop_52 ?_
        refine kn_iast (f := (RA 24)) (ws' := RWs cI ad (va_up RA 24 (upd (RA 24) ((3 * v1.toNatClampNeg) + ((RA 25 v1.toNatClampNeg).toNatClampNeg)) (RS 19))) RS RN RL) hx hb hK hP (RWsD hI) hS 16 rfl ((3 * v1.toNatClampNeg) + ((RA 25 v1.toNatClampNeg).toNatClampNeg)) rfl (by omega) (by omega) rfl dX8_prop_55 (fun H locs hP hS => ?_)
        refine lv_aload_n hx hb dX8_prop_56 rfl (lv_at hl 0 rfl) ?_
        refine m_get (v := .ref (ad 17)) hx hb hts hown hK hP 25 (by decide) rfl kX8_58 rfl dX8_prop_57 ?_
        refine lv_iload_n hx hb dX8_prop_60 rfl (lv_at hl 1 rfl) ?_
        refine lv_dup2_11 hx hb dX8_prop_61 rfl rfl ?_
        refine kn_iald (f := (RA 25)) (v := (RA 25 v1.toNatClampNeg)) hx hb hK hP 17 rfl v1.toNatClampNeg rfl (by omega) (by omega) rfl dX8_prop_62 ?_
        refine lv_iconst (v := 1) hx hb dX8_prop_63 (by decide) ?_
        refine lv_iadd hx hb dX8_prop_64 ?_
        refine kn_iast (f := (RA 25)) (ws' := RWs cI ad (va_up (va_up RA 24 (upd (RA 24) ((3 * v1.toNatClampNeg) + ((RA 25 v1.toNatClampNeg).toNatClampNeg)) (RS 19))) 25 (upd (RA 25) v1.toNatClampNeg ((RA 25 v1.toNatClampNeg) + 1))) RS RN RL) hx hb hK hP (RWsD hI) hS 17 rfl v1.toNatClampNeg rfl (by omega) (by omega) rfl dX8_prop_65 (fun H locs hP hS => ?_)
        refine lv_aload_n hx hb dX8_prop_66 rfl (lv_at hl 0 rfl) ?_
        refine m_get (v := .ref (ad 17)) hx hb hts hown hK hP 25 (by decide) rfl kX8_58 rfl dX8_prop_67 ?_
        refine lv_iload_n hx hb dX8_prop_70 rfl (lv_at hl 1 rfl) ?_
        refine kn_iald (f := (upd (RA 25) v1.toNatClampNeg ((RA 25 v1.toNatClampNeg) + 1))) (v := ((upd (RA 25) v1.toNatClampNeg ((RA 25 v1.toNatClampNeg) + 1)) v1.toNatClampNeg)) hx hb hK hP 17 rfl v1.toNatClampNeg rfl (by omega) (by omega) rfl dX8_prop_71 ?_
        have hE : (m_prop RA RS RN v1) = (((upd (RA 25) v1.toNatClampNeg ((RA 25 v1.toNatClampNeg) + 1)) v1.toNatClampNeg), (upd (RA 24) ((3 * v1.toNatClampNeg) + ((RA 25 v1.toNatClampNeg).toNatClampNeg)) (RS 19)), (upd (RA 25) v1.toNatClampNeg ((RA 25 v1.toNatClampNeg) + 1))) := by rw [m_prop, if_neg c_4, if_neg c_5, if_neg c_6]
        exact W.iret (v := ((upd (RA 25) v1.toNatClampNeg ((RA 25 v1.toNatClampNeg) + 1)) v1.toNatClampNeg)) hx hb hr (fun t ht hW => ⟨by rw [hE], by rw [hE]; exact kB.of (ws := RWs cI ad (va_up (va_up RA 24 (upd (RA 24) ((3 * v1.toNatClampNeg) + ((RA 25 v1.toNatClampNeg).toNatClampNeg)) (RS 19))) 25 (upd (RA 25) v1.toNatClampNeg ((RA 25 v1.toNatClampNeg) + 1))) RS RN RL) hP hK hN ht hW, hS.F ht⟩) hS.2.2 dX8_prop_72 hlocks
      · refine lv_bipush (v := (-3)) hx hb dX8_prop_34 (by decide) ?_
        have hE : (m_prop RA RS RN v1) = ((-3), (RA 24), (RA 25)) := by rw [m_prop, if_neg c_4, if_neg c_5, if_pos c_6]
        exact W.iret (v := (-3)) hx hb hr (fun t ht hW => ⟨by rw [hE], by rw [hE]; exact kB.of (ws := RWs cI ad (va_up (va_up RA 24 (RA 24)) 25 (RA 25)) RS RN RL) (RWs_conv rfl rfl rfl rfl rfl rfl rfl rfl rfl rfl rfl rfl rfl rfl rfl rfl rfl rfl rfl rfl rfl rfl rfl rfl rfl rfl rfl rfl rfl rfl rfl rfl rfl rfl rfl rfl rfl rfl rfl rfl rfl hP) hK hN ht hW, hS.F ht⟩) hS.2.2 dX8_prop_36 hlocks
    · refine lv_bipush (v := (-2)) hx hb dX8_prop_21 (by decide) ?_
      have hE : (m_prop RA RS RN v1) = ((-2), (RA 24), (RA 25)) := by rw [m_prop, if_neg c_4, if_pos c_5]
      exact W.iret (v := (-2)) hx hb hr (fun t ht hW => ⟨by rw [hE], by rw [hE]; exact kB.of (ws := RWs cI ad (va_up (va_up RA 24 (RA 24)) 25 (RA 25)) RS RN RL) (RWs_conv rfl rfl rfl rfl rfl rfl rfl rfl rfl rfl rfl rfl rfl rfl rfl rfl rfl rfl rfl rfl rfl rfl rfl rfl rfl rfl rfl rfl rfl rfl rfl rfl rfl rfl rfl rfl rfl rfl rfl rfl rfl hP) hK hN ht hW, hS.F ht⟩) hS.2.2 dX8_prop_23 hlocks
  · refine lv_iconst (v := (-1)) hx hb dX8_prop_8 (by decide) ?_
    have hE : (m_prop RA RS RN v1) = ((-1), (RA 24), (RA 25)) := by rw [m_prop, if_pos c_4]
    exact W.iret (v := (-1)) hx hb hr (fun t ht hW => ⟨by rw [hE], by rw [hE]; exact kB.of (ws := RWs cI ad (va_up (va_up RA 24 (RA 24)) 25 (RA 25)) RS RN RL) (RWs_conv rfl rfl rfl rfl rfl rfl rfl rfl rfl rfl rfl rfl rfl rfl rfl rfl rfl rfl rfl rfl rfl rfl rfl rfl rfl rfl rfl rfl rfl rfl rfl rfl rfl rfl rfl rfl rfl rfl rfl rfl rfl hP) hK hN ht hW, hS.F ht⟩) hS.2.2 dX8_prop_9 hlocks
-- X8_instead
def m_instead (RA : Nat → Nat → Int32) (RS : Nat → Int32) (RN : Nat → Nat) (v1 : Int32) (v2 : Int32) : Int64 × (Nat → Int32) × (Nat → Int32) × (Nat → Int32) × (Nat → Int32) × Int32 := if (m_isRule v1) = 0 then ((-1), (RA 25), (RA 36), (RA 37), (RA 39), (RS 38)) else (if (m_isRoof RN v2) = 0 then ((-1), (RA 25), (RA 36), (RA 37), (RA 39), (RS 38)) else (if (m_has (RS 26) (nI v2.toNatClampNeg)) = 0 then ((-2), (RA 25), (RA 36), (RA 37), (RA 39), (RS 38)) else (if (RA 25 v2.toNatClampNeg) = 3 then ((-3), (RA 25), (RA 36), (RA 37), (RA 39), (RS 38)) else (if (RS 15) = 0 then (((m_lossBy (va_up (va_up (va_up (va_up RA 25 (upd (RA 25) v2.toNatClampNeg ((RA 25 v2.toNatClampNeg) + 1))) 36 ((m_load RA RS).1)) 37 (upd ((m_load RA RS).2.1) ((3 * v2.toNatClampNeg) + ((RA 25 v2.toNatClampNeg).toNatClampNeg)) (RS 19))) 39 ((m_load RA RS).2.2.1)) (va_up RS 38 ((m_load RA RS).2.2.2)) RN v1 0 (RS 15) (-4)).1), (upd (upd (RA 25) v2.toNatClampNeg ((RA 25 v2.toNatClampNeg) + 1)) v2.toNatClampNeg (((upd (RA 25) v2.toNatClampNeg ((RA 25 v2.toNatClampNeg) + 1)) v2.toNatClampNeg) - 1)), (m_lossBy (va_up (va_up (va_up (va_up RA 25 (upd (RA 25) v2.toNatClampNeg ((RA 25 v2.toNatClampNeg) + 1))) 36 ((m_load RA RS).1)) 37 (upd ((m_load RA RS).2.1) ((3 * v2.toNatClampNeg) + ((RA 25 v2.toNatClampNeg).toNatClampNeg)) (RS 19))) 39 ((m_load RA RS).2.2.1)) (va_up RS 38 ((m_load RA RS).2.2.2)) RN v1 0 (RS 15) (-4)).2.1, (m_lossBy (va_up (va_up (va_up (va_up RA 25 (upd (RA 25) v2.toNatClampNeg ((RA 25 v2.toNatClampNeg) + 1))) 36 ((m_load RA RS).1)) 37 (upd ((m_load RA RS).2.1) ((3 * v2.toNatClampNeg) + ((RA 25 v2.toNatClampNeg).toNatClampNeg)) (RS 19))) 39 ((m_load RA RS).2.2.1)) (va_up RS 38 ((m_load RA RS).2.2.2)) RN v1 0 (RS 15) (-4)).2.2.1, (m_lossBy (va_up (va_up (va_up (va_up RA 25 (upd (RA 25) v2.toNatClampNeg ((RA 25 v2.toNatClampNeg) + 1))) 36 ((m_load RA RS).1)) 37 (upd ((m_load RA RS).2.1) ((3 * v2.toNatClampNeg) + ((RA 25 v2.toNatClampNeg).toNatClampNeg)) (RS 19))) 39 ((m_load RA RS).2.2.1)) (va_up RS 38 ((m_load RA RS).2.2.2)) RN v1 0 (RS 15) (-4)).2.2.2, (m_load RA RS).2.2.2) else (((m_lossBy (va_up (va_up (va_up (va_up RA 25 (upd (RA 25) v2.toNatClampNeg ((RA 25 v2.toNatClampNeg) + 1))) 36 ((m_load RA RS).1)) 37 (upd ((m_load RA RS).2.1) ((3 * v2.toNatClampNeg) + ((RA 25 v2.toNatClampNeg).toNatClampNeg)) (RS 19))) 39 ((m_load RA RS).2.2.1)) (va_up RS 38 ((m_load RA RS).2.2.2)) RN v1 ((RS 15) - 1) (RS 15) (-4)).1), (upd (upd (RA 25) v2.toNatClampNeg ((RA 25 v2.toNatClampNeg) + 1)) v2.toNatClampNeg (((upd (RA 25) v2.toNatClampNeg ((RA 25 v2.toNatClampNeg) + 1)) v2.toNatClampNeg) - 1)), (m_lossBy (va_up (va_up (va_up (va_up RA 25 (upd (RA 25) v2.toNatClampNeg ((RA 25 v2.toNatClampNeg) + 1))) 36 ((m_load RA RS).1)) 37 (upd ((m_load RA RS).2.1) ((3 * v2.toNatClampNeg) + ((RA 25 v2.toNatClampNeg).toNatClampNeg)) (RS 19))) 39 ((m_load RA RS).2.2.1)) (va_up RS 38 ((m_load RA RS).2.2.2)) RN v1 ((RS 15) - 1) (RS 15) (-4)).2.1, (m_lossBy (va_up (va_up (va_up (va_up RA 25 (upd (RA 25) v2.toNatClampNeg ((RA 25 v2.toNatClampNeg) + 1))) 36 ((m_load RA RS).1)) 37 (upd ((m_load RA RS).2.1) ((3 * v2.toNatClampNeg) + ((RA 25 v2.toNatClampNeg).toNatClampNeg)) (RS 19))) 39 ((m_load RA RS).2.2.1)) (va_up RS 38 ((m_load RA RS).2.2.2)) RN v1 ((RS 15) - 1) (RS 15) (-4)).2.2.1, (m_lossBy (va_up (va_up (va_up (va_up RA 25 (upd (RA 25) v2.toNatClampNeg ((RA 25 v2.toNatClampNeg) + 1))) 36 ((m_load RA RS).1)) 37 (upd ((m_load RA RS).2.1) ((3 * v2.toNatClampNeg) + ((RA 25 v2.toNatClampNeg).toNatClampNeg)) (RS 19))) 39 ((m_load RA RS).2.2.1)) (va_up RS 38 ((m_load RA RS).2.2.2)) RN v1 ((RS 15) - 1) (RS 15) (-4)).2.2.2, (m_load RA RS).2.2.2)))))
set_option maxHeartbeats 4000000 in
set_option maxRecDepth 100000 in
theorem c_m_instead (hI : kInj ad 24) (v1 : Int32) (v2 : Int32) (hM : mI RA RS RN) (hC : mC RA RS RN) : Met l yX8_instead (.code yX8_instead cX8_instead 5 (some .long) :: kT) ({ frames := 7, cells := 0, slots := 0, locals := 166 } : Room) (va_Pc [.ref (ad 0), .int v1, .int v2] (kB (dC, dI) [(cI, .int)] (RWs cI ad RA RS RN RL))) (kQ (some (.long ((m_instead RA RS RN v1 v2).1))) (kB (dC, dI) [(cI, .int)] (RWs cI ad (va_up (va_up (va_up (va_up RA 25 ((m_instead RA RS RN v1 v2).2.1)) 36 ((m_instead RA RS RN v1 v2).2.2.1)) 37 ((m_instead RA RS RN v1 v2).2.2.2.1)) 39 ((m_instead RA RS RN v1 v2).2.2.2.2.1)) (va_up RS 38 ((m_instead RA RS RN v1 v2).2.2.2.2.2)) RN RL)) (kAA ad 24)) 0 0 (kAA ad 24) := by
  refine kMet (by decide) (fun p e s m args below meth c ls hx hb hr hml hts hown hlocks hname hargs hB hl => ?_) (Nat.le_of_ble_eq_true rfl)
  obtain ⟨hP, hK, hN⟩ := hB
  have hl : lv_has ls 5 [(0, .ref (ad 0)), (1, .int v1), (2, .int v2)] := hl
  have hS : va_S (kAA ad 24) s.heap s.heap [] := va_S.rf
  have h4 : RN 4 ≤ 8 := mI_many hM
  refine lv_iload_n hx hb dX8_instead_0 rfl (lv_at hl 1 rfl) ?_
  refine k_rS (v := .int (m_isRule v1)) (As := [.int v1]) (rest := []) hx hb hml hown hts hl.1 (B := fun _ => True) (fun _ _ _ _ q => q) (fun _ _ _ => trivial) (c_m_isRule v1) eX8_262 rfl rfl (Nat.le_of_ble_eq_true rfl) ⟨Nat.le_of_ble_eq_true rfl, Nat.le_of_ble_eq_true rfl⟩ ⟨rfl, rfl⟩ ⟨Nat.le_of_ble_eq_true rfl, Nat.le_of_ble_eq_true rfl⟩ dX8_instead_1 ?_
  refine lv_if_eq (tgt := 15) hx hb dX8_instead_4 (by decide) (fun c_6 => ?_) (fun c_6 => ?_)
  · refine lv_ldc2 (v := (-1)) hx hb hown (hts _ kX8_224) dX8_instead_15 ?_
    have hE : (m_instead RA RS RN v1 v2) = ((-1), (RA 25), (RA 36), (RA 37), (RA 39), (RS 38)) := by rw [m_instead, if_pos c_6]
    exact W.lret (v := (-1)) hx hb hr (fun t ht hW => ⟨by rw [hE], by rw [hE]; exact kB.of (ws := RWs cI ad (va_up (va_up (va_up (va_up RA 25 (RA 25)) 36 (RA 36)) 37 (RA 37)) 39 (RA 39)) (va_up RS 38 (RS 38)) RN RL) (RWs_conv rfl rfl rfl rfl rfl rfl rfl rfl rfl rfl rfl rfl rfl rfl rfl rfl rfl rfl rfl rfl rfl rfl rfl rfl rfl rfl rfl rfl rfl rfl rfl rfl rfl rfl rfl rfl rfl rfl rfl rfl rfl hP) hK hN ht hW, hS.F ht⟩) hS.2.2 dX8_instead_18 hlocks
  · refine lv_aload_n hx hb dX8_instead_7 rfl (lv_at hl 0 rfl) ?_
    refine lv_iload_n hx hb dX8_instead_8 rfl (lv_at hl 2 rfl) ?_
    refine k_rV (v := .int (m_isRoof RN v2)) (As := [.int v2]) (rest := []) hx hb hml hown hts hl.1 hP hK hN (c_m_isRoof hI v2) eX8_221 (ci := 7) (q0 := 0) rfl rfl rfl rfl rfl (Nat.le_of_ble_eq_true rfl) ⟨Nat.le_of_ble_eq_true rfl, Nat.le_of_ble_eq_true rfl⟩ ⟨rfl, rfl⟩ ⟨Nat.le_of_ble_eq_true rfl, Nat.le_of_ble_eq_true rfl⟩ dX8_instead_9 ?_
    refine lv_if_ne (tgt := 19) hx hb dX8_instead_12 (by decide) (fun c_7 => ?_) (fun c_7 => ?_)
    · have hr2 := m_isRoof_t h4 c_7
      have hnat2 : v2 = (nI v2.toNatClampNeg) := kNat hr2.1
      have hl : lv_has ls 5 [(0, .ref (ad 0)), (1, .int v1), (2, .int (nI v2.toNatClampNeg))] := by rw [← hnat2]; exact hl
      have hr2b : v2.toNatClampNeg < (RN 4) := kNat_lt hr2.2 (by omega)
      refine lv_aload_n hx hb dX8_instead_19 rfl (lv_at hl 0 rfl) ?_
      refine m_get (v := .int (RS 26)) hx hb hts hown hK hP 26 (by decide) rfl kX8_163 rfl dX8_instead_20 ?_
      refine lv_iload_n hx hb dX8_instead_23 rfl (lv_at hl 2 rfl) ?_
      refine k_rS (v := .int (m_has (RS 26) (nI v2.toNatClampNeg))) (As := [.int (RS 26), .int (nI v2.toNatClampNeg)]) (rest := []) hx hb hml hown hts hl.1 (B := fun _ => True) (fun _ _ _ _ q => q) (fun _ _ _ => trivial) (c_m_has (RS 26) (nI v2.toNatClampNeg)) eX8_204 rfl rfl (Nat.le_of_ble_eq_true rfl) ⟨Nat.le_of_ble_eq_true rfl, Nat.le_of_ble_eq_true rfl⟩ ⟨rfl, rfl⟩ ⟨Nat.le_of_ble_eq_true rfl, Nat.le_of_ble_eq_true rfl⟩ dX8_instead_24 ?_
      refine lv_if_ne (tgt := 34) hx hb dX8_instead_27 (by decide) (fun c_8 => ?_) (fun c_8 => ?_)
      · refine lv_aload_n hx hb dX8_instead_34 rfl (lv_at hl 0 rfl) ?_
        refine m_get (v := .ref (ad 17)) hx hb hts hown hK hP 25 (by decide) rfl kX8_58 rfl dX8_instead_35 ?_
        refine lv_iload_n hx hb dX8_instead_38 rfl (lv_at hl 2 rfl) ?_
        refine kn_iald (f := (RA 25)) (v := (RA 25 v2.toNatClampNeg)) hx hb hK hP 17 rfl v2.toNatClampNeg rfl (by omega) (by omega) rfl dX8_instead_39 ?_
        refine lv_iconst (v := 3) hx hb dX8_instead_40 (by decide) ?_
        refine lv_icmp_ne (tgt := 48) hx hb dX8_instead_41 (by decide) (fun c_9 => ?_) (fun c_9 => ?_)
        · have hp3 : (RA 25 v2.toNatClampNeg).toNatClampNeg < 3 := kpm3 (mI_pm hM _ (by omega)) (mI_pm0 hM _ (by omega)) (by assumption)
          refine lv_aload_n hx hb dX8_instead_48 rfl (lv_at hl 0 rfl) ?_
          refine k_wV (r := none) (As := []) (rest := []) hx hb hml hown hts hl.1 hP hK hN hS (c_m_load hI) eX8_212 (ci := 7) (q0 := 0) rfl rfl rfl rfl rfl (Nat.le_of_ble_eq_true rfl) ⟨Nat.le_of_ble_eq_true rfl, Nat.le_of_ble_eq_true rfl⟩ ⟨rfl, rfl⟩ ⟨Nat.le_of_ble_eq_true rfl, Nat.le_of_ble_eq_true rfl⟩ dX8_instead_49 (fun H locs hP hS => ?_)
          obtain ⟨r_10, hr_10⟩ : ∃ z, z = (m_load RA RS) := ⟨_, rfl⟩
          rw [← hr_10] at hP
          have hP : va_P (dC, dI) vwCl (RWs cI ad (va_up (va_up (va_up RA 36 r_10.1) 37 r_10.2.1) 39 r_10.2.2.1) (va_up RS 38 r_10.2.2.2) RN RL) H := (RWs_conv rfl rfl rfl rfl rfl rfl rfl rfl rfl rfl rfl rfl rfl rfl rfl rfl rfl rfl rfl rfl rfl rfl rfl rfl rfl rfl rfl rfl rfl rfl rfl rfl rfl rfl rfl rfl rfl rfl rfl rfl rfl hP)
          refine lv_aload_n hx hb dX8_instead_52 rfl (lv_at hl 0 rfl) ?_
          refine m_get (v := .ref (ad 21)) hx hb hts hown hK hP 37 (by decide) rfl kX8_70 rfl dX8_instead_53 ?_
          refine lv_iconst (v := 3) hx hb dX8_instead_56 (by decide) ?_
          refine lv_iload_n hx hb dX8_instead_57 rfl (lv_at hl 2 rfl) ?_
          refine kn_imul hx hb 3 v2.toNatClampNeg rfl rfl dX8_instead_58 ?_
          refine lv_aload_n hx hb dX8_instead_59 rfl (lv_at hl 0 rfl) ?_
          refine m_get (v := .ref (ad 17)) hx hb hts hown hK hP 25 (by decide) rfl kX8_58 rfl dX8_instead_60 ?_
          refine lv_iload_n hx hb dX8_instead_63 rfl (lv_at hl 2 rfl) ?_
          refine kn_iald (f := (RA 25)) (v := (RA 25 v2.toNatClampNeg)) hx hb hK hP 17 rfl v2.toNatClampNeg rfl (by omega) (by omega) rfl dX8_instead_64 ?_
          refine kn_top (x' := (nI ((RA 25 v2.toNatClampNeg).toNatClampNeg))) (kNat (mI_pm0 hM v2.toNatClampNeg (by omega))) ?_
          refine kn_iadd hx hb (3 * v2.toNatClampNeg) ((RA 25 v2.toNatClampNeg).toNatClampNeg) rfl rfl dX8_instead_65 ?_
          refine lv_aload_n hx hb dX8_instead_66 rfl (lv_at hl 0 rfl) ?_
          refine m_get (v := .int (RS 19)) hx hb hts hown hK hP 19 (by decide) rfl kX8_154 rfl dX8_instead_67 ?_
          refine kn_iast (f := r_10.2.1) (ws' := RWs cI ad (va_up (va_up (va_up RA 36 r_10.1) 37 (upd r_10.2.1 ((3 * v2.toNatClampNeg) + ((RA 25 v2.toNatClampNeg).toNatClampNeg)) (RS 19))) 39 r_10.2.2.1) (va_up RS 38 r_10.2.2.2) RN RL) hx hb hK hP (RWsD hI) hS 21 rfl ((3 * v2.toNatClampNeg) + ((RA 25 v2.toNatClampNeg).toNatClampNeg)) rfl (by omega) (by omega) rfl dX8_instead_70 (fun H locs hP hS => ?_)
          refine lv_aload_n hx hb dX8_instead_71 rfl (lv_at hl 0 rfl) ?_
          refine m_get (v := .ref (ad 17)) hx hb hts hown hK hP 25 (by decide) rfl kX8_58 rfl dX8_instead_72 ?_
          refine lv_iload_n hx hb dX8_instead_75 rfl (lv_at hl 2 rfl) ?_
          refine lv_dup2_11 hx hb dX8_instead_76 rfl rfl ?_
          refine kn_iald (f := (RA 25)) (v := (RA 25 v2.toNatClampNeg)) hx hb hK hP 17 rfl v2.toNatClampNeg rfl (by omega) (by omega) rfl dX8_instead_77 ?_
          refine lv_iconst (v := 1) hx hb dX8_instead_78 (by decide) ?_
          refine lv_iadd hx hb dX8_instead_79 ?_
          refine kn_iast (f := (RA 25)) (ws' := RWs cI ad (va_up (va_up (va_up (va_up RA 25 (upd (RA 25) v2.toNatClampNeg ((RA 25 v2.toNatClampNeg) + 1))) 36 r_10.1) 37 (upd r_10.2.1 ((3 * v2.toNatClampNeg) + ((RA 25 v2.toNatClampNeg).toNatClampNeg)) (RS 19))) 39 r_10.2.2.1) (va_up RS 38 r_10.2.2.2) RN RL) hx hb hK hP (RWsD hI) hS 17 rfl v2.toNatClampNeg rfl (by omega) (by omega) rfl dX8_instead_80 (fun H locs hP hS => ?_)
          refine lv_aload_n hx hb dX8_instead_81 rfl (lv_at hl 0 rfl) ?_
          refine lv_iload_n hx hb dX8_instead_82 rfl (lv_at hl 1 rfl) ?_
          refine lv_aload_n hx hb dX8_instead_83 rfl (lv_at hl 0 rfl) ?_
          refine m_get (v := .int (RS 15)) hx hb hts hown hK hP 15 (by decide) rfl kX8_142 rfl dX8_instead_84 ?_
          refine lv_if_ne (tgt := 94) hx hb dX8_instead_87 (by decide) (fun c_11 => ?_) (fun c_11 => ?_)
          · refine lv_aload_n hx hb dX8_instead_94 rfl (lv_at hl 0 rfl) ?_
            refine m_get (v := .int (RS 15)) hx hb hts hown hK hP 15 (by decide) rfl kX8_142 rfl dX8_instead_95 ?_
            refine lv_iconst (v := 1) hx hb dX8_instead_98 (by decide) ?_
            refine lv_isub hx hb dX8_instead_99 ?_
            refine lv_aload_n hx hb dX8_instead_100 rfl (lv_at hl 0 rfl) ?_
            refine m_get (v := .int (RS 15)) hx hb hts hown hK hP 15 (by decide) rfl kX8_142 rfl dX8_instead_101 ?_
            refine lv_bipush (v := (-4)) hx hb dX8_instead_104 (by decide) ?_
            refine k_wV (r := (some (.long ((m_lossBy (va_up (va_up (va_up (va_up RA 25 (upd (RA 25) v2.toNatClampNeg ((RA 25 v2.toNatClampNeg) + 1))) 36 r_10.1) 37 (upd r_10.2.1 ((3 * v2.toNatClampNeg) + ((RA 25 v2.toNatClampNeg).toNatClampNeg)) (RS 19))) 39 r_10.2.2.1) (va_up RS 38 r_10.2.2.2) RN v1 ((RS 15) - 1) (RS 15) (-4)).1)))) (As := [.int v1, .int ((RS 15) - 1), .int (RS 15), .int (-4)]) (rest := []) hx hb hml hown hts hl.1 hP hK hN hS (c_m_lossBy hI v1 ((RS 15) - 1) (RS 15) (-4) (mI_pm_up hM (by omega) hp3) (mC_of hC rfl rfl rfl rfl rfl rfl) (by decide)) eX8_278 (ci := 7) (q0 := 0) rfl rfl rfl rfl rfl (Nat.le_of_ble_eq_true rfl) ⟨Nat.le_of_ble_eq_true rfl, Nat.le_of_ble_eq_true rfl⟩ ⟨rfl, rfl⟩ ⟨Nat.le_of_ble_eq_true rfl, Nat.le_of_ble_eq_true rfl⟩ dX8_instead_106 (fun H locs hP hS => ?_)
            obtain ⟨r_12, hr_12⟩ : ∃ z, z = (m_lossBy (va_up (va_up (va_up (va_up RA 25 (upd (RA 25) v2.toNatClampNeg ((RA 25 v2.toNatClampNeg) + 1))) 36 r_10.1) 37 (upd r_10.2.1 ((3 * v2.toNatClampNeg) + ((RA 25 v2.toNatClampNeg).toNatClampNeg)) (RS 19))) 39 r_10.2.2.1) (va_up RS 38 r_10.2.2.2) RN v1 ((RS 15) - 1) (RS 15) (-4)) := ⟨_, rfl⟩
            rw [← hr_12] at hP
            rw [← hr_12]
            have hP : va_P (dC, dI) vwCl (RWs cI ad (va_up (va_up (va_up (va_up RA 25 (upd (RA 25) v2.toNatClampNeg ((RA 25 v2.toNatClampNeg) + 1))) 36 r_12.2.1) 37 r_12.2.2.1) 39 r_12.2.2.2) (va_up RS 38 r_10.2.2.2) RN RL) H := (RWs_conv rfl rfl rfl rfl rfl rfl rfl rfl rfl rfl rfl rfl rfl rfl rfl rfl rfl rfl rfl rfl rfl rfl rfl rfl rfl rfl rfl rfl rfl rfl rfl rfl rfl rfl rfl rfl rfl rfl rfl rfl rfl hP)
            refine lv_lstore_n (lv' := [(3, .long r_12.1), (0, .ref (ad 0)), (1, .int v1), (2, .int (nI v2.toNatClampNeg))]) hx hb dX8_instead_109 rfl hl (by decide) rfl (fun ls hl => ?_)
            refine lv_aload_n hx hb dX8_instead_110 rfl (lv_at hl 1 rfl) ?_
            refine m_get (v := .ref (ad 17)) hx hb hts hown hK hP 25 (by decide) rfl kX8_58 rfl dX8_instead_111 ?_
            refine lv_iload_n hx hb dX8_instead_114 rfl (lv_at hl 3 rfl) ?_
            refine lv_dup2_11 hx hb dX8_instead_115 rfl rfl ?_
            refine kn_iald (f := (upd (RA 25) v2.toNatClampNeg ((RA 25 v2.toNatClampNeg) + 1))) (v := ((upd (RA 25) v2.toNatClampNeg ((RA 25 v2.toNatClampNeg) + 1)) v2.toNatClampNeg)) hx hb hK hP 17 rfl v2.toNatClampNeg rfl (by omega) (by omega) rfl dX8_instead_116 ?_
            refine lv_iconst (v := 1) hx hb dX8_instead_117 (by decide) ?_
            refine lv_isub hx hb dX8_instead_118 ?_
            refine kn_iast (f := (upd (RA 25) v2.toNatClampNeg ((RA 25 v2.toNatClampNeg) + 1))) (ws' := RWs cI ad (va_up (va_up (va_up (va_up RA 25 (upd (upd (RA 25) v2.toNatClampNeg ((RA 25 v2.toNatClampNeg) + 1)) v2.toNatClampNeg (((upd (RA 25) v2.toNatClampNeg ((RA 25 v2.toNatClampNeg) + 1)) v2.toNatClampNeg) - 1))) 36 r_12.2.1) 37 r_12.2.2.1) 39 r_12.2.2.2) (va_up RS 38 r_10.2.2.2) RN RL) hx hb hK hP (RWsD hI) hS 17 rfl v2.toNatClampNeg rfl (by omega) (by omega) rfl dX8_instead_119 (fun H locs hP hS => ?_)
            refine lv_lload_n hx hb dX8_instead_120 rfl (lv_at hl 0 rfl) ?_
            have hE : (m_instead RA RS RN v1 v2) = (r_12.1, (upd (upd (RA 25) v2.toNatClampNeg ((RA 25 v2.toNatClampNeg) + 1)) v2.toNatClampNeg (((upd (RA 25) v2.toNatClampNeg ((RA 25 v2.toNatClampNeg) + 1)) v2.toNatClampNeg) - 1)), r_12.2.1, r_12.2.2.1, r_12.2.2.2, r_10.2.2.2) := by subst hr_12; subst hr_10; rw [m_instead, if_neg c_6, if_neg c_7, if_neg c_8, if_neg c_9, if_neg c_11]
            exact W.lret (v := r_12.1) hx hb hr (fun t ht hW => ⟨by rw [hE], by rw [hE]; exact kB.of (ws := RWs cI ad (va_up (va_up (va_up (va_up RA 25 (upd (upd (RA 25) v2.toNatClampNeg ((RA 25 v2.toNatClampNeg) + 1)) v2.toNatClampNeg (((upd (RA 25) v2.toNatClampNeg ((RA 25 v2.toNatClampNeg) + 1)) v2.toNatClampNeg) - 1))) 36 r_12.2.1) 37 r_12.2.2.1) 39 r_12.2.2.2) (va_up RS 38 r_10.2.2.2) RN RL) hP hK hN ht hW, hS.F ht⟩) hS.2.2 dX8_instead_121 hlocks
          · refine lv_iconst (v := 0) hx hb dX8_instead_90 (by decide) ?_
            refine lv_goto (tgt := 100) hx hb dX8_instead_91 (by decide) ?_
            refine lv_aload_n hx hb dX8_instead_100 rfl (lv_at hl 0 rfl) ?_
            refine m_get (v := .int (RS 15)) hx hb hts hown hK hP 15 (by decide) rfl kX8_142 rfl dX8_instead_101 ?_
            refine lv_bipush (v := (-4)) hx hb dX8_instead_104 (by decide) ?_
            refine k_wV (r := (some (.long ((m_lossBy (va_up (va_up (va_up (va_up RA 25 (upd (RA 25) v2.toNatClampNeg ((RA 25 v2.toNatClampNeg) + 1))) 36 r_10.1) 37 (upd r_10.2.1 ((3 * v2.toNatClampNeg) + ((RA 25 v2.toNatClampNeg).toNatClampNeg)) (RS 19))) 39 r_10.2.2.1) (va_up RS 38 r_10.2.2.2) RN v1 0 (RS 15) (-4)).1)))) (As := [.int v1, .int 0, .int (RS 15), .int (-4)]) (rest := []) hx hb hml hown hts hl.1 hP hK hN hS (c_m_lossBy hI v1 0 (RS 15) (-4) (mI_pm_up hM (by omega) hp3) (mC_of hC rfl rfl rfl rfl rfl rfl) (by decide)) eX8_278 (ci := 7) (q0 := 0) rfl rfl rfl rfl rfl (Nat.le_of_ble_eq_true rfl) ⟨Nat.le_of_ble_eq_true rfl, Nat.le_of_ble_eq_true rfl⟩ ⟨rfl, rfl⟩ ⟨Nat.le_of_ble_eq_true rfl, Nat.le_of_ble_eq_true rfl⟩ dX8_instead_106 (fun H locs hP hS => ?_)
            obtain ⟨r_13, hr_13⟩ : ∃ z, z = (m_lossBy (va_up (va_up (va_up (va_up RA 25 (upd (RA 25) v2.toNatClampNeg ((RA 25 v2.toNatClampNeg) + 1))) 36 r_10.1) 37 (upd r_10.2.1 ((3 * v2.toNatClampNeg) + ((RA 25 v2.toNatClampNeg).toNatClampNeg)) (RS 19))) 39 r_10.2.2.1) (va_up RS 38 r_10.2.2.2) RN v1 0 (RS 15) (-4)) := ⟨_, rfl⟩
            rw [← hr_13] at hP
            rw [← hr_13]
            have hP : va_P (dC, dI) vwCl (RWs cI ad (va_up (va_up (va_up (va_up RA 25 (upd (RA 25) v2.toNatClampNeg ((RA 25 v2.toNatClampNeg) + 1))) 36 r_13.2.1) 37 r_13.2.2.1) 39 r_13.2.2.2) (va_up RS 38 r_10.2.2.2) RN RL) H := (RWs_conv rfl rfl rfl rfl rfl rfl rfl rfl rfl rfl rfl rfl rfl rfl rfl rfl rfl rfl rfl rfl rfl rfl rfl rfl rfl rfl rfl rfl rfl rfl rfl rfl rfl rfl rfl rfl rfl rfl rfl rfl rfl hP)
            refine lv_lstore_n (lv' := [(3, .long r_13.1), (0, .ref (ad 0)), (1, .int v1), (2, .int (nI v2.toNatClampNeg))]) hx hb dX8_instead_109 rfl hl (by decide) rfl (fun ls hl => ?_)
            refine lv_aload_n hx hb dX8_instead_110 rfl (lv_at hl 1 rfl) ?_
            refine m_get (v := .ref (ad 17)) hx hb hts hown hK hP 25 (by decide) rfl kX8_58 rfl dX8_instead_111 ?_
            refine lv_iload_n hx hb dX8_instead_114 rfl (lv_at hl 3 rfl) ?_
            refine lv_dup2_11 hx hb dX8_instead_115 rfl rfl ?_
            refine kn_iald (f := (upd (RA 25) v2.toNatClampNeg ((RA 25 v2.toNatClampNeg) + 1))) (v := ((upd (RA 25) v2.toNatClampNeg ((RA 25 v2.toNatClampNeg) + 1)) v2.toNatClampNeg)) hx hb hK hP 17 rfl v2.toNatClampNeg rfl (by omega) (by omega) rfl dX8_instead_116 ?_
            refine lv_iconst (v := 1) hx hb dX8_instead_117 (by decide) ?_
            refine lv_isub hx hb dX8_instead_118 ?_
            refine kn_iast (f := (upd (RA 25) v2.toNatClampNeg ((RA 25 v2.toNatClampNeg) + 1))) (ws' := RWs cI ad (va_up (va_up (va_up (va_up RA 25 (upd (upd (RA 25) v2.toNatClampNeg ((RA 25 v2.toNatClampNeg) + 1)) v2.toNatClampNeg (((upd (RA 25) v2.toNatClampNeg ((RA 25 v2.toNatClampNeg) + 1)) v2.toNatClampNeg) - 1))) 36 r_13.2.1) 37 r_13.2.2.1) 39 r_13.2.2.2) (va_up RS 38 r_10.2.2.2) RN RL) hx hb hK hP (RWsD hI) hS 17 rfl v2.toNatClampNeg rfl (by omega) (by omega) rfl dX8_instead_119 (fun H locs hP hS => ?_)
            refine lv_lload_n hx hb dX8_instead_120 rfl (lv_at hl 0 rfl) ?_
            have hE : (m_instead RA RS RN v1 v2) = (r_13.1, (upd (upd (RA 25) v2.toNatClampNeg ((RA 25 v2.toNatClampNeg) + 1)) v2.toNatClampNeg (((upd (RA 25) v2.toNatClampNeg ((RA 25 v2.toNatClampNeg) + 1)) v2.toNatClampNeg) - 1)), r_13.2.1, r_13.2.2.1, r_13.2.2.2, r_10.2.2.2) := by subst hr_13; subst hr_10; rw [m_instead, if_neg c_6, if_neg c_7, if_neg c_8, if_neg c_9, if_pos c_11]
            exact W.lret (v := r_13.1) hx hb hr (fun t ht hW => ⟨by rw [hE], by rw [hE]; exact kB.of (ws := RWs cI ad (va_up (va_up (va_up (va_up RA 25 (upd (upd (RA 25) v2.toNatClampNeg ((RA 25 v2.toNatClampNeg) + 1)) v2.toNatClampNeg (((upd (RA 25) v2.toNatClampNeg ((RA 25 v2.toNatClampNeg) + 1)) v2.toNatClampNeg) - 1))) 36 r_13.2.1) 37 r_13.2.2.1) 39 r_13.2.2.2) (va_up RS 38 r_10.2.2.2) RN RL) hP hK hN ht hW, hS.F ht⟩) hS.2.2 dX8_instead_121 hlocks
        · refine lv_ldc2 (v := (-3)) hx hb hown (hts _ kX8_300) dX8_instead_44 ?_
          have hE : (m_instead RA RS RN v1 v2) = ((-3), (RA 25), (RA 36), (RA 37), (RA 39), (RS 38)) := by rw [m_instead, if_neg c_6, if_neg c_7, if_neg c_8, if_pos c_9]
          exact W.lret (v := (-3)) hx hb hr (fun t ht hW => ⟨by rw [hE], by rw [hE]; exact kB.of (ws := RWs cI ad (va_up (va_up (va_up (va_up RA 25 (RA 25)) 36 (RA 36)) 37 (RA 37)) 39 (RA 39)) (va_up RS 38 (RS 38)) RN RL) (RWs_conv rfl rfl rfl rfl rfl rfl rfl rfl rfl rfl rfl rfl rfl rfl rfl rfl rfl rfl rfl rfl rfl rfl rfl rfl rfl rfl rfl rfl rfl rfl rfl rfl rfl rfl rfl rfl rfl rfl rfl rfl rfl hP) hK hN ht hW, hS.F ht⟩) hS.2.2 dX8_instead_47 hlocks
      · refine lv_ldc2 (v := (-2)) hx hb hown (hts _ kX8_293) dX8_instead_30 ?_
        have hE : (m_instead RA RS RN v1 v2) = ((-2), (RA 25), (RA 36), (RA 37), (RA 39), (RS 38)) := by rw [m_instead, if_neg c_6, if_neg c_7, if_pos c_8]
        exact W.lret (v := (-2)) hx hb hr (fun t ht hW => ⟨by rw [hE], by rw [hE]; exact kB.of (ws := RWs cI ad (va_up (va_up (va_up (va_up RA 25 (RA 25)) 36 (RA 36)) 37 (RA 37)) 39 (RA 39)) (va_up RS 38 (RS 38)) RN RL) (RWs_conv rfl rfl rfl rfl rfl rfl rfl rfl rfl rfl rfl rfl rfl rfl rfl rfl rfl rfl rfl rfl rfl rfl rfl rfl rfl rfl rfl rfl rfl rfl rfl rfl rfl rfl rfl rfl rfl rfl rfl rfl rfl hP) hK hN ht hW, hS.F ht⟩) hS.2.2 dX8_instead_33 hlocks
    · refine lv_ldc2 (v := (-1)) hx hb hown (hts _ kX8_224) dX8_instead_15 ?_
      have hE : (m_instead RA RS RN v1 v2) = ((-1), (RA 25), (RA 36), (RA 37), (RA 39), (RS 38)) := by rw [m_instead, if_neg c_6, if_pos c_7]
      exact W.lret (v := (-1)) hx hb hr (fun t ht hW => ⟨by rw [hE], by rw [hE]; exact kB.of (ws := RWs cI ad (va_up (va_up (va_up (va_up RA 25 (RA 25)) 36 (RA 36)) 37 (RA 37)) 39 (RA 39)) (va_up RS 38 (RS 38)) RN RL) (RWs_conv rfl rfl rfl rfl rfl rfl rfl rfl rfl rfl rfl rfl rfl rfl rfl rfl rfl rfl rfl rfl rfl rfl rfl rfl rfl rfl rfl rfl rfl rfl rfl rfl rfl rfl rfl rfl rfl rfl rfl rfl rfl hP) hK hN ht hW, hS.F ht⟩) hS.2.2 dX8_instead_18 hlocks
-- X8_rain
def m_rain_k44 (a36 : Nat → Int32) (a37 : Nat → Int32) (a39 : Nat → Int32) (s38 : Int32) (v2 : Int32) : Int32 × (Nat → Int32) × (Nat → Int32) × (Nat → Int32) × Int32 := (v2, a36, a37, a39, s38)
def m_rain_L44 (RA : Nat → Nat → Int32) (RS : Nat → Int32) (a36 : Nat → Int32) (a37 : Nat → Int32) (a39 : Nat → Int32) : Nat → Nat → Int32 → Int32
  | 0, i, v2 => v2
  | n + 1, i, v2 => if (m_has (RS 26) (nI i)) = 0 then m_rain_L44 RA RS a36 a37 a39 n (i + 1) (v2 ||| 0) else (if (m_below (va_up (va_up (va_up RA 36 a36) 37 a37) 39 a39) i (a39 i)) = 0 then m_rain_L44 RA RS a36 a37 a39 n (i + 1) (v2 ||| (1 <<< ((nI i) &&& 31))) else m_rain_L44 RA RS a36 a37 a39 n (i + 1) (v2 ||| 0))
def m_rain_k20 (RA : Nat → Nat → Int32) (RS : Nat → Int32) (RN : Nat → Nat) (a36 : Nat → Int32) (a37 : Nat → Int32) (a39 : Nat → Int32) (s38 : Int32) : Int32 × (Nat → Int32) × (Nat → Int32) × (Nat → Int32) × Int32 := m_rain_k44 a36 a37 a39 s38 (m_rain_L44 RA RS a36 a37 a39 (RN 4) 0 0)
def m_rain_L20 (RA : Nat → Nat → Int32) (RS : Nat → Int32) (RN : Nat → Nat) (s38 : Int32) : Nat → Nat → (Nat → Int32) → (Nat → Int32) → (Nat → Int32) → (Nat → Int32) × (Nat → Int32) × (Nat → Int32)
  | 0, i, a36, a37, a39 => (a36, a37, a39)
  | n + 1, i, a36, a37, a39 => m_rain_L20 RA RS RN s38 n (i + 1) ((m_goHour (va_up (va_up (va_up RA 36 a36) 37 a37) 39 a39) (va_up RS 38 s38) RN 0 2 0 (-4)).1) ((m_goHour (va_up (va_up (va_up RA 36 a36) 37 a37) 39 a39) (va_up RS 38 s38) RN 0 2 0 (-4)).2.1) ((m_goHour (va_up (va_up (va_up RA 36 a36) 37 a37) 39 a39) (va_up RS 38 s38) RN 0 2 0 (-4)).2.2)
def m_rain (RA : Nat → Nat → Int32) (RS : Nat → Int32) (RN : Nat → Nat) (v1 : Int32) : Int32 × (Nat → Int32) × (Nat → Int32) × (Nat → Int32) × Int32 := if (m_in v1.toInt64 1 9) = 0 then ((-1), (RA 36), (RA 37), (RA 39), (RS 38)) else m_rain_k20 RA RS RN (m_rain_L20 RA RS RN ((m_load RA RS).2.2.2) v1.toNatClampNeg 0 ((m_load RA RS).1) ((m_load RA RS).2.1) ((m_load RA RS).2.2.1)).1 (m_rain_L20 RA RS RN ((m_load RA RS).2.2.2) v1.toNatClampNeg 0 ((m_load RA RS).1) ((m_load RA RS).2.1) ((m_load RA RS).2.2.1)).2.1 (m_rain_L20 RA RS RN ((m_load RA RS).2.2.2) v1.toNatClampNeg 0 ((m_load RA RS).1) ((m_load RA RS).2.1) ((m_load RA RS).2.2.1)).2.2 ((m_load RA RS).2.2.2)
set_option maxHeartbeats 4000000 in
set_option maxRecDepth 100000 in
theorem c_m_rain (hI : kInj ad 24) (v1 : Int32) (hM : mI RA RS RN) : Met l yX8_rain (.code yX8_rain cX8_rain 4 (some .int) :: kT) ({ frames := 6, cells := 0, slots := 0, locals := 141 } : Room) (va_Pc [.ref (ad 0), .int v1] (kB (dC, dI) [(cI, .int)] (RWs cI ad RA RS RN RL))) (kQ (some (.int ((m_rain RA RS RN v1).1))) (kB (dC, dI) [(cI, .int)] (RWs cI ad (va_up (va_up (va_up RA 36 ((m_rain RA RS RN v1).2.1)) 37 ((m_rain RA RS RN v1).2.2.1)) 39 ((m_rain RA RS RN v1).2.2.2.1)) (va_up RS 38 ((m_rain RA RS RN v1).2.2.2.2)) RN RL)) (kAA ad 24)) 0 0 (kAA ad 24) := by
  refine kMet (by decide) (fun p e s m args below meth c ls hx hb hr hml hts hown hlocks hname hargs hB hl => ?_) (Nat.le_of_ble_eq_true rfl)
  obtain ⟨hP, hK, hN⟩ := hB
  have hl : lv_has ls 4 [(0, .ref (ad 0)), (1, .int v1)] := hl
  have hS : va_S (kAA ad 24) s.heap s.heap [] := va_S.rf
  have h4 : RN 4 ≤ 8 := mI_many hM
  refine lv_iload_n hx hb dX8_rain_0 rfl (lv_at hl 1 rfl) ?_
  refine lv_i2l (v := v1.toInt64) hx hb dX8_rain_1 rfl ?_
  refine lv_lconst (v := 1) hx hb dX8_rain_2 (by decide) ?_
  refine lv_ldc2 (v := 9) hx hb hown (hts _ kX8_298) dX8_rain_3 ?_
  refine k_rS (v := .int (m_in v1.toInt64 1 9)) (As := [.long v1.toInt64, .long 1, .long 9]) (rest := []) hx hb hml hown hts hl.1 (B := fun _ => True) (fun _ _ _ _ q => q) (fun _ _ _ => trivial) (c_m_in v1.toInt64 1 9) eX8_99 rfl rfl (Nat.le_of_ble_eq_true rfl) ⟨Nat.le_of_ble_eq_true rfl, Nat.le_of_ble_eq_true rfl⟩ ⟨rfl, rfl⟩ ⟨Nat.le_of_ble_eq_true rfl, Nat.le_of_ble_eq_true rfl⟩ dX8_rain_6 ?_
  refine lv_if_ne (tgt := 14) hx hb dX8_rain_9 (by decide) (fun c_6 => ?_) (fun c_6 => ?_)
  · have hq1 := m_in_t c_6
    have hq1a : 1 ≤ v1.toNatClampNeg := kNat_ge hq1.1
    have hq1b : v1.toNatClampNeg ≤ 9 := kNat_le hq1.2
    refine lv_aload_n hx hb dX8_rain_14 rfl (lv_at hl 0 rfl) ?_
    refine k_wV (r := none) (As := []) (rest := []) hx hb hml hown hts hl.1 hP hK hN hS (c_m_load hI) eX8_212 (ci := 7) (q0 := 0) rfl rfl rfl rfl rfl (Nat.le_of_ble_eq_true rfl) ⟨Nat.le_of_ble_eq_true rfl, Nat.le_of_ble_eq_true rfl⟩ ⟨rfl, rfl⟩ ⟨Nat.le_of_ble_eq_true rfl, Nat.le_of_ble_eq_true rfl⟩ dX8_rain_15 (fun H locs hP hS => ?_)
    obtain ⟨r_7, hr_7⟩ : ∃ z, z = (m_load RA RS) := ⟨_, rfl⟩
    rw [← hr_7] at hP
    have hP : va_P (dC, dI) vwCl (RWs cI ad (va_up (va_up (va_up RA 36 r_7.1) 37 r_7.2.1) 39 r_7.2.2.1) (va_up RS 38 r_7.2.2.2) RN RL) H := (RWs_conv rfl rfl rfl rfl rfl rfl rfl rfl rfl rfl rfl rfl rfl rfl rfl rfl rfl rfl rfl rfl rfl rfl rfl rfl rfl rfl rfl rfl rfl rfl rfl rfl rfl rfl rfl rfl rfl rfl rfl rfl rfl hP)
    refine lv_iconst (v := 0) hx hb dX8_rain_18 (by decide) ?_
    refine lv_istore_n (lv' := [(2, .int 0), (0, .ref (ad 0)), (1, .int v1)]) hx hb dX8_rain_19 rfl hl (by decide) rfl (fun ls hl => ?_)
    have rest_20 : ∀ (a36_20 : Nat → Int32) (a37_20 : Nat → Int32) (a39_20 : Nat → Int32), ∀ (H : Heap) (locs : List Loc) (ls : Array Slot), va_P (dC, dI) vwCl (RWs cI ad (va_up (va_up (va_up RA 36 a36_20) 37 a37_20) 39 a39_20) (va_up RS 38 r_7.2.2.2) RN RL) H → va_S (kAA ad 24) s.heap H locs → lv_has ls 4 [(0, .ref (ad 0))] → (m_rain RA RS RN v1) = m_rain_k20 RA RS RN a36_20 a37_20 a39_20 r_7.2.2.2 → W p l e ({ frames := 6, cells := 0, slots := 0, locals := 141 } : Room) s m args below meth c H locs 0 0 (MQ below (kQ (some (.int ((m_rain RA RS RN v1).1))) (kB (dC, dI) [(cI, .int)] (RWs cI ad (va_up (va_up (va_up RA 36 ((m_rain RA RS RN v1).2.1)) 37 ((m_rain RA RS RN v1).2.2.1)) 39 ((m_rain RA RS RN v1).2.2.2.1)) (va_up RS 38 ((m_rain RA RS RN v1).2.2.2.2)) RN RL)) (kAA ad 24)) args s 0 0 (kAA ad 24)) (F0 m 40 ls []) := by
      intro a36_20 a37_20 a39_20 H locs ls hP hS hl  hF_20
      refine lv_iconst (v := 0) hx hb dX8_rain_40 (by decide) ?_
      refine lv_istore_n (lv' := [(2, .int 0), (0, .ref (ad 0))]) hx hb dX8_rain_41 rfl hl (by decide) rfl (fun ls hl => ?_)
      refine lv_iconst (v := 0) hx hb dX8_rain_42 (by decide) ?_
      refine lv_istore_n (lv' := [(3, .int 0), (2, .int 0), (0, .ref (ad 0))]) hx hb dX8_rain_43 rfl hl (by decide) rfl (fun ls hl => ?_)
      have rest_44 : ∀ (x2_44 : Int32), ∀ (ls : Array Slot), lv_has ls 4 [(2, .int x2_44)] → (m_rain RA RS RN v1) = m_rain_k44 a36_20 a37_20 a39_20 r_7.2.2.2 x2_44 → W p l e ({ frames := 6, cells := 0, slots := 0, locals := 141 } : Room) s m args below meth c H locs 0 0 (MQ below (kQ (some (.int ((m_rain RA RS RN v1).1))) (kB (dC, dI) [(cI, .int)] (RWs cI ad (va_up (va_up (va_up RA 36 ((m_rain RA RS RN v1).2.1)) 37 ((m_rain RA RS RN v1).2.2.1)) 39 ((m_rain RA RS RN v1).2.2.2.1)) (va_up RS 38 ((m_rain RA RS RN v1).2.2.2.2)) RN RL)) (kAA ad 24)) args s 0 0 (kAA ad 24)) (F0 m 93 ls []) := by
        intro x2_44 ls hl  hF_44
        refine lv_iload_n hx hb dX8_rain_93 rfl (lv_at hl 0 rfl) ?_
        have hE : (m_rain RA RS RN v1) = (x2_44, a36_20, a37_20, a39_20, r_7.2.2.2) := by subst hr_7; exact hF_44.trans (by rw [m_rain_k44])
        exact W.iret (v := x2_44) hx hb hr (fun t ht hW => ⟨by rw [hE], by rw [hE]; exact kB.of (ws := RWs cI ad (va_up (va_up (va_up RA 36 a36_20) 37 a37_20) 39 a39_20) (va_up RS 38 r_7.2.2.2) RN RL) hP hK hN ht hW, hS.F ht⟩) hS.2.2 dX8_rain_94 hlocks
      have loop_44 : ∀ (n_44 i_44 : Nat) (x2_44 : Int32), i_44 + n_44 = (RN 4) → ∀ (ls : Array Slot), lv_has ls 4 [(0, .ref (ad 0)), (2, .int x2_44), (3, .int (nI i_44))] → (∀ (ls : Array Slot), lv_has ls 4 [(2, .int (m_rain_L44 RA RS a36_20 a37_20 a39_20 n_44 i_44 x2_44))] → W p l e ({ frames := 6, cells := 0, slots := 0, locals := 141 } : Room) s m args below meth c H locs 0 0 (MQ below (kQ (some (.int ((m_rain RA RS RN v1).1))) (kB (dC, dI) [(cI, .int)] (RWs cI ad (va_up (va_up (va_up RA 36 ((m_rain RA RS RN v1).2.1)) 37 ((m_rain RA RS RN v1).2.2.1)) 39 ((m_rain RA RS RN v1).2.2.2.1)) (va_up RS 38 ((m_rain RA RS RN v1).2.2.2.2)) RN RL)) (kAA ad 24)) args s 0 0 (kAA ad 24)) (F0 m 93 ls [])) → W p l e ({ frames := 6, cells := 0, slots := 0, locals := 141 } : Room) s m args below meth c H locs 0 0 (MQ below (kQ (some (.int ((m_rain RA RS RN v1).1))) (kB (dC, dI) [(cI, .int)] (RWs cI ad (va_up (va_up (va_up RA 36 ((m_rain RA RS RN v1).2.1)) 37 ((m_rain RA RS RN v1).2.2.1)) 39 ((m_rain RA RS RN v1).2.2.2.1)) (va_up RS 38 ((m_rain RA RS RN v1).2.2.2.2)) RN RL)) (kAA ad 24)) args s 0 0 (kAA ad 24)) (F0 m 44 ls []) := by
        intro n_44
        induction n_44 with
        | zero =>
          intro i_44 x2_44 hin_44 ls hl  hk_44
          refine lv_iload_n hx hb dX8_rain_44 rfl (lv_at hl 2 rfl) ?_
          refine lv_aload_n hx hb dX8_rain_45 rfl (lv_at hl 0 rfl) ?_
          refine m_get (v := .int (nI (RN 4))) hx hb hts hown hK hP 4 (by decide) rfl kX8_82 rfl dX8_rain_46 ?_
          refine lv_icmp_ge (tgt := 93) hx hb dX8_rain_49 (by decide) (fun _ => ?_) (fun c_8 => absurd (kct_ge (N := (RN 4)) (nI_clamp (by omega)) (by omega) (by omega)) c_8)
          have hL_44 : (m_rain_L44 RA RS a36_20 a37_20 a39_20 0 i_44 x2_44) = x2_44 := by subst hr_7; rw [m_rain_L44.eq_1]
          try rw [hL_44] at hk_44
          exact hk_44 _ (lv_sub hl [1] rfl) 
        | succ n_44 ih_44 =>
          intro i_44 x2_44 hin_44 ls hl  hk_44
          refine lv_iload_n hx hb dX8_rain_44 rfl (lv_at hl 2 rfl) ?_
          refine lv_aload_n hx hb dX8_rain_45 rfl (lv_at hl 0 rfl) ?_
          refine m_get (v := .int (nI (RN 4))) hx hb hts hown hK hP 4 (by decide) rfl kX8_82 rfl dX8_rain_46 ?_
          refine lv_icmp_ge (tgt := 93) hx hb dX8_rain_49 (by decide) (fun c_9 => absurd c_9 (kct_lt (N := (RN 4)) (nI_clamp (by omega)) (by omega))) (fun _ => ?_)
          refine lv_iload_n hx hb dX8_rain_52 rfl (lv_at hl 1 rfl) ?_
          refine lv_aload_n hx hb dX8_rain_53 rfl (lv_at hl 0 rfl) ?_
          refine m_get (v := .int (RS 26)) hx hb hts hown hK hP 26 (by decide) rfl kX8_163 rfl dX8_rain_54 ?_
          refine lv_iload_n hx hb dX8_rain_57 rfl (lv_at hl 2 rfl) ?_
          refine k_rS (v := .int (m_has (RS 26) (nI i_44))) (As := [.int (RS 26), .int (nI i_44)]) (rest := [.int x2_44]) hx hb hml hown hts hl.1 (B := fun _ => True) (fun _ _ _ _ q => q) (fun _ _ _ => trivial) (c_m_has (RS 26) (nI i_44)) eX8_204 rfl rfl (Nat.le_of_ble_eq_true rfl) ⟨Nat.le_of_ble_eq_true rfl, Nat.le_of_ble_eq_true rfl⟩ ⟨rfl, rfl⟩ ⟨Nat.le_of_ble_eq_true rfl, Nat.le_of_ble_eq_true rfl⟩ dX8_rain_58 ?_
          refine lv_if_eq (tgt := 84) hx hb dX8_rain_61 (by decide) (fun c_10 => ?_) (fun c_10 => ?_)
          · refine lv_iconst (v := 0) hx hb dX8_rain_84 (by decide) ?_
            refine lv_ior hx hb dX8_rain_85 ?_
            refine lv_istore_n (lv' := [(2, .int (x2_44 ||| 0)), (0, .ref (ad 0)), (3, .int (nI i_44))]) hx hb dX8_rain_86 rfl hl (by decide) rfl (fun ls hl => ?_)
            refine lv_iinc (v := (nI (i_44 + 1))) (lv' := [(3, .int (nI (i_44 + 1))), (2, .int (x2_44 ||| 0)), (0, .ref (ad 0))]) hx hb dX8_rain_87 hl (k := 2) rfl (nI_add _ _) (by decide) rfl (fun ls hl => ?_)
            refine lv_goto (tgt := 44) hx hb dX8_rain_90 (by decide) ?_
            have hL_44 : (m_rain_L44 RA RS a36_20 a37_20 a39_20 (n_44 + 1) i_44 x2_44) = (m_rain_L44 RA RS a36_20 a37_20 a39_20 n_44 (i_44 + 1) (x2_44 ||| 0)) := by subst hr_7; rw [m_rain_L44.eq_2, if_pos c_10]
            try rw [hL_44] at hk_44
            exact ih_44 (i_44 + 1) (x2_44 ||| 0) (by omega) _ (lv_sub hl [2, 1, 0] rfl)  hk_44
          · refine lv_aload_n hx hb dX8_rain_64 rfl (lv_at hl 0 rfl) ?_
            refine lv_iload_n hx hb dX8_rain_65 rfl (lv_at hl 2 rfl) ?_
            refine lv_aload_n hx hb dX8_rain_66 rfl (lv_at hl 0 rfl) ?_
            refine m_get (v := .ref (ad 22)) hx hb hts hown hK hP 39 (by decide) rfl kX8_73 rfl dX8_rain_67 ?_
            refine lv_iload_n hx hb dX8_rain_70 rfl (lv_at hl 2 rfl) ?_
            refine kn_iald (f := a39_20) (v := (a39_20 i_44)) hx hb hK hP 22 rfl i_44 rfl (by omega) (by omega) rfl dX8_rain_71 ?_
            refine k_rV (v := .int (m_below (va_up (va_up (va_up RA 36 a36_20) 37 a37_20) 39 a39_20) i_44 (a39_20 i_44))) (As := [.int (nI i_44), .int (a39_20 i_44)]) (rest := [.int x2_44]) hx hb hml hown hts hl.1 hP hK hN (c_m_below hI i_44 (a39_20 i_44) hM (by omega)) eX8_209 (ci := 7) (q0 := 0) rfl rfl rfl rfl rfl (Nat.le_of_ble_eq_true rfl) ⟨Nat.le_of_ble_eq_true rfl, Nat.le_of_ble_eq_true rfl⟩ ⟨rfl, rfl⟩ ⟨Nat.le_of_ble_eq_true rfl, Nat.le_of_ble_eq_true rfl⟩ dX8_rain_72 ?_
            refine lv_if_ne (tgt := 84) hx hb dX8_rain_75 (by decide) (fun c_11 => ?_) (fun c_11 => ?_)
            · refine lv_iconst (v := 0) hx hb dX8_rain_84 (by decide) ?_
              refine lv_ior hx hb dX8_rain_85 ?_
              refine lv_istore_n (lv' := [(2, .int (x2_44 ||| 0)), (0, .ref (ad 0)), (3, .int (nI i_44))]) hx hb dX8_rain_86 rfl hl (by decide) rfl (fun ls hl => ?_)
              refine lv_iinc (v := (nI (i_44 + 1))) (lv' := [(3, .int (nI (i_44 + 1))), (2, .int (x2_44 ||| 0)), (0, .ref (ad 0))]) hx hb dX8_rain_87 hl (k := 2) rfl (nI_add _ _) (by decide) rfl (fun ls hl => ?_)
              refine lv_goto (tgt := 44) hx hb dX8_rain_90 (by decide) ?_
              have hL_44 : (m_rain_L44 RA RS a36_20 a37_20 a39_20 (n_44 + 1) i_44 x2_44) = (m_rain_L44 RA RS a36_20 a37_20 a39_20 n_44 (i_44 + 1) (x2_44 ||| 0)) := by subst hr_7; rw [m_rain_L44.eq_2, if_neg c_10, if_neg c_11]
              try rw [hL_44] at hk_44
              exact ih_44 (i_44 + 1) (x2_44 ||| 0) (by omega) _ (lv_sub hl [2, 1, 0] rfl)  hk_44
            · refine lv_iconst (v := 1) hx hb dX8_rain_78 (by decide) ?_
              refine lv_iload_n hx hb dX8_rain_79 rfl (lv_at hl 2 rfl) ?_
              refine lv_ishl hx hb dX8_rain_80 ?_
              refine lv_goto (tgt := 85) hx hb dX8_rain_81 (by decide) ?_
              refine lv_ior hx hb dX8_rain_85 ?_
              refine lv_istore_n (lv' := [(2, .int (x2_44 ||| (1 <<< ((nI i_44) &&& 31)))), (0, .ref (ad 0)), (3, .int (nI i_44))]) hx hb dX8_rain_86 rfl hl (by decide) rfl (fun ls hl => ?_)
              refine lv_iinc (v := (nI (i_44 + 1))) (lv' := [(3, .int (nI (i_44 + 1))), (2, .int (x2_44 ||| (1 <<< ((nI i_44) &&& 31)))), (0, .ref (ad 0))]) hx hb dX8_rain_87 hl (k := 2) rfl (nI_add _ _) (by decide) rfl (fun ls hl => ?_)
              refine lv_goto (tgt := 44) hx hb dX8_rain_90 (by decide) ?_
              have hL_44 : (m_rain_L44 RA RS a36_20 a37_20 a39_20 (n_44 + 1) i_44 x2_44) = (m_rain_L44 RA RS a36_20 a37_20 a39_20 n_44 (i_44 + 1) (x2_44 ||| (1 <<< ((nI i_44) &&& 31)))) := by subst hr_7; rw [m_rain_L44.eq_2, if_neg c_10, if_pos c_11]
              try rw [hL_44] at hk_44
              exact ih_44 (i_44 + 1) (x2_44 ||| (1 <<< ((nI i_44) &&& 31))) (by omega) _ (lv_sub hl [2, 1, 0] rfl)  hk_44
      exact loop_44 (RN 4) 0 0 (by omega) _ (lv_sub hl [2, 1, 0] rfl)  (fun ls hl  => rest_44 (m_rain_L44 RA RS a36_20 a37_20 a39_20 (RN 4) 0 0) _ hl  (by subst hr_7; exact hF_20.trans (by rw [m_rain_k20])))
    have hN_20 : v1.toNatClampNeg < 2 ^ 31 := kcl_lt _
    have loop_20 : ∀ (n_20 i_20 : Nat) (a36_20 : Nat → Int32) (a37_20 : Nat → Int32) (a39_20 : Nat → Int32), i_20 + n_20 = v1.toNatClampNeg → ∀ (H : Heap) (locs : List Loc) (ls : Array Slot), va_P (dC, dI) vwCl (RWs cI ad (va_up (va_up (va_up RA 36 a36_20) 37 a37_20) 39 a39_20) (va_up RS 38 r_7.2.2.2) RN RL) H → va_S (kAA ad 24) s.heap H locs → lv_has ls 4 [(0, .ref (ad 0)), (1, .int v1), (2, .int (nI i_20))] → (∀ (H : Heap) (locs : List Loc) (ls : Array Slot), va_P (dC, dI) vwCl (RWs cI ad (va_up (va_up (va_up RA 36 ((m_rain_L20 RA RS RN r_7.2.2.2 n_20 i_20 a36_20 a37_20 a39_20).1)) 37 ((m_rain_L20 RA RS RN r_7.2.2.2 n_20 i_20 a36_20 a37_20 a39_20).2.1)) 39 ((m_rain_L20 RA RS RN r_7.2.2.2 n_20 i_20 a36_20 a37_20 a39_20).2.2)) (va_up RS 38 r_7.2.2.2) RN RL) H → va_S (kAA ad 24) s.heap H locs → lv_has ls 4 [(0, .ref (ad 0))] → W p l e ({ frames := 6, cells := 0, slots := 0, locals := 141 } : Room) s m args below meth c H locs 0 0 (MQ below (kQ (some (.int ((m_rain RA RS RN v1).1))) (kB (dC, dI) [(cI, .int)] (RWs cI ad (va_up (va_up (va_up RA 36 ((m_rain RA RS RN v1).2.1)) 37 ((m_rain RA RS RN v1).2.2.1)) 39 ((m_rain RA RS RN v1).2.2.2.1)) (va_up RS 38 ((m_rain RA RS RN v1).2.2.2.2)) RN RL)) (kAA ad 24)) args s 0 0 (kAA ad 24)) (F0 m 40 ls [])) → W p l e ({ frames := 6, cells := 0, slots := 0, locals := 141 } : Room) s m args below meth c H locs 0 0 (MQ below (kQ (some (.int ((m_rain RA RS RN v1).1))) (kB (dC, dI) [(cI, .int)] (RWs cI ad (va_up (va_up (va_up RA 36 ((m_rain RA RS RN v1).2.1)) 37 ((m_rain RA RS RN v1).2.2.1)) 39 ((m_rain RA RS RN v1).2.2.2.1)) (va_up RS 38 ((m_rain RA RS RN v1).2.2.2.2)) RN RL)) (kAA ad 24)) args s 0 0 (kAA ad 24)) (F0 m 20 ls []) := by
      intro n_20
      induction n_20 with
      | zero =>
        intro i_20 a36_20 a37_20 a39_20 hin_20 H locs ls hP hS hl  hk_20
        refine lv_iload_n hx hb dX8_rain_20 rfl (lv_at hl 2 rfl) ?_
        refine lv_iload_n hx hb dX8_rain_21 rfl (lv_at hl 1 rfl) ?_
        refine lv_icmp_ge (tgt := 40) hx hb dX8_rain_22 (by decide) (fun _ => ?_) (fun c_12 => absurd (kct_ge (N := v1.toNatClampNeg) rfl (by omega) (by omega)) c_12)
        have hL_20 : (m_rain_L20 RA RS RN r_7.2.2.2 0 i_20 a36_20 a37_20 a39_20) = (a36_20, a37_20, a39_20) := by subst hr_7; rw [m_rain_L20.eq_1]
        try rw [hL_20] at hk_20
        exact hk_20 _ _ _ hP hS (lv_sub hl [0] rfl) 
      | succ n_20 ih_20 =>
        intro i_20 a36_20 a37_20 a39_20 hin_20 H locs ls hP hS hl  hk_20
        refine lv_iload_n hx hb dX8_rain_20 rfl (lv_at hl 2 rfl) ?_
        refine lv_iload_n hx hb dX8_rain_21 rfl (lv_at hl 1 rfl) ?_
        refine lv_icmp_ge (tgt := 40) hx hb dX8_rain_22 (by decide) (fun c_13 => absurd c_13 (kct_lt (N := v1.toNatClampNeg) rfl (by omega))) (fun _ => ?_)
        refine lv_aload_n hx hb dX8_rain_25 rfl (lv_at hl 0 rfl) ?_
        refine lv_iconst (v := 0) hx hb dX8_rain_26 (by decide) ?_
        refine lv_iconst (v := 2) hx hb dX8_rain_27 (by decide) ?_
        refine lv_iconst (v := 0) hx hb dX8_rain_28 (by decide) ?_
        refine lv_bipush (v := (-4)) hx hb dX8_rain_29 (by decide) ?_
        refine k_wV (r := none) (As := [.int 0, .int 2, .int 0, .int (-4)]) (rest := []) hx hb hml hown hts hl.1 hP hK hN hS (c_m_goHour hI 0 2 0 (-4) hM (by omega) (by decide)) eX8_268 (ci := 7) (q0 := 0) rfl rfl rfl rfl rfl (Nat.le_of_ble_eq_true rfl) ⟨Nat.le_of_ble_eq_true rfl, Nat.le_of_ble_eq_true rfl⟩ ⟨rfl, rfl⟩ ⟨Nat.le_of_ble_eq_true rfl, Nat.le_of_ble_eq_true rfl⟩ dX8_rain_31 (fun H locs hP hS => ?_)
        obtain ⟨r_14, hr_14⟩ : ∃ z, z = (m_goHour (va_up (va_up (va_up RA 36 a36_20) 37 a37_20) 39 a39_20) (va_up RS 38 r_7.2.2.2) RN 0 2 0 (-4)) := ⟨_, rfl⟩
        rw [← hr_14] at hP
        have hP : va_P (dC, dI) vwCl (RWs cI ad (va_up (va_up (va_up RA 36 r_14.1) 37 r_14.2.1) 39 r_14.2.2) (va_up RS 38 r_7.2.2.2) RN RL) H := (RWs_conv rfl rfl rfl rfl rfl rfl rfl rfl rfl rfl rfl rfl rfl rfl rfl rfl rfl rfl rfl rfl rfl rfl rfl rfl rfl rfl rfl rfl rfl rfl rfl rfl rfl rfl rfl rfl rfl rfl rfl rfl rfl hP)
        refine lv_iinc (v := (nI (i_20 + 1))) (lv' := [(2, .int (nI (i_20 + 1))), (0, .ref (ad 0)), (1, .int v1)]) hx hb dX8_rain_34 hl (k := 2) rfl (nI_add _ _) (by decide) rfl (fun ls hl => ?_)
        refine lv_goto (tgt := 20) hx hb dX8_rain_37 (by decide) ?_
        have hL_20 : (m_rain_L20 RA RS RN r_7.2.2.2 (n_20 + 1) i_20 a36_20 a37_20 a39_20) = (m_rain_L20 RA RS RN r_7.2.2.2 n_20 (i_20 + 1) r_14.1 r_14.2.1 r_14.2.2) := by subst hr_14; subst hr_7; rw [m_rain_L20.eq_2]
        try rw [hL_20] at hk_20
        exact ih_20 (i_20 + 1) r_14.1 r_14.2.1 r_14.2.2 (by omega) _ _ _ hP hS (lv_sub hl [1, 2, 0] rfl)  hk_20
    exact loop_20 v1.toNatClampNeg 0 r_7.1 r_7.2.1 r_7.2.2.1 (by omega) _ _ _ hP hS (lv_sub hl [1, 2, 0] rfl)  (fun H locs ls hP hS hl  => rest_20 (m_rain_L20 RA RS RN r_7.2.2.2 v1.toNatClampNeg 0 r_7.1 r_7.2.1 r_7.2.2.1).1 (m_rain_L20 RA RS RN r_7.2.2.2 v1.toNatClampNeg 0 r_7.1 r_7.2.1 r_7.2.2.1).2.1 (m_rain_L20 RA RS RN r_7.2.2.2 v1.toNatClampNeg 0 r_7.1 r_7.2.1 r_7.2.2.1).2.2 _ _ _ hP hS hl  (by subst hr_7; rw [m_rain, if_neg c_6]))
  · refine lv_iconst (v := (-1)) hx hb dX8_rain_12 (by decide) ?_
    have hE : (m_rain RA RS RN v1) = ((-1), (RA 36), (RA 37), (RA 39), (RS 38)) := by rw [m_rain, if_pos c_6]
    exact W.iret (v := (-1)) hx hb hr (fun t ht hW => ⟨by rw [hE], by rw [hE]; exact kB.of (ws := RWs cI ad (va_up (va_up (va_up RA 36 (RA 36)) 37 (RA 37)) 39 (RA 39)) (va_up RS 38 (RS 38)) RN RL) (RWs_conv rfl rfl rfl rfl rfl rfl rfl rfl rfl rfl rfl rfl rfl rfl rfl rfl rfl rfl rfl rfl rfl rfl rfl rfl rfl rfl rfl rfl rfl rfl rfl rfl rfl rfl rfl rfl rfl rfl rfl rfl rfl hP) hK hN ht hW, hS.F ht⟩) hS.2.2 dX8_rain_13 hlocks

end REF
