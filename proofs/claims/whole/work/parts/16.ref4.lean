section REF
variable {l : Launch} {dC : Nat → ClassId} {dI : Nat → Nat → Nat} {cI : ClassId} {ad : Nat → Nat} {RA : Nat → Nat → Int32} {RS : Nat → Int32} {RN : Nat → Nat} {RL : Int64}
-- X8_power
def m_power_k4 (v2 : Nat) : Nat := v2
def m_power_L4 (v0 : Nat) : Nat → Nat → Nat → Nat
  | 0, i, v2 => v2
  | n + 1, i, v2 => m_power_L4 v0 n (i + 1) (v2 * v0)
def m_power (v0 : Nat) (v1 : Nat) : Nat := m_power_k4 (m_power_L4 v0 v1 0 1)
set_option maxHeartbeats 4000000 in
set_option maxRecDepth 100000 in
theorem c_m_power (v0 : Nat) (v1 : Nat) (hp : v1 < 100) : Met l yX8_power (.code yX8_power cX8_power 4 (some .int) :: kT) ({ frames := 0, cells := 0, slots := 0, locals := 0 } : Room) (va_Pc [.int (nI v0), .int (nI v1)] (fun _ => True)) (kR (some (.int (nI (m_power v0 v1))))) 0 0 (fun _ => False) := by
  refine kMet (by decide) (fun p e s m args below meth c ls hx hb hr hml hts hown hlocks hname hargs hB hl => ?_) (Nat.le_of_ble_eq_true rfl)
  have hl : lv_has ls 4 [(0, .int (nI v0)), (1, .int (nI v1))] := hl
  refine lv_iconst (v := 1) hx hb dX8_power_0 (by decide) ?_
  refine lv_istore_n (lv' := [(2, .int 1), (0, .int (nI v0)), (1, .int (nI v1))]) hx hb dX8_power_1 rfl hl (by decide) rfl (fun ls hl => ?_)
  refine lv_iconst (v := 0) hx hb dX8_power_2 (by decide) ?_
  refine lv_istore_n (lv' := [(3, .int 0), (2, .int 1), (0, .int (nI v0)), (1, .int (nI v1))]) hx hb dX8_power_3 rfl hl (by decide) rfl (fun ls hl => ?_)
  have rest_4 : ∀ (x2_4 : Nat), ∀ (ls : Array Slot), lv_has ls 4 [(2, .int (nI x2_4))] → (m_power v0 v1) = m_power_k4 x2_4 → W p l e ({ frames := 0, cells := 0, slots := 0, locals := 0 } : Room) s m args below meth c s.heap [] 0 0 (MQ below (kR (some (.int (nI (m_power v0 v1))))) args s 0 0 (fun _ => False)) (F0 m 19 ls []) := by
    intro x2_4 ls hl  hF_4
    refine lv_iload_n hx hb dX8_power_19 rfl (lv_at hl 0 rfl) ?_
    have hE : (m_power v0 v1) = x2_4 := hF_4.trans (by rw [m_power_k4])
    exact W.iret (v := (nI x2_4)) hx hb hr (fun t ht hW => ⟨by first | (rw [hE]; done) | (rw [hE]; rfl), ht⟩) (fun _ h => absurd h List.not_mem_nil) dX8_power_20 hlocks
  have loop_4 : ∀ (n_4 i_4 : Nat) (x2_4 : Nat), i_4 + n_4 = v1 → ∀ (ls : Array Slot), lv_has ls 4 [(0, .int (nI v0)), (1, .int (nI v1)), (2, .int (nI x2_4)), (3, .int (nI i_4))] → (∀ (ls : Array Slot), lv_has ls 4 [(2, .int (nI (m_power_L4 v0 n_4 i_4 x2_4)))] → W p l e ({ frames := 0, cells := 0, slots := 0, locals := 0 } : Room) s m args below meth c s.heap [] 0 0 (MQ below (kR (some (.int (nI (m_power v0 v1))))) args s 0 0 (fun _ => False)) (F0 m 19 ls [])) → W p l e ({ frames := 0, cells := 0, slots := 0, locals := 0 } : Room) s m args below meth c s.heap [] 0 0 (MQ below (kR (some (.int (nI (m_power v0 v1))))) args s 0 0 (fun _ => False)) (F0 m 4 ls []) := by
    intro n_4
    induction n_4 with
    | zero =>
      intro i_4 x2_4 hin_4 ls hl  hk_4
      refine lv_iload_n hx hb dX8_power_4 rfl (lv_at hl 3 rfl) ?_
      refine lv_iload_n hx hb dX8_power_5 rfl (lv_at hl 1 rfl) ?_
      refine lv_icmp_ge (tgt := 19) hx hb dX8_power_6 (by decide) (fun _ => ?_) (fun c_2 => absurd (kct_ge (N := v1) (nI_clamp (by omega)) (by omega) (by omega)) c_2)
      have hL_4 : (m_power_L4 v0 0 i_4 x2_4) = x2_4 := by rw [m_power_L4.eq_1]
      try rw [hL_4] at hk_4
      exact hk_4 _ (lv_sub hl [2] rfl) 
    | succ n_4 ih_4 =>
      intro i_4 x2_4 hin_4 ls hl  hk_4
      refine lv_iload_n hx hb dX8_power_4 rfl (lv_at hl 3 rfl) ?_
      refine lv_iload_n hx hb dX8_power_5 rfl (lv_at hl 1 rfl) ?_
      refine lv_icmp_ge (tgt := 19) hx hb dX8_power_6 (by decide) (fun c_3 => absurd c_3 (kct_lt (N := v1) (nI_clamp (by omega)) (by omega))) (fun _ => ?_)
      refine lv_iload_n hx hb dX8_power_9 rfl (lv_at hl 2 rfl) ?_
      refine lv_iload_n hx hb dX8_power_10 rfl (lv_at hl 0 rfl) ?_
      refine kn_imul hx hb x2_4 v0 rfl rfl dX8_power_11 ?_
      refine lv_istore_n (lv' := [(2, .int (nI (x2_4 * v0))), (0, .int (nI v0)), (1, .int (nI v1)), (3, .int (nI i_4))]) hx hb dX8_power_12 rfl hl (by decide) rfl (fun ls hl => ?_)
      refine lv_iinc (v := (nI (i_4 + 1))) (lv' := [(3, .int (nI (i_4 + 1))), (2, .int (nI (x2_4 * v0))), (0, .int (nI v0)), (1, .int (nI v1))]) hx hb dX8_power_13 hl (k := 3) rfl (nI_add _ _) (by decide) rfl (fun ls hl => ?_)
      refine lv_goto (tgt := 4) hx hb dX8_power_16 (by decide) ?_
      have hL_4 : (m_power_L4 v0 (n_4 + 1) i_4 x2_4) = (m_power_L4 v0 n_4 (i_4 + 1) (x2_4 * v0)) := by rw [m_power_L4.eq_2]
      try rw [hL_4] at hk_4
      exact ih_4 (i_4 + 1) (x2_4 * v0) (by omega) _ (lv_sub hl [2, 3, 1, 0] rfl)  hk_4
  exact loop_4 v1 0 1 (by omega) _ (lv_sub hl [2, 3, 1, 0] rfl)  (fun ls hl  => rest_4 (m_power_L4 v0 v1 0 1) _ hl  (by rw [m_power]))

end REF
