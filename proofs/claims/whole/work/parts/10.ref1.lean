section REF
variable {l : Launch} {dC : Nat → ClassId} {dI : Nat → Nat → Nat} {cI : ClassId} {ad : Nat → Nat} {RA : Nat → Nat → Int32} {RS : Nat → Int32} {RN : Nat → Nat} {RL : Int64}
-- X8_in
def m_in (v0 : Int64) (v2 : Int64) (v4 : Int64) : Int32 := if (lg_cmp v0 v2) < 0 then 0 else (if 0 < (lg_cmp v0 v4) then 0 else 1)
set_option maxHeartbeats 4000000 in
set_option maxRecDepth 100000 in
theorem c_m_in (v0 : Int64) (v2 : Int64) (v4 : Int64) : Met l yX8_in (.code yX8_in cX8_in 6 (some .boolean) :: kT) ({ frames := 0, cells := 0, slots := 0, locals := 0 } : Room) (va_Pc [.long v0, .long v2, .long v4] (fun _ => True)) (kR (some (.int (m_in v0 v2 v4)))) 0 0 (fun _ => False) := by
  refine kMet (by decide) (fun p e s m args below meth c ls hx hb hr hml hts hown hlocks hname hargs hB hl => ?_) (Nat.le_of_ble_eq_true rfl)
  have hl : lv_has ls 6 [(0, .long v0), (2, .long v2), (4, .long v4)] := hl
  refine lv_lload_n hx hb dX8_in_0 rfl (lv_at hl 0 rfl) ?_
  refine lv_lload_n hx hb dX8_in_1 rfl (lv_at hl 1 rfl) ?_
  refine W.lcmp hx hb dX8_in_2 ?_
  refine lv_if_lt (tgt := 17) hx hb dX8_in_3 (by decide) (fun c_3 => ?_) (fun c_3 => ?_)
  · refine lv_iconst (v := 0) hx hb dX8_in_17 (by decide) ?_
    have hE : (m_in v0 v2 v4) = 0 := by rw [m_in, if_pos c_3]
    exact W.zret (v := 0) hx hb hr rfl (fun t ht hW => ⟨by rw [hE], ht⟩) (fun _ h => absurd h List.not_mem_nil) dX8_in_18 hlocks
  · refine lv_lload_n hx hb dX8_in_6 rfl (lv_at hl 0 rfl) ?_
    refine lv_lload hx hb dX8_in_7 (lv_at hl 2 rfl) ?_
    refine W.lcmp hx hb dX8_in_9 ?_
    refine lv_if_gt (tgt := 17) hx hb dX8_in_10 (by decide) (fun c_4 => ?_) (fun c_4 => ?_)
    · refine lv_iconst (v := 0) hx hb dX8_in_17 (by decide) ?_
      have hE : (m_in v0 v2 v4) = 0 := by rw [m_in, if_neg c_3, if_pos c_4]
      exact W.zret (v := 0) hx hb hr rfl (fun t ht hW => ⟨by rw [hE], ht⟩) (fun _ h => absurd h List.not_mem_nil) dX8_in_18 hlocks
    · refine lv_iconst (v := 1) hx hb dX8_in_13 (by decide) ?_
      refine lv_goto (tgt := 18) hx hb dX8_in_14 (by decide) ?_
      have hE : (m_in v0 v2 v4) = 1 := by rw [m_in, if_neg c_3, if_neg c_4]
      exact W.zret (v := 1) hx hb hr rfl (fun t ht hW => ⟨by rw [hE], ht⟩) (fun _ h => absurd h List.not_mem_nil) dX8_in_18 hlocks
-- X8_has
def m_has (v0 : Int32) (v1 : Int32) : Int32 := if ((v0 >>> (v1 &&& 31)) &&& 1) = 1 then 1 else 0
set_option maxHeartbeats 4000000 in
set_option maxRecDepth 100000 in
theorem c_m_has (v0 : Int32) (v1 : Int32) : Met l yX8_has (.code yX8_has cX8_has 2 (some .boolean) :: kT) ({ frames := 0, cells := 0, slots := 0, locals := 0 } : Room) (va_Pc [.int v0, .int v1] (fun _ => True)) (kR (some (.int (m_has v0 v1)))) 0 0 (fun _ => False) := by
  refine kMet (by decide) (fun p e s m args below meth c ls hx hb hr hml hts hown hlocks hname hargs hB hl => ?_) (Nat.le_of_ble_eq_true rfl)
  have hl : lv_has ls 2 [(0, .int v0), (1, .int v1)] := hl
  refine lv_iload_n hx hb dX8_has_0 rfl (lv_at hl 0 rfl) ?_
  refine lv_iload_n hx hb dX8_has_1 rfl (lv_at hl 1 rfl) ?_
  refine lv_ishr hx hb dX8_has_2 ?_
  refine lv_iconst (v := 1) hx hb dX8_has_3 (by decide) ?_
  refine lv_iand hx hb dX8_has_4 ?_
  refine lv_iconst (v := 1) hx hb dX8_has_5 (by decide) ?_
  refine lv_icmp_ne (tgt := 13) hx hb dX8_has_6 (by decide) (fun c_2 => ?_) (fun c_2 => ?_)
  · refine lv_iconst (v := 0) hx hb dX8_has_13 (by decide) ?_
    have hE : (m_has v0 v1) = 0 := by rw [m_has, if_neg c_2]
    exact W.zret (v := 0) hx hb hr rfl (fun t ht hW => ⟨by rw [hE], ht⟩) (fun _ h => absurd h List.not_mem_nil) dX8_has_14 hlocks
  · refine lv_iconst (v := 1) hx hb dX8_has_9 (by decide) ?_
    refine lv_goto (tgt := 14) hx hb dX8_has_10 (by decide) ?_
    have hE : (m_has v0 v1) = 1 := by rw [m_has, if_pos c_2]
    exact W.zret (v := 1) hx hb hr rfl (fun t ht hW => ⟨by rw [hE], ht⟩) (fun _ h => absurd h List.not_mem_nil) dX8_has_14 hlocks
-- X8_numbersOf
def m_numbersOf (v0 : Int32) : Int32 := if v0 = 98 then 3 else (if v0 = 99 then 4 else (if v0 = 103 then 1 else (if v0 = 104 then 2 else (if v0 = 107 then 4 else (if v0 = 108 then 1 else (if v0 = 111 then 2 else (if v0 = 112 then 2 else (if v0 = 114 then 6 else (if v0 = 115 then 1 else 0)))))))))
set_option maxHeartbeats 4000000 in
set_option maxRecDepth 100000 in
theorem c_m_numbersOf (v0 : Int32) : Met l yX8_numbersOf (.code yX8_numbersOf cX8_numbersOf 1 (some .int) :: kT) ({ frames := 0, cells := 0, slots := 0, locals := 0 } : Room) (va_Pc [.int v0] (fun _ => True)) (kR (some (.int (m_numbersOf v0)))) 0 0 (fun _ => False) := by
  refine kMet (by decide) (fun p e s m args below meth c ls hx hb hr hml hts hown hlocks hname hargs hB hl => ?_) (Nat.le_of_ble_eq_true rfl)
  have hl : lv_has ls 1 [(0, .int v0)] := hl
  refine lv_iload_n hx hb dX8_numbersOf_0 rfl (lv_at hl 0 rfl) ?_
  by_cases c_11 : v0 = 98
  · refine lv_tableIn (tgt := 91) hx hb dX8_numbersOf_1 (by rw [c_11]; decide) (by rw [c_11]; decide) (by rw [c_11]; rfl) (by decide) ?_
    refine lv_iconst (v := 3) hx hb dX8_numbersOf_91 (by decide) ?_
    have hE : (m_numbersOf v0) = 3 := by rw [m_numbersOf, if_pos c_11]
    exact W.iret (v := 3) hx hb hr (fun t ht hW => ⟨by rw [hE], ht⟩) (fun _ h => absurd h List.not_mem_nil) dX8_numbersOf_92 hlocks
  · by_cases c_12 : v0 = 99
    · refine lv_tableIn (tgt := 93) hx hb dX8_numbersOf_1 (by rw [c_12]; decide) (by rw [c_12]; decide) (by rw [c_12]; rfl) (by decide) ?_
      refine lv_iconst (v := 4) hx hb dX8_numbersOf_93 (by decide) ?_
      have hE : (m_numbersOf v0) = 4 := by rw [m_numbersOf, if_neg c_11, if_pos c_12]
      exact W.iret (v := 4) hx hb hr (fun t ht hW => ⟨by rw [hE], ht⟩) (fun _ h => absurd h List.not_mem_nil) dX8_numbersOf_94 hlocks
    · by_cases c_13 : v0 = 103
      · refine lv_tableIn (tgt := 97) hx hb dX8_numbersOf_1 (by rw [c_13]; decide) (by rw [c_13]; decide) (by rw [c_13]; rfl) (by decide) ?_
        refine lv_iconst (v := 1) hx hb dX8_numbersOf_97 (by decide) ?_
        have hE : (m_numbersOf v0) = 1 := by rw [m_numbersOf, if_neg c_11, if_neg c_12, if_pos c_13]
        exact W.iret (v := 1) hx hb hr (fun t ht hW => ⟨by rw [hE], ht⟩) (fun _ h => absurd h List.not_mem_nil) dX8_numbersOf_98 hlocks
      · by_cases c_14 : v0 = 104
        · refine lv_tableIn (tgt := 95) hx hb dX8_numbersOf_1 (by rw [c_14]; decide) (by rw [c_14]; decide) (by rw [c_14]; rfl) (by decide) ?_
          refine lv_iconst (v := 2) hx hb dX8_numbersOf_95 (by decide) ?_
          have hE : (m_numbersOf v0) = 2 := by rw [m_numbersOf, if_neg c_11, if_neg c_12, if_neg c_13, if_pos c_14]
          exact W.iret (v := 2) hx hb hr (fun t ht hW => ⟨by rw [hE], ht⟩) (fun _ h => absurd h List.not_mem_nil) dX8_numbersOf_96 hlocks
        · by_cases c_15 : v0 = 107
          · refine lv_tableIn (tgt := 93) hx hb dX8_numbersOf_1 (by rw [c_15]; decide) (by rw [c_15]; decide) (by rw [c_15]; rfl) (by decide) ?_
            refine lv_iconst (v := 4) hx hb dX8_numbersOf_93 (by decide) ?_
            have hE : (m_numbersOf v0) = 4 := by rw [m_numbersOf, if_neg c_11, if_neg c_12, if_neg c_13, if_neg c_14, if_pos c_15]
            exact W.iret (v := 4) hx hb hr (fun t ht hW => ⟨by rw [hE], ht⟩) (fun _ h => absurd h List.not_mem_nil) dX8_numbersOf_94 hlocks
          · by_cases c_16 : v0 = 108
            · refine lv_tableIn (tgt := 97) hx hb dX8_numbersOf_1 (by rw [c_16]; decide) (by rw [c_16]; decide) (by rw [c_16]; rfl) (by decide) ?_
              refine lv_iconst (v := 1) hx hb dX8_numbersOf_97 (by decide) ?_
              have hE : (m_numbersOf v0) = 1 := by rw [m_numbersOf, if_neg c_11, if_neg c_12, if_neg c_13, if_neg c_14, if_neg c_15, if_pos c_16]
              exact W.iret (v := 1) hx hb hr (fun t ht hW => ⟨by rw [hE], ht⟩) (fun _ h => absurd h List.not_mem_nil) dX8_numbersOf_98 hlocks
            · by_cases c_17 : v0 = 111
              · refine lv_tableIn (tgt := 95) hx hb dX8_numbersOf_1 (by rw [c_17]; decide) (by rw [c_17]; decide) (by rw [c_17]; rfl) (by decide) ?_
                refine lv_iconst (v := 2) hx hb dX8_numbersOf_95 (by decide) ?_
                have hE : (m_numbersOf v0) = 2 := by rw [m_numbersOf, if_neg c_11, if_neg c_12, if_neg c_13, if_neg c_14, if_neg c_15, if_neg c_16, if_pos c_17]
                exact W.iret (v := 2) hx hb hr (fun t ht hW => ⟨by rw [hE], ht⟩) (fun _ h => absurd h List.not_mem_nil) dX8_numbersOf_96 hlocks
              · by_cases c_18 : v0 = 112
                · refine lv_tableIn (tgt := 95) hx hb dX8_numbersOf_1 (by rw [c_18]; decide) (by rw [c_18]; decide) (by rw [c_18]; rfl) (by decide) ?_
                  refine lv_iconst (v := 2) hx hb dX8_numbersOf_95 (by decide) ?_
                  have hE : (m_numbersOf v0) = 2 := by rw [m_numbersOf, if_neg c_11, if_neg c_12, if_neg c_13, if_neg c_14, if_neg c_15, if_neg c_16, if_neg c_17, if_pos c_18]
                  exact W.iret (v := 2) hx hb hr (fun t ht hW => ⟨by rw [hE], ht⟩) (fun _ h => absurd h List.not_mem_nil) dX8_numbersOf_96 hlocks
                · by_cases c_19 : v0 = 114
                  · refine lv_tableIn (tgt := 88) hx hb dX8_numbersOf_1 (by rw [c_19]; decide) (by rw [c_19]; decide) (by rw [c_19]; rfl) (by decide) ?_
                    refine lv_bipush (v := 6) hx hb dX8_numbersOf_88 (by decide) ?_
                    have hE : (m_numbersOf v0) = 6 := by rw [m_numbersOf, if_neg c_11, if_neg c_12, if_neg c_13, if_neg c_14, if_neg c_15, if_neg c_16, if_neg c_17, if_neg c_18, if_pos c_19]
                    exact W.iret (v := 6) hx hb hr (fun t ht hW => ⟨by rw [hE], ht⟩) (fun _ h => absurd h List.not_mem_nil) dX8_numbersOf_90 hlocks
                  · by_cases c_20 : v0 = 115
                    · refine lv_tableIn (tgt := 97) hx hb dX8_numbersOf_1 (by rw [c_20]; decide) (by rw [c_20]; decide) (by rw [c_20]; rfl) (by decide) ?_
                      refine lv_iconst (v := 1) hx hb dX8_numbersOf_97 (by decide) ?_
                      have hE : (m_numbersOf v0) = 1 := by rw [m_numbersOf, if_neg c_11, if_neg c_12, if_neg c_13, if_neg c_14, if_neg c_15, if_neg c_16, if_neg c_17, if_neg c_18, if_neg c_19, if_pos c_20]
                      exact W.iret (v := 1) hx hb hr (fun t ht hW => ⟨by rw [hE], ht⟩) (fun _ h => absurd h List.not_mem_nil) dX8_numbersOf_98 hlocks
                    · refine kd_table (tgt := 99) (lo := 98) (hi := 115) hx hb dX8_numbersOf_1 (fun q h1 h2 hq => by
                        have n98 : v0.toInt ≠ 98 := fun q => by first | exact absurd (Int32.toInt_inj.mp (q.trans (show (98 : Int) = (98 : Int32).toInt by decide))) (by assumption)
                        have n99 : v0.toInt ≠ 99 := fun q => by first | exact absurd (Int32.toInt_inj.mp (q.trans (show (99 : Int) = (99 : Int32).toInt by decide))) (by assumption)
                        have n103 : v0.toInt ≠ 103 := fun q => by first | exact absurd (Int32.toInt_inj.mp (q.trans (show (103 : Int) = (103 : Int32).toInt by decide))) (by assumption)
                        have n104 : v0.toInt ≠ 104 := fun q => by first | exact absurd (Int32.toInt_inj.mp (q.trans (show (104 : Int) = (104 : Int32).toInt by decide))) (by assumption)
                        have n107 : v0.toInt ≠ 107 := fun q => by first | exact absurd (Int32.toInt_inj.mp (q.trans (show (107 : Int) = (107 : Int32).toInt by decide))) (by assumption)
                        have n108 : v0.toInt ≠ 108 := fun q => by first | exact absurd (Int32.toInt_inj.mp (q.trans (show (108 : Int) = (108 : Int32).toInt by decide))) (by assumption)
                        have n111 : v0.toInt ≠ 111 := fun q => by first | exact absurd (Int32.toInt_inj.mp (q.trans (show (111 : Int) = (111 : Int32).toInt by decide))) (by assumption)
                        have n112 : v0.toInt ≠ 112 := fun q => by first | exact absurd (Int32.toInt_inj.mp (q.trans (show (112 : Int) = (112 : Int32).toInt by decide))) (by assumption)
                        have n114 : v0.toInt ≠ 114 := fun q => by first | exact absurd (Int32.toInt_inj.mp (q.trans (show (114 : Int) = (114 : Int32).toInt by decide))) (by assumption)
                        have n115 : v0.toInt ≠ 115 := fun q => by first | exact absurd (Int32.toInt_inj.mp (q.trans (show (115 : Int) = (115 : Int32).toInt by decide))) (by assumption)
                        rcases (show q = 100 ∨ q = 101 ∨ q = 102 ∨ q = 105 ∨ q = 106 ∨ q = 109 ∨ q = 110 ∨ q = 113 by omega) with rfl | rfl | rfl | rfl | rfl | rfl | rfl | rfl <;> rfl) (by decide) ?_
                      refine lv_iconst (v := 0) hx hb dX8_numbersOf_99 (by decide) ?_
                      have hE : (m_numbersOf v0) = 0 := by rw [m_numbersOf, if_neg c_11, if_neg c_12, if_neg c_13, if_neg c_14, if_neg c_15, if_neg c_16, if_neg c_17, if_neg c_18, if_neg c_19, if_neg c_20]
                      exact W.iret (v := 0) hx hb hr (fun t ht hW => ⟨by rw [hE], ht⟩) (fun _ h => absurd h List.not_mem_nil) dX8_numbersOf_100 hlocks
-- X8_leastOf
def m_leastOf (v0 : Int32) (v1 : Int32) : Int32 := if v0 = 114 then (if v1 = 3 then 1 else 0) else (if v0 = 98 then (if v1 = 1 then 1 else 0) else (if v0 = 104 then (if v1 = 1 then 1 else 0) else (if v0 = 111 then (if v1 = 1 then 1 else 0) else 0)))
set_option maxHeartbeats 4000000 in
set_option maxRecDepth 100000 in
theorem c_m_leastOf (v0 : Int32) (v1 : Int32) : Met l yX8_leastOf (.code yX8_leastOf cX8_leastOf 2 (some .int) :: kT) ({ frames := 0, cells := 0, slots := 0, locals := 0 } : Room) (va_Pc [.int v0, .int v1] (fun _ => True)) (kR (some (.int (m_leastOf v0 v1)))) 0 0 (fun _ => False) := by
  refine kMet (by decide) (fun p e s m args below meth c ls hx hb hr hml hts hown hlocks hname hargs hB hl => ?_) (Nat.le_of_ble_eq_true rfl)
  have hl : lv_has ls 2 [(0, .int v0), (1, .int v1)] := hl
  refine lv_iload_n hx hb dX8_leastOf_0 rfl (lv_at hl 0 rfl) ?_
  refine lv_bipush (v := 114) hx hb dX8_leastOf_1 (by decide) ?_
  refine lv_icmp_ne (tgt := 11) hx hb dX8_leastOf_3 (by decide) (fun c_15 => ?_) (fun c_15 => ?_)
  · refine lv_iload_n hx hb dX8_leastOf_11 rfl (lv_at hl 0 rfl) ?_
    refine lv_bipush (v := 98) hx hb dX8_leastOf_12 (by decide) ?_
    refine lv_icmp_ne (tgt := 22) hx hb dX8_leastOf_14 (by decide) (fun c_16 => ?_) (fun c_16 => ?_)
    · refine lv_iload_n hx hb dX8_leastOf_22 rfl (lv_at hl 0 rfl) ?_
      refine lv_bipush (v := 104) hx hb dX8_leastOf_23 (by decide) ?_
      refine lv_icmp_ne (tgt := 33) hx hb dX8_leastOf_25 (by decide) (fun c_17 => ?_) (fun c_17 => ?_)
      · refine lv_iload_n hx hb dX8_leastOf_33 rfl (lv_at hl 0 rfl) ?_
        refine lv_bipush (v := 111) hx hb dX8_leastOf_34 (by decide) ?_
        refine lv_icmp_ne (tgt := 48) hx hb dX8_leastOf_36 (by decide) (fun c_18 => ?_) (fun c_18 => ?_)
        · refine lv_iconst (v := 0) hx hb dX8_leastOf_48 (by decide) ?_
          have hE : (m_leastOf v0 v1) = 0 := by rw [m_leastOf, if_neg c_15, if_neg c_16, if_neg c_17, if_neg c_18]
          exact W.iret (v := 0) hx hb hr (fun t ht hW => ⟨by rw [hE], ht⟩) (fun _ h => absurd h List.not_mem_nil) dX8_leastOf_49 hlocks
        · refine lv_iload_n hx hb dX8_leastOf_39 rfl (lv_at hl 1 rfl) ?_
          refine lv_iconst (v := 1) hx hb dX8_leastOf_40 (by decide) ?_
          refine lv_icmp_ne (tgt := 48) hx hb dX8_leastOf_41 (by decide) (fun c_19 => ?_) (fun c_19 => ?_)
          · refine lv_iconst (v := 0) hx hb dX8_leastOf_48 (by decide) ?_
            have hE : (m_leastOf v0 v1) = 0 := by rw [m_leastOf, if_neg c_15, if_neg c_16, if_neg c_17, if_pos c_18, if_neg c_19]
            exact W.iret (v := 0) hx hb hr (fun t ht hW => ⟨by rw [hE], ht⟩) (fun _ h => absurd h List.not_mem_nil) dX8_leastOf_49 hlocks
          · refine lv_iconst (v := 1) hx hb dX8_leastOf_44 (by decide) ?_
            refine lv_goto (tgt := 49) hx hb dX8_leastOf_45 (by decide) ?_
            have hE : (m_leastOf v0 v1) = 1 := by rw [m_leastOf, if_neg c_15, if_neg c_16, if_neg c_17, if_pos c_18, if_pos c_19]
            exact W.iret (v := 1) hx hb hr (fun t ht hW => ⟨by rw [hE], ht⟩) (fun _ h => absurd h List.not_mem_nil) dX8_leastOf_49 hlocks
      · refine lv_iload_n hx hb dX8_leastOf_28 rfl (lv_at hl 1 rfl) ?_
        refine lv_iconst (v := 1) hx hb dX8_leastOf_29 (by decide) ?_
        refine lv_icmp_eq (tgt := 44) hx hb dX8_leastOf_30 (by decide) (fun c_20 => ?_) (fun c_20 => ?_)
        · refine lv_iconst (v := 1) hx hb dX8_leastOf_44 (by decide) ?_
          refine lv_goto (tgt := 49) hx hb dX8_leastOf_45 (by decide) ?_
          have hE : (m_leastOf v0 v1) = 1 := by rw [m_leastOf, if_neg c_15, if_neg c_16, if_pos c_17, if_pos c_20]
          exact W.iret (v := 1) hx hb hr (fun t ht hW => ⟨by rw [hE], ht⟩) (fun _ h => absurd h List.not_mem_nil) dX8_leastOf_49 hlocks
        · refine lv_iload_n hx hb dX8_leastOf_33 rfl (lv_at hl 0 rfl) ?_
          refine lv_bipush (v := 111) hx hb dX8_leastOf_34 (by decide) ?_
          refine lv_icmp_ne (tgt := 48) hx hb dX8_leastOf_36 (by decide) (fun _ => ?_) (fun c_21 => absurd c_21 (by rw [c_17]; decide))
          refine lv_iconst (v := 0) hx hb dX8_leastOf_48 (by decide) ?_
          have hE : (m_leastOf v0 v1) = 0 := by rw [m_leastOf, if_neg c_15, if_neg c_16, if_pos c_17, if_neg c_20]
          exact W.iret (v := 0) hx hb hr (fun t ht hW => ⟨by rw [hE], ht⟩) (fun _ h => absurd h List.not_mem_nil) dX8_leastOf_49 hlocks
    · refine lv_iload_n hx hb dX8_leastOf_17 rfl (lv_at hl 1 rfl) ?_
      refine lv_iconst (v := 1) hx hb dX8_leastOf_18 (by decide) ?_
      refine lv_icmp_eq (tgt := 44) hx hb dX8_leastOf_19 (by decide) (fun c_22 => ?_) (fun c_22 => ?_)
      · refine lv_iconst (v := 1) hx hb dX8_leastOf_44 (by decide) ?_
        refine lv_goto (tgt := 49) hx hb dX8_leastOf_45 (by decide) ?_
        have hE : (m_leastOf v0 v1) = 1 := by rw [m_leastOf, if_neg c_15, if_pos c_16, if_pos c_22]
        exact W.iret (v := 1) hx hb hr (fun t ht hW => ⟨by rw [hE], ht⟩) (fun _ h => absurd h List.not_mem_nil) dX8_leastOf_49 hlocks
      · refine lv_iload_n hx hb dX8_leastOf_22 rfl (lv_at hl 0 rfl) ?_
        refine lv_bipush (v := 104) hx hb dX8_leastOf_23 (by decide) ?_
        refine lv_icmp_ne (tgt := 33) hx hb dX8_leastOf_25 (by decide) (fun _ => ?_) (fun c_23 => absurd c_23 (by rw [c_16]; decide))
        refine lv_iload_n hx hb dX8_leastOf_33 rfl (lv_at hl 0 rfl) ?_
        refine lv_bipush (v := 111) hx hb dX8_leastOf_34 (by decide) ?_
        refine lv_icmp_ne (tgt := 48) hx hb dX8_leastOf_36 (by decide) (fun _ => ?_) (fun c_24 => absurd c_24 (by rw [c_16]; decide))
        refine lv_iconst (v := 0) hx hb dX8_leastOf_48 (by decide) ?_
        have hE : (m_leastOf v0 v1) = 0 := by rw [m_leastOf, if_neg c_15, if_pos c_16, if_neg c_22]
        exact W.iret (v := 0) hx hb hr (fun t ht hW => ⟨by rw [hE], ht⟩) (fun _ h => absurd h List.not_mem_nil) dX8_leastOf_49 hlocks
  · refine lv_iload_n hx hb dX8_leastOf_6 rfl (lv_at hl 1 rfl) ?_
    refine lv_iconst (v := 3) hx hb dX8_leastOf_7 (by decide) ?_
    refine lv_icmp_eq (tgt := 44) hx hb dX8_leastOf_8 (by decide) (fun c_25 => ?_) (fun c_25 => ?_)
    · refine lv_iconst (v := 1) hx hb dX8_leastOf_44 (by decide) ?_
      refine lv_goto (tgt := 49) hx hb dX8_leastOf_45 (by decide) ?_
      have hE : (m_leastOf v0 v1) = 1 := by rw [m_leastOf, if_pos c_15, if_pos c_25]
      exact W.iret (v := 1) hx hb hr (fun t ht hW => ⟨by rw [hE], ht⟩) (fun _ h => absurd h List.not_mem_nil) dX8_leastOf_49 hlocks
    · refine lv_iload_n hx hb dX8_leastOf_11 rfl (lv_at hl 0 rfl) ?_
      refine lv_bipush (v := 98) hx hb dX8_leastOf_12 (by decide) ?_
      refine lv_icmp_ne (tgt := 22) hx hb dX8_leastOf_14 (by decide) (fun _ => ?_) (fun c_26 => absurd c_26 (by rw [c_15]; decide))
      refine lv_iload_n hx hb dX8_leastOf_22 rfl (lv_at hl 0 rfl) ?_
      refine lv_bipush (v := 104) hx hb dX8_leastOf_23 (by decide) ?_
      refine lv_icmp_ne (tgt := 33) hx hb dX8_leastOf_25 (by decide) (fun _ => ?_) (fun c_27 => absurd c_27 (by rw [c_15]; decide))
      refine lv_iload_n hx hb dX8_leastOf_33 rfl (lv_at hl 0 rfl) ?_
      refine lv_bipush (v := 111) hx hb dX8_leastOf_34 (by decide) ?_
      refine lv_icmp_ne (tgt := 48) hx hb dX8_leastOf_36 (by decide) (fun _ => ?_) (fun c_28 => absurd c_28 (by rw [c_15]; decide))
      refine lv_iconst (v := 0) hx hb dX8_leastOf_48 (by decide) ?_
      have hE : (m_leastOf v0 v1) = 0 := by rw [m_leastOf, if_pos c_15, if_neg c_25]
      exact W.iret (v := 0) hx hb hr (fun t ht hW => ⟨by rw [hE], ht⟩) (fun _ h => absurd h List.not_mem_nil) dX8_leastOf_49 hlocks
-- X8_mostOf
def m_mostOf (v0 : Int32) (v1 : Int32) : Int32 := if v0 = 98 then (if v1 = 0 then 7 else (if v1 = 1 then 999 else 10)) else (if v0 = 99 then (if v1 = 0 then 2 else 10) else (if v0 = 103 then 99 else (if v0 = 104 then (if v1 = 0 then 9 else 50) else (if v0 = 107 then (if v1 = 0 then 2 else (if 3 ≤ v1 then 9 else 60)) else (if v0 = 111 then (if v1 = 0 then 200 else 20) else (if v0 = 112 then (if v1 = 0 then 7 else 99) else (if v0 = 114 then (if 2 ≤ v1 then (if v1 = 2 then 20 else (if 5 ≤ v1 then 8 else 999)) else 200) else (if v0 = 115 then 2 else 999))))))))
set_option maxHeartbeats 4000000 in
set_option maxRecDepth 100000 in
theorem c_m_mostOf (v0 : Int32) (v1 : Int32) : Met l yX8_mostOf (.code yX8_mostOf cX8_mostOf 2 (some .int) :: kT) ({ frames := 0, cells := 0, slots := 0, locals := 0 } : Room) (va_Pc [.int v0, .int v1] (fun _ => True)) (kR (some (.int (m_mostOf v0 v1)))) 0 0 (fun _ => False) := by
  refine kMet (by decide) (fun p e s m args below meth c ls hx hb hr hml hts hown hlocks hname hargs hB hl => ?_) (Nat.le_of_ble_eq_true rfl)
  have hl : lv_has ls 2 [(0, .int v0), (1, .int v1)] := hl
  refine lv_iload_n hx hb dX8_mostOf_0 rfl (lv_at hl 0 rfl) ?_
  by_cases c_21 : v0 = 98
  · refine lv_tableIn (tgt := 123) hx hb dX8_mostOf_1 (by rw [c_21]; decide) (by rw [c_21]; decide) (by rw [c_21]; rfl) (by decide) ?_
    refine lv_iload_n hx hb dX8_mostOf_123 rfl (lv_at hl 1 rfl) ?_
    refine lv_if_ne (tgt := 132) hx hb dX8_mostOf_124 (by decide) (fun c_22 => ?_) (fun c_22 => ?_)
    · refine lv_iload_n hx hb dX8_mostOf_132 rfl (lv_at hl 1 rfl) ?_
      refine lv_iconst (v := 1) hx hb dX8_mostOf_133 (by decide) ?_
      refine lv_icmp_ne (tgt := 143) hx hb dX8_mostOf_134 (by decide) (fun c_23 => ?_) (fun c_23 => ?_)
      · refine lv_bipush (v := 10) hx hb dX8_mostOf_143 (by decide) ?_
        have hE : (m_mostOf v0 v1) = 10 := by rw [m_mostOf, if_pos c_21, if_neg c_22, if_neg c_23]
        exact W.iret (v := 10) hx hb hr (fun t ht hW => ⟨by rw [hE], ht⟩) (fun _ h => absurd h List.not_mem_nil) dX8_mostOf_145 hlocks
      · refine lv_sipush (v := 999) hx hb dX8_mostOf_137 (by decide) ?_
        refine lv_goto (tgt := 145) hx hb dX8_mostOf_140 (by decide) ?_
        have hE : (m_mostOf v0 v1) = 999 := by rw [m_mostOf, if_pos c_21, if_neg c_22, if_pos c_23]
        exact W.iret (v := 999) hx hb hr (fun t ht hW => ⟨by rw [hE], ht⟩) (fun _ h => absurd h List.not_mem_nil) dX8_mostOf_145 hlocks
    · refine lv_bipush (v := 7) hx hb dX8_mostOf_127 (by decide) ?_
      refine lv_goto (tgt := 145) hx hb dX8_mostOf_129 (by decide) ?_
      have hE : (m_mostOf v0 v1) = 7 := by rw [m_mostOf, if_pos c_21, if_pos c_22]
      exact W.iret (v := 7) hx hb hr (fun t ht hW => ⟨by rw [hE], ht⟩) (fun _ h => absurd h List.not_mem_nil) dX8_mostOf_145 hlocks
  · by_cases c_24 : v0 = 99
    · refine lv_tableIn (tgt := 179) hx hb dX8_mostOf_1 (by rw [c_24]; decide) (by rw [c_24]; decide) (by rw [c_24]; rfl) (by decide) ?_
      refine lv_iload_n hx hb dX8_mostOf_179 rfl (lv_at hl 1 rfl) ?_
      refine lv_if_ne (tgt := 187) hx hb dX8_mostOf_180 (by decide) (fun c_25 => ?_) (fun c_25 => ?_)
      · refine lv_bipush (v := 10) hx hb dX8_mostOf_187 (by decide) ?_
        have hE : (m_mostOf v0 v1) = 10 := by rw [m_mostOf, if_neg c_21, if_pos c_24, if_neg c_25]
        exact W.iret (v := 10) hx hb hr (fun t ht hW => ⟨by rw [hE], ht⟩) (fun _ h => absurd h List.not_mem_nil) dX8_mostOf_189 hlocks
      · refine lv_iconst (v := 2) hx hb dX8_mostOf_183 (by decide) ?_
        refine lv_goto (tgt := 189) hx hb dX8_mostOf_184 (by decide) ?_
        have hE : (m_mostOf v0 v1) = 2 := by rw [m_mostOf, if_neg c_21, if_pos c_24, if_pos c_25]
        exact W.iret (v := 2) hx hb hr (fun t ht hW => ⟨by rw [hE], ht⟩) (fun _ h => absurd h List.not_mem_nil) dX8_mostOf_189 hlocks
    · by_cases c_26 : v0 = 103
      · refine lv_tableIn (tgt := 204) hx hb dX8_mostOf_1 (by rw [c_26]; decide) (by rw [c_26]; decide) (by rw [c_26]; rfl) (by decide) ?_
        refine lv_bipush (v := 99) hx hb dX8_mostOf_204 (by decide) ?_
        have hE : (m_mostOf v0 v1) = 99 := by rw [m_mostOf, if_neg c_21, if_neg c_24, if_pos c_26]
        exact W.iret (v := 99) hx hb hr (fun t ht hW => ⟨by rw [hE], ht⟩) (fun _ h => absurd h List.not_mem_nil) dX8_mostOf_206 hlocks
      · by_cases c_27 : v0 = 104
        · refine lv_tableIn (tgt := 192) hx hb dX8_mostOf_1 (by rw [c_27]; decide) (by rw [c_27]; decide) (by rw [c_27]; rfl) (by decide) ?_
          refine lv_iload_n hx hb dX8_mostOf_192 rfl (lv_at hl 1 rfl) ?_
          refine lv_if_ne (tgt := 201) hx hb dX8_mostOf_193 (by decide) (fun c_28 => ?_) (fun c_28 => ?_)
          · refine lv_bipush (v := 50) hx hb dX8_mostOf_201 (by decide) ?_
            have hE : (m_mostOf v0 v1) = 50 := by rw [m_mostOf, if_neg c_21, if_neg c_24, if_neg c_26, if_pos c_27, if_neg c_28]
            exact W.iret (v := 50) hx hb hr (fun t ht hW => ⟨by rw [hE], ht⟩) (fun _ h => absurd h List.not_mem_nil) dX8_mostOf_203 hlocks
          · refine lv_bipush (v := 9) hx hb dX8_mostOf_196 (by decide) ?_
            refine lv_goto (tgt := 203) hx hb dX8_mostOf_198 (by decide) ?_
            have hE : (m_mostOf v0 v1) = 9 := by rw [m_mostOf, if_neg c_21, if_neg c_24, if_neg c_26, if_pos c_27, if_pos c_28]
            exact W.iret (v := 9) hx hb hr (fun t ht hW => ⟨by rw [hE], ht⟩) (fun _ h => absurd h List.not_mem_nil) dX8_mostOf_203 hlocks
        · by_cases c_29 : v0 = 107
          · refine lv_tableIn (tgt := 158) hx hb dX8_mostOf_1 (by rw [c_29]; decide) (by rw [c_29]; decide) (by rw [c_29]; rfl) (by decide) ?_
            refine lv_iload_n hx hb dX8_mostOf_158 rfl (lv_at hl 1 rfl) ?_
            refine lv_if_ne (tgt := 166) hx hb dX8_mostOf_159 (by decide) (fun c_30 => ?_) (fun c_30 => ?_)
            · refine lv_iload_n hx hb dX8_mostOf_166 rfl (lv_at hl 1 rfl) ?_
              refine lv_iconst (v := 3) hx hb dX8_mostOf_167 (by decide) ?_
              refine lv_icmp_ge (tgt := 176) hx hb dX8_mostOf_168 (by decide) (fun c_31 => ?_) (fun c_31 => ?_)
              · refine lv_bipush (v := 9) hx hb dX8_mostOf_176 (by decide) ?_
                have hE : (m_mostOf v0 v1) = 9 := by rw [m_mostOf, if_neg c_21, if_neg c_24, if_neg c_26, if_neg c_27, if_pos c_29, if_neg c_30, if_pos c_31]
                exact W.iret (v := 9) hx hb hr (fun t ht hW => ⟨by rw [hE], ht⟩) (fun _ h => absurd h List.not_mem_nil) dX8_mostOf_178 hlocks
              · refine lv_bipush (v := 60) hx hb dX8_mostOf_171 (by decide) ?_
                refine lv_goto (tgt := 178) hx hb dX8_mostOf_173 (by decide) ?_
                have hE : (m_mostOf v0 v1) = 60 := by rw [m_mostOf, if_neg c_21, if_neg c_24, if_neg c_26, if_neg c_27, if_pos c_29, if_neg c_30, if_neg c_31]
                exact W.iret (v := 60) hx hb hr (fun t ht hW => ⟨by rw [hE], ht⟩) (fun _ h => absurd h List.not_mem_nil) dX8_mostOf_178 hlocks
            · refine lv_iconst (v := 2) hx hb dX8_mostOf_162 (by decide) ?_
              refine lv_goto (tgt := 178) hx hb dX8_mostOf_163 (by decide) ?_
              have hE : (m_mostOf v0 v1) = 2 := by rw [m_mostOf, if_neg c_21, if_neg c_24, if_neg c_26, if_neg c_27, if_pos c_29, if_pos c_30]
              exact W.iret (v := 2) hx hb hr (fun t ht hW => ⟨by rw [hE], ht⟩) (fun _ h => absurd h List.not_mem_nil) dX8_mostOf_178 hlocks
          · by_cases c_32 : v0 = 111
            · refine lv_tableIn (tgt := 207) hx hb dX8_mostOf_1 (by rw [c_32]; decide) (by rw [c_32]; decide) (by rw [c_32]; rfl) (by decide) ?_
              refine lv_iload_n hx hb dX8_mostOf_207 rfl (lv_at hl 1 rfl) ?_
              refine lv_if_ne (tgt := 217) hx hb dX8_mostOf_208 (by decide) (fun c_33 => ?_) (fun c_33 => ?_)
              · refine lv_bipush (v := 20) hx hb dX8_mostOf_217 (by decide) ?_
                have hE : (m_mostOf v0 v1) = 20 := by rw [m_mostOf, if_neg c_21, if_neg c_24, if_neg c_26, if_neg c_27, if_neg c_29, if_pos c_32, if_neg c_33]
                exact W.iret (v := 20) hx hb hr (fun t ht hW => ⟨by rw [hE], ht⟩) (fun _ h => absurd h List.not_mem_nil) dX8_mostOf_219 hlocks
              · refine lv_sipush (v := 200) hx hb dX8_mostOf_211 (by decide) ?_
                refine lv_goto (tgt := 219) hx hb dX8_mostOf_214 (by decide) ?_
                have hE : (m_mostOf v0 v1) = 200 := by rw [m_mostOf, if_neg c_21, if_neg c_24, if_neg c_26, if_neg c_27, if_neg c_29, if_pos c_32, if_pos c_33]
                exact W.iret (v := 200) hx hb hr (fun t ht hW => ⟨by rw [hE], ht⟩) (fun _ h => absurd h List.not_mem_nil) dX8_mostOf_219 hlocks
            · by_cases c_34 : v0 = 112
              · refine lv_tableIn (tgt := 146) hx hb dX8_mostOf_1 (by rw [c_34]; decide) (by rw [c_34]; decide) (by rw [c_34]; rfl) (by decide) ?_
                refine lv_iload_n hx hb dX8_mostOf_146 rfl (lv_at hl 1 rfl) ?_
                refine lv_if_ne (tgt := 155) hx hb dX8_mostOf_147 (by decide) (fun c_35 => ?_) (fun c_35 => ?_)
                · refine lv_bipush (v := 99) hx hb dX8_mostOf_155 (by decide) ?_
                  have hE : (m_mostOf v0 v1) = 99 := by rw [m_mostOf, if_neg c_21, if_neg c_24, if_neg c_26, if_neg c_27, if_neg c_29, if_neg c_32, if_pos c_34, if_neg c_35]
                  exact W.iret (v := 99) hx hb hr (fun t ht hW => ⟨by rw [hE], ht⟩) (fun _ h => absurd h List.not_mem_nil) dX8_mostOf_157 hlocks
                · refine lv_bipush (v := 7) hx hb dX8_mostOf_150 (by decide) ?_
                  refine lv_goto (tgt := 157) hx hb dX8_mostOf_152 (by decide) ?_
                  have hE : (m_mostOf v0 v1) = 7 := by rw [m_mostOf, if_neg c_21, if_neg c_24, if_neg c_26, if_neg c_27, if_neg c_29, if_neg c_32, if_pos c_34, if_pos c_35]
                  exact W.iret (v := 7) hx hb hr (fun t ht hW => ⟨by rw [hE], ht⟩) (fun _ h => absurd h List.not_mem_nil) dX8_mostOf_157 hlocks
              · by_cases c_36 : v0 = 114
                · refine lv_tableIn (tgt := 88) hx hb dX8_mostOf_1 (by rw [c_36]; decide) (by rw [c_36]; decide) (by rw [c_36]; rfl) (by decide) ?_
                  refine lv_iload_n hx hb dX8_mostOf_88 rfl (lv_at hl 1 rfl) ?_
                  refine lv_iconst (v := 2) hx hb dX8_mostOf_89 (by decide) ?_
                  refine lv_icmp_ge (tgt := 99) hx hb dX8_mostOf_90 (by decide) (fun c_37 => ?_) (fun c_37 => ?_)
                  · refine lv_iload_n hx hb dX8_mostOf_99 rfl (lv_at hl 1 rfl) ?_
                    refine lv_iconst (v := 2) hx hb dX8_mostOf_100 (by decide) ?_
                    refine lv_icmp_ne (tgt := 109) hx hb dX8_mostOf_101 (by decide) (fun c_38 => ?_) (fun c_38 => ?_)
                    · refine lv_iload_n hx hb dX8_mostOf_109 rfl (lv_at hl 1 rfl) ?_
                      refine lv_iconst (v := 5) hx hb dX8_mostOf_110 (by decide) ?_
                      refine lv_icmp_ge (tgt := 120) hx hb dX8_mostOf_111 (by decide) (fun c_39 => ?_) (fun c_39 => ?_)
                      · refine lv_bipush (v := 8) hx hb dX8_mostOf_120 (by decide) ?_
                        have hE : (m_mostOf v0 v1) = 8 := by rw [m_mostOf, if_neg c_21, if_neg c_24, if_neg c_26, if_neg c_27, if_neg c_29, if_neg c_32, if_neg c_34, if_pos c_36, if_pos c_37, if_neg c_38, if_pos c_39]
                        exact W.iret (v := 8) hx hb hr (fun t ht hW => ⟨by rw [hE], ht⟩) (fun _ h => absurd h List.not_mem_nil) dX8_mostOf_122 hlocks
                      · refine lv_sipush (v := 999) hx hb dX8_mostOf_114 (by decide) ?_
                        refine lv_goto (tgt := 122) hx hb dX8_mostOf_117 (by decide) ?_
                        have hE : (m_mostOf v0 v1) = 999 := by rw [m_mostOf, if_neg c_21, if_neg c_24, if_neg c_26, if_neg c_27, if_neg c_29, if_neg c_32, if_neg c_34, if_pos c_36, if_pos c_37, if_neg c_38, if_neg c_39]
                        exact W.iret (v := 999) hx hb hr (fun t ht hW => ⟨by rw [hE], ht⟩) (fun _ h => absurd h List.not_mem_nil) dX8_mostOf_122 hlocks
                    · refine lv_bipush (v := 20) hx hb dX8_mostOf_104 (by decide) ?_
                      refine lv_goto (tgt := 122) hx hb dX8_mostOf_106 (by decide) ?_
                      have hE : (m_mostOf v0 v1) = 20 := by rw [m_mostOf, if_neg c_21, if_neg c_24, if_neg c_26, if_neg c_27, if_neg c_29, if_neg c_32, if_neg c_34, if_pos c_36, if_pos c_37, if_pos c_38]
                      exact W.iret (v := 20) hx hb hr (fun t ht hW => ⟨by rw [hE], ht⟩) (fun _ h => absurd h List.not_mem_nil) dX8_mostOf_122 hlocks
                  · refine lv_sipush (v := 200) hx hb dX8_mostOf_93 (by decide) ?_
                    refine lv_goto (tgt := 122) hx hb dX8_mostOf_96 (by decide) ?_
                    have hE : (m_mostOf v0 v1) = 200 := by rw [m_mostOf, if_neg c_21, if_neg c_24, if_neg c_26, if_neg c_27, if_neg c_29, if_neg c_32, if_neg c_34, if_pos c_36, if_neg c_37]
                    exact W.iret (v := 200) hx hb hr (fun t ht hW => ⟨by rw [hE], ht⟩) (fun _ h => absurd h List.not_mem_nil) dX8_mostOf_122 hlocks
                · by_cases c_40 : v0 = 115
                  · refine lv_tableIn (tgt := 190) hx hb dX8_mostOf_1 (by rw [c_40]; decide) (by rw [c_40]; decide) (by rw [c_40]; rfl) (by decide) ?_
                    refine lv_iconst (v := 2) hx hb dX8_mostOf_190 (by decide) ?_
                    have hE : (m_mostOf v0 v1) = 2 := by rw [m_mostOf, if_neg c_21, if_neg c_24, if_neg c_26, if_neg c_27, if_neg c_29, if_neg c_32, if_neg c_34, if_neg c_36, if_pos c_40]
                    exact W.iret (v := 2) hx hb hr (fun t ht hW => ⟨by rw [hE], ht⟩) (fun _ h => absurd h List.not_mem_nil) dX8_mostOf_191 hlocks
                  · refine kd_table (tgt := 220) (lo := 98) (hi := 115) hx hb dX8_mostOf_1 (fun q h1 h2 hq => by
                      have n98 : v0.toInt ≠ 98 := fun q => by first | exact absurd (Int32.toInt_inj.mp (q.trans (show (98 : Int) = (98 : Int32).toInt by decide))) (by assumption)
                      have n99 : v0.toInt ≠ 99 := fun q => by first | exact absurd (Int32.toInt_inj.mp (q.trans (show (99 : Int) = (99 : Int32).toInt by decide))) (by assumption)
                      have n103 : v0.toInt ≠ 103 := fun q => by first | exact absurd (Int32.toInt_inj.mp (q.trans (show (103 : Int) = (103 : Int32).toInt by decide))) (by assumption)
                      have n104 : v0.toInt ≠ 104 := fun q => by first | exact absurd (Int32.toInt_inj.mp (q.trans (show (104 : Int) = (104 : Int32).toInt by decide))) (by assumption)
                      have n107 : v0.toInt ≠ 107 := fun q => by first | exact absurd (Int32.toInt_inj.mp (q.trans (show (107 : Int) = (107 : Int32).toInt by decide))) (by assumption)
                      have n111 : v0.toInt ≠ 111 := fun q => by first | exact absurd (Int32.toInt_inj.mp (q.trans (show (111 : Int) = (111 : Int32).toInt by decide))) (by assumption)
                      have n112 : v0.toInt ≠ 112 := fun q => by first | exact absurd (Int32.toInt_inj.mp (q.trans (show (112 : Int) = (112 : Int32).toInt by decide))) (by assumption)
                      have n114 : v0.toInt ≠ 114 := fun q => by first | exact absurd (Int32.toInt_inj.mp (q.trans (show (114 : Int) = (114 : Int32).toInt by decide))) (by assumption)
                      have n115 : v0.toInt ≠ 115 := fun q => by first | exact absurd (Int32.toInt_inj.mp (q.trans (show (115 : Int) = (115 : Int32).toInt by decide))) (by assumption)
                      rcases (show q = 100 ∨ q = 101 ∨ q = 102 ∨ q = 105 ∨ q = 106 ∨ q = 108 ∨ q = 109 ∨ q = 110 ∨ q = 113 by omega) with rfl | rfl | rfl | rfl | rfl | rfl | rfl | rfl | rfl <;> rfl) (by decide) ?_
                    refine lv_sipush (v := 999) hx hb dX8_mostOf_220 (by decide) ?_
                    have hE : (m_mostOf v0 v1) = 999 := by rw [m_mostOf, if_neg c_21, if_neg c_24, if_neg c_26, if_neg c_27, if_neg c_29, if_neg c_32, if_neg c_34, if_neg c_36, if_neg c_40]
                    exact W.iret (v := 999) hx hb hr (fun t ht hW => ⟨by rw [hE], ht⟩) (fun _ h => absurd h List.not_mem_nil) dX8_mostOf_223 hlocks
-- X8_done
def m_done_k4 (RS : Nat → Int32) (v2 : Int32) : Int32 := (v2 * (RS 18))
def m_done_L4 (RA : Nat → Nat → Int32) (v1 : Nat) : Nat → Nat → Int32 → Int32
  | 0, i, v2 => v2
  | n + 1, i, v2 => if (RA 37 ((3 * v1) + i)) = 0 then m_done_L4 RA v1 n (i + 1) (v2 + 1) else m_done_L4 RA v1 n (i + 1) (v2 + 0)
def m_done (RA : Nat → Nat → Int32) (RS : Nat → Int32) (v1 : Nat) : Int32 := m_done_k4 RS (m_done_L4 RA v1 ((RA 25 v1).toNatClampNeg) 0 0)
set_option maxHeartbeats 4000000 in
set_option maxRecDepth 100000 in
theorem c_m_done (hI : kInj ad 24) (v1 : Nat) (hM : mI RA RS RN) (hi : v1 < 8) : Met l yX8_done (.code yX8_done cX8_done 4 (some .int) :: kT) ({ frames := 0, cells := 0, slots := 0, locals := 0 } : Room) (va_Pc [.ref (ad 0), .int (nI v1)] (kB (dC, dI) [(cI, .int)] (RWs cI ad RA RS RN RL))) (kR (some (.int (m_done RA RS v1)))) 0 0 (fun _ => False) := by
  refine kMet (by decide) (fun p e s m args below meth c ls hx hb hr hml hts hown hlocks hname hargs hB hl => ?_) (Nat.le_of_ble_eq_true rfl)
  obtain ⟨hP, hK, hN⟩ := hB
  have hl : lv_has ls 4 [(0, .ref (ad 0)), (1, .int (nI v1))] := hl
  have h25 := mI_pm hM v1 hi
  refine lv_iconst (v := 0) hx hb dX8_done_0 (by decide) ?_
  refine lv_istore_n (lv' := [(2, .int 0), (0, .ref (ad 0)), (1, .int (nI v1))]) hx hb dX8_done_1 rfl hl (by decide) rfl (fun ls hl => ?_)
  refine lv_iconst (v := 0) hx hb dX8_done_2 (by decide) ?_
  refine lv_istore_n (lv' := [(3, .int 0), (2, .int 0), (0, .ref (ad 0)), (1, .int (nI v1))]) hx hb dX8_done_3 rfl hl (by decide) rfl (fun ls hl => ?_)
  have rest_4 : ∀ (x2_4 : Int32), ∀ (ls : Array Slot), lv_has ls 4 [(0, .ref (ad 0)), (2, .int x2_4)] → (m_done RA RS v1) = m_done_k4 RS x2_4 → W p l e ({ frames := 0, cells := 0, slots := 0, locals := 0 } : Room) s m args below meth c s.heap [] 0 0 (MQ below (kR (some (.int (m_done RA RS v1)))) args s 0 0 (fun _ => False)) (F0 m 41 ls []) := by
    intro x2_4 ls hl  hF_4
    refine lv_iload_n hx hb dX8_done_41 rfl (lv_at hl 1 rfl) ?_
    refine lv_aload_n hx hb dX8_done_42 rfl (lv_at hl 0 rfl) ?_
    refine m_get (v := .int (RS 18)) hx hb hts hown hK hP 18 (by decide) rfl kX8_151 rfl dX8_done_43 ?_
    refine lv_imul hx hb dX8_done_46 ?_
    have hE : (m_done RA RS v1) = (x2_4 * (RS 18)) := hF_4.trans (by rw [m_done_k4])
    exact W.iret (v := (x2_4 * (RS 18))) hx hb hr (fun t ht hW => ⟨by rw [hE], ht⟩) (fun _ h => absurd h List.not_mem_nil) dX8_done_47 hlocks
  have hN_4 : ((RA 25 v1).toNatClampNeg) < 2 ^ 31 := kcl_lt _
  have loop_4 : ∀ (n_4 i_4 : Nat) (x2_4 : Int32), i_4 + n_4 = (RA 25 v1).toNatClampNeg → ∀ (ls : Array Slot), lv_has ls 4 [(0, .ref (ad 0)), (1, .int (nI v1)), (2, .int x2_4), (3, .int (nI i_4))] → (∀ (ls : Array Slot), lv_has ls 4 [(0, .ref (ad 0)), (2, .int (m_done_L4 RA v1 n_4 i_4 x2_4))] → W p l e ({ frames := 0, cells := 0, slots := 0, locals := 0 } : Room) s m args below meth c s.heap [] 0 0 (MQ below (kR (some (.int (m_done RA RS v1)))) args s 0 0 (fun _ => False)) (F0 m 41 ls [])) → W p l e ({ frames := 0, cells := 0, slots := 0, locals := 0 } : Room) s m args below meth c s.heap [] 0 0 (MQ below (kR (some (.int (m_done RA RS v1)))) args s 0 0 (fun _ => False)) (F0 m 4 ls []) := by
    intro n_4
    induction n_4 with
    | zero =>
      intro i_4 x2_4 hin_4 ls hl  hk_4
      refine lv_iload_n hx hb dX8_done_4 rfl (lv_at hl 3 rfl) ?_
      refine lv_aload_n hx hb dX8_done_5 rfl (lv_at hl 0 rfl) ?_
      refine m_get (v := .ref (ad 17)) hx hb hts hown hK hP 25 (by decide) rfl kX8_58 rfl dX8_done_6 ?_
      refine lv_iload_n hx hb dX8_done_9 rfl (lv_at hl 1 rfl) ?_
      refine kn_iald (f := (RA 25)) (v := (RA 25 v1)) hx hb hK hP 17 rfl v1 rfl (by omega) (by omega) rfl dX8_done_10 ?_
      refine lv_icmp_ge (tgt := 41) hx hb dX8_done_11 (by decide) (fun _ => ?_) (fun c_3 => absurd (kct_ge (N := (RA 25 v1).toNatClampNeg) rfl (by omega) (by omega)) c_3)
      have hL_4 : (m_done_L4 RA v1 0 i_4 x2_4) = x2_4 := by rw [m_done_L4.eq_1]
      try rw [hL_4] at hk_4
      exact hk_4 _ (lv_sub hl [0, 2] rfl) 
    | succ n_4 ih_4 =>
      intro i_4 x2_4 hin_4 ls hl  hk_4
      refine lv_iload_n hx hb dX8_done_4 rfl (lv_at hl 3 rfl) ?_
      refine lv_aload_n hx hb dX8_done_5 rfl (lv_at hl 0 rfl) ?_
      refine m_get (v := .ref (ad 17)) hx hb hts hown hK hP 25 (by decide) rfl kX8_58 rfl dX8_done_6 ?_
      refine lv_iload_n hx hb dX8_done_9 rfl (lv_at hl 1 rfl) ?_
      refine kn_iald (f := (RA 25)) (v := (RA 25 v1)) hx hb hK hP 17 rfl v1 rfl (by omega) (by omega) rfl dX8_done_10 ?_
      refine lv_icmp_ge (tgt := 41) hx hb dX8_done_11 (by decide) (fun c_4 => absurd c_4 (kct_lt (N := (RA 25 v1).toNatClampNeg) rfl (by omega))) (fun _ => ?_)
      refine lv_iload_n hx hb dX8_done_14 rfl (lv_at hl 2 rfl) ?_
      refine lv_aload_n hx hb dX8_done_15 rfl (lv_at hl 0 rfl) ?_
      refine m_get (v := .ref (ad 21)) hx hb hts hown hK hP 37 (by decide) rfl kX8_70 rfl dX8_done_16 ?_
      refine lv_iconst (v := 3) hx hb dX8_done_19 (by decide) ?_
      refine lv_iload_n hx hb dX8_done_20 rfl (lv_at hl 1 rfl) ?_
      refine kn_imul hx hb 3 v1 rfl rfl dX8_done_21 ?_
      refine lv_iload_n hx hb dX8_done_22 rfl (lv_at hl 3 rfl) ?_
      refine kn_iadd hx hb (3 * v1) i_4 rfl rfl dX8_done_23 ?_
      refine kn_iald (f := (RA 37)) (v := (RA 37 ((3 * v1) + i_4))) hx hb hK hP 21 rfl ((3 * v1) + i_4) rfl (by omega) (by omega) rfl dX8_done_24 ?_
      refine lv_if_ne (tgt := 32) hx hb dX8_done_25 (by decide) (fun c_5 => ?_) (fun c_5 => ?_)
      · refine lv_iconst (v := 0) hx hb dX8_done_32 (by decide) ?_
        refine lv_iadd hx hb dX8_done_33 ?_
        refine lv_istore_n (lv' := [(2, .int (x2_4 + 0)), (0, .ref (ad 0)), (1, .int (nI v1)), (3, .int (nI i_4))]) hx hb dX8_done_34 rfl hl (by decide) rfl (fun ls hl => ?_)
        refine lv_iinc (v := (nI (i_4 + 1))) (lv' := [(3, .int (nI (i_4 + 1))), (2, .int (x2_4 + 0)), (0, .ref (ad 0)), (1, .int (nI v1))]) hx hb dX8_done_35 hl (k := 3) rfl (nI_add _ _) (by decide) rfl (fun ls hl => ?_)
        refine lv_goto (tgt := 4) hx hb dX8_done_38 (by decide) ?_
        have hL_4 : (m_done_L4 RA v1 (n_4 + 1) i_4 x2_4) = (m_done_L4 RA v1 n_4 (i_4 + 1) (x2_4 + 0)) := by rw [m_done_L4.eq_2, if_neg c_5]
        try rw [hL_4] at hk_4
        exact ih_4 (i_4 + 1) (x2_4 + 0) (by omega) _ (lv_sub hl [2, 3, 1, 0] rfl)  hk_4
      · refine lv_iconst (v := 1) hx hb dX8_done_28 (by decide) ?_
        refine lv_goto (tgt := 33) hx hb dX8_done_29 (by decide) ?_
        refine lv_iadd hx hb dX8_done_33 ?_
        refine lv_istore_n (lv' := [(2, .int (x2_4 + 1)), (0, .ref (ad 0)), (1, .int (nI v1)), (3, .int (nI i_4))]) hx hb dX8_done_34 rfl hl (by decide) rfl (fun ls hl => ?_)
        refine lv_iinc (v := (nI (i_4 + 1))) (lv' := [(3, .int (nI (i_4 + 1))), (2, .int (x2_4 + 1)), (0, .ref (ad 0)), (1, .int (nI v1))]) hx hb dX8_done_35 hl (k := 3) rfl (nI_add _ _) (by decide) rfl (fun ls hl => ?_)
        refine lv_goto (tgt := 4) hx hb dX8_done_38 (by decide) ?_
        have hL_4 : (m_done_L4 RA v1 (n_4 + 1) i_4 x2_4) = (m_done_L4 RA v1 n_4 (i_4 + 1) (x2_4 + 1)) := by rw [m_done_L4.eq_2, if_pos c_5]
        try rw [hL_4] at hk_4
        exact ih_4 (i_4 + 1) (x2_4 + 1) (by omega) _ (lv_sub hl [2, 3, 1, 0] rfl)  hk_4
  exact loop_4 ((RA 25 v1).toNatClampNeg) 0 0 (by omega) _ (lv_sub hl [2, 3, 1, 0] rfl)  (fun ls hl  => rest_4 (m_done_L4 RA v1 ((RA 25 v1).toNatClampNeg) 0 0) _ hl  (by rw [m_done]))
-- X8_pressOf
def m_pressOf (RA : Nat → Nat → Int32) (v1 : Nat) (v2 : Int32) (v3 : Int32) : Int32 := if v3 ≤ v2 then ((v2 + v3) + (((RA 5 v1) * (v2 - v3)) / 10)) else ((v2 + v3) + (((RA 5 v1) * (v3 - v2)) / 10))
set_option maxHeartbeats 4000000 in
set_option maxRecDepth 100000 in
theorem c_m_pressOf (hI : kInj ad 24) (v1 : Nat) (v2 : Int32) (v3 : Int32) (hi : v1 < 8) : Met l yX8_pressOf (.code yX8_pressOf cX8_pressOf 5 (some .int) :: kT) ({ frames := 0, cells := 0, slots := 0, locals := 0 } : Room) (va_Pc [.ref (ad 0), .int (nI v1), .int v2, .int v3] (kB (dC, dI) [(cI, .int)] (RWs cI ad RA RS RN RL))) (kR (some (.int (m_pressOf RA v1 v2 v3)))) 0 0 (fun _ => False) := by
  refine kMet (by decide) (fun p e s m args below meth c ls hx hb hr hml hts hown hlocks hname hargs hB hl => ?_) (Nat.le_of_ble_eq_true rfl)
  obtain ⟨hP, hK, hN⟩ := hB
  have hl : lv_has ls 5 [(0, .ref (ad 0)), (1, .int (nI v1)), (2, .int v2), (3, .int v3)] := hl
  refine lv_iload_n hx hb dX8_pressOf_0 rfl (lv_at hl 2 rfl) ?_
  refine lv_iload_n hx hb dX8_pressOf_1 rfl (lv_at hl 3 rfl) ?_
  refine lv_icmp_ge (tgt := 11) hx hb dX8_pressOf_2 (by decide) (fun c_2 => ?_) (fun c_2 => ?_)
  · refine lv_iload_n hx hb dX8_pressOf_11 rfl (lv_at hl 2 rfl) ?_
    refine lv_iload_n hx hb dX8_pressOf_12 rfl (lv_at hl 3 rfl) ?_
    refine lv_isub hx hb dX8_pressOf_13 ?_
    refine lv_istore (lv' := [(4, .int (v2 - v3)), (0, .ref (ad 0)), (1, .int (nI v1)), (2, .int v2), (3, .int v3)]) hx hb dX8_pressOf_14 hl (by decide) rfl (fun ls hl => ?_)
    refine lv_iload_n hx hb dX8_pressOf_16 rfl (lv_at hl 3 rfl) ?_
    refine lv_iload_n hx hb dX8_pressOf_17 rfl (lv_at hl 4 rfl) ?_
    refine lv_iadd hx hb dX8_pressOf_18 ?_
    refine lv_aload_n hx hb dX8_pressOf_19 rfl (lv_at hl 1 rfl) ?_
    refine m_get (v := .ref (ad 3)) hx hb hts hown hK hP 5 (by decide) rfl kX8_16 rfl dX8_pressOf_20 ?_
    refine lv_iload_n hx hb dX8_pressOf_23 rfl (lv_at hl 2 rfl) ?_
    refine kn_iald (f := (RA 5)) (v := (RA 5 v1)) hx hb hK hP 3 rfl v1 rfl (by omega) (by omega) rfl dX8_pressOf_24 ?_
    refine lv_iload hx hb dX8_pressOf_25 (lv_at hl 0 rfl) ?_
    refine lv_imul hx hb dX8_pressOf_27 ?_
    refine lv_bipush (v := 10) hx hb dX8_pressOf_28 (by decide) ?_
    refine lv_idiv hx hb dX8_pressOf_30 (by decide) ?_
    refine lv_iadd hx hb dX8_pressOf_31 ?_
    have hE : (m_pressOf RA v1 v2 v3) = ((v2 + v3) + (((RA 5 v1) * (v2 - v3)) / 10)) := by rw [m_pressOf, if_pos c_2]
    exact W.iret (v := ((v2 + v3) + (((RA 5 v1) * (v2 - v3)) / 10))) hx hb hr (fun t ht hW => ⟨by rw [hE], ht⟩) (fun _ h => absurd h List.not_mem_nil) dX8_pressOf_32 hlocks
  · refine lv_iload_n hx hb dX8_pressOf_5 rfl (lv_at hl 3 rfl) ?_
    refine lv_iload_n hx hb dX8_pressOf_6 rfl (lv_at hl 2 rfl) ?_
    refine lv_isub hx hb dX8_pressOf_7 ?_
    refine lv_goto (tgt := 14) hx hb dX8_pressOf_8 (by decide) ?_
    refine lv_istore (lv' := [(4, .int (v3 - v2)), (0, .ref (ad 0)), (1, .int (nI v1)), (2, .int v2), (3, .int v3)]) hx hb dX8_pressOf_14 hl (by decide) rfl (fun ls hl => ?_)
    refine lv_iload_n hx hb dX8_pressOf_16 rfl (lv_at hl 3 rfl) ?_
    refine lv_iload_n hx hb dX8_pressOf_17 rfl (lv_at hl 4 rfl) ?_
    refine lv_iadd hx hb dX8_pressOf_18 ?_
    refine lv_aload_n hx hb dX8_pressOf_19 rfl (lv_at hl 1 rfl) ?_
    refine m_get (v := .ref (ad 3)) hx hb hts hown hK hP 5 (by decide) rfl kX8_16 rfl dX8_pressOf_20 ?_
    refine lv_iload_n hx hb dX8_pressOf_23 rfl (lv_at hl 2 rfl) ?_
    refine kn_iald (f := (RA 5)) (v := (RA 5 v1)) hx hb hK hP 3 rfl v1 rfl (by omega) (by omega) rfl dX8_pressOf_24 ?_
    refine lv_iload hx hb dX8_pressOf_25 (lv_at hl 0 rfl) ?_
    refine lv_imul hx hb dX8_pressOf_27 ?_
    refine lv_bipush (v := 10) hx hb dX8_pressOf_28 (by decide) ?_
    refine lv_idiv hx hb dX8_pressOf_30 (by decide) ?_
    refine lv_iadd hx hb dX8_pressOf_31 ?_
    have hE : (m_pressOf RA v1 v2 v3) = ((v2 + v3) + (((RA 5 v1) * (v3 - v2)) / 10)) := by rw [m_pressOf, if_neg c_2]
    exact W.iret (v := ((v2 + v3) + (((RA 5 v1) * (v3 - v2)) / 10))) hx hb hr (fun t ht hW => ⟨by rw [hE], ht⟩) (fun _ h => absurd h List.not_mem_nil) dX8_pressOf_32 hlocks
-- X8_felt
def m_felt (RA : Nat → Nat → Int32) (RS : Nat → Int32) (v1 : Nat) (v2 : Int32) (v3 : Int32) : Int32 := ((m_pressOf RA v1 ((RA 36 (2 * v1)) + v2) ((RA 36 ((2 * v1) + 1)) + v3)) - (m_done RA RS v1))
set_option maxHeartbeats 4000000 in
set_option maxRecDepth 100000 in
theorem c_m_felt (hI : kInj ad 24) (v1 : Nat) (v2 : Int32) (v3 : Int32) (hM : mI RA RS RN) (hi : v1 < 8) : Met l yX8_felt (.code yX8_felt cX8_felt 4 (some .int) :: kT) ({ frames := 1, cells := 0, slots := 0, locals := 24 } : Room) (va_Pc [.ref (ad 0), .int (nI v1), .int v2, .int v3] (kB (dC, dI) [(cI, .int)] (RWs cI ad RA RS RN RL))) (kR (some (.int (m_felt RA RS v1 v2 v3)))) 0 0 (fun _ => False) := by
  refine kMet (by decide) (fun p e s m args below meth c ls hx hb hr hml hts hown hlocks hname hargs hB hl => ?_) (Nat.le_of_ble_eq_true rfl)
  obtain ⟨hP, hK, hN⟩ := hB
  have hl : lv_has ls 4 [(0, .ref (ad 0)), (1, .int (nI v1)), (2, .int v2), (3, .int v3)] := hl
  refine lv_aload_n hx hb dX8_felt_0 rfl (lv_at hl 0 rfl) ?_
  refine lv_iload_n hx hb dX8_felt_1 rfl (lv_at hl 1 rfl) ?_
  refine lv_aload_n hx hb dX8_felt_2 rfl (lv_at hl 0 rfl) ?_
  refine m_get (v := .ref (ad 20)) hx hb hts hown hK hP 36 (by decide) rfl kX8_67 rfl dX8_felt_3 ?_
  refine lv_iconst (v := 2) hx hb dX8_felt_6 (by decide) ?_
  refine lv_iload_n hx hb dX8_felt_7 rfl (lv_at hl 1 rfl) ?_
  refine kn_imul hx hb 2 v1 rfl rfl dX8_felt_8 ?_
  refine kn_iald (f := (RA 36)) (v := (RA 36 (2 * v1))) hx hb hK hP 20 rfl (2 * v1) rfl (by omega) (by omega) rfl dX8_felt_9 ?_
  refine lv_iload_n hx hb dX8_felt_10 rfl (lv_at hl 2 rfl) ?_
  refine lv_iadd hx hb dX8_felt_11 ?_
  refine lv_aload_n hx hb dX8_felt_12 rfl (lv_at hl 0 rfl) ?_
  refine m_get (v := .ref (ad 20)) hx hb hts hown hK hP 36 (by decide) rfl kX8_67 rfl dX8_felt_13 ?_
  refine lv_iconst (v := 2) hx hb dX8_felt_16 (by decide) ?_
  refine lv_iload_n hx hb dX8_felt_17 rfl (lv_at hl 1 rfl) ?_
  refine kn_imul hx hb 2 v1 rfl rfl dX8_felt_18 ?_
  refine lv_iconst (v := 1) hx hb dX8_felt_19 (by decide) ?_
  refine kn_iadd hx hb (2 * v1) 1 rfl rfl dX8_felt_20 ?_
  refine kn_iald (f := (RA 36)) (v := (RA 36 ((2 * v1) + 1))) hx hb hK hP 20 rfl ((2 * v1) + 1) rfl (by omega) (by omega) rfl dX8_felt_21 ?_
  refine lv_iload_n hx hb dX8_felt_22 rfl (lv_at hl 3 rfl) ?_
  refine lv_iadd hx hb dX8_felt_23 ?_
  refine k_rV (v := .int (m_pressOf RA v1 ((RA 36 (2 * v1)) + v2) ((RA 36 ((2 * v1) + 1)) + v3))) (As := [.int (nI v1), .int ((RA 36 (2 * v1)) + v2), .int ((RA 36 ((2 * v1) + 1)) + v3)]) (rest := []) hx hb hml hown hts hl.1 hP hK hN (c_m_pressOf hI v1 ((RA 36 (2 * v1)) + v2) ((RA 36 ((2 * v1) + 1)) + v3) (by omega)) eX8_197 (ci := 7) (q0 := 0) rfl rfl rfl rfl rfl (Nat.le_of_ble_eq_true rfl) ⟨Nat.le_of_ble_eq_true rfl, Nat.le_of_ble_eq_true rfl⟩ ⟨rfl, rfl⟩ ⟨Nat.le_of_ble_eq_true rfl, Nat.le_of_ble_eq_true rfl⟩ dX8_felt_24 ?_
  refine lv_aload_n hx hb dX8_felt_27 rfl (lv_at hl 0 rfl) ?_
  refine lv_iload_n hx hb dX8_felt_28 rfl (lv_at hl 1 rfl) ?_
  refine k_rV (v := .int (m_done RA RS v1)) (As := [.int (nI v1)]) (rest := [.int (m_pressOf RA v1 ((RA 36 (2 * v1)) + v2) ((RA 36 ((2 * v1) + 1)) + v3))]) hx hb hml hown hts hl.1 hP hK hN (c_m_done hI v1 hM (by omega)) eX8_201 (ci := 7) (q0 := 0) rfl rfl rfl rfl rfl (Nat.le_of_ble_eq_true rfl) ⟨Nat.le_of_ble_eq_true rfl, Nat.le_of_ble_eq_true rfl⟩ ⟨rfl, rfl⟩ ⟨Nat.le_of_ble_eq_true rfl, Nat.le_of_ble_eq_true rfl⟩ dX8_felt_29 ?_
  refine lv_isub hx hb dX8_felt_32 ?_
  have hE : (m_felt RA RS v1 v2 v3) = ((m_pressOf RA v1 ((RA 36 (2 * v1)) + v2) ((RA 36 ((2 * v1) + 1)) + v3)) - (m_done RA RS v1)) := by rw [m_felt]
  exact W.iret (v := ((m_pressOf RA v1 ((RA 36 (2 * v1)) + v2) ((RA 36 ((2 * v1) + 1)) + v3)) - (m_done RA RS v1))) hx hb hr (fun t ht hW => ⟨by rw [hE], ht⟩) (fun _ h => absurd h List.not_mem_nil) dX8_felt_33 hlocks
-- X8_below
def m_below_k5 (v3 : Int32) : Int32 := v3
def m_below_L5 (RA : Nat → Nat → Int32) (v1 : Nat) (v2 : Int32) : Nat → Nat → Int32 → Int32
  | 0, i, v3 => v3
  | n + 1, i, v3 => if (m_has (RA 22 v1) (nI i)) = 0 then m_below_L5 RA v1 v2 n (i + 1) (v3 + 0) else (if v2 ≤ (RA 10 ((4 * v1) + i)) then m_below_L5 RA v1 v2 n (i + 1) (v3 + 0) else m_below_L5 RA v1 v2 n (i + 1) (v3 + (RA 11 ((4 * v1) + i))))
def m_below (RA : Nat → Nat → Int32) (v1 : Nat) (v2 : Int32) : Int32 := m_below_k5 (m_below_L5 RA v1 v2 ((RA 12 v1).toNatClampNeg) 0 0)
set_option maxHeartbeats 4000000 in
set_option maxRecDepth 100000 in
theorem c_m_below (hI : kInj ad 24) (v1 : Nat) (v2 : Int32) (hM : mI RA RS RN) (hi : v1 < 8) : Met l yX8_below (.code yX8_below cX8_below 5 (some .int) :: kT) ({ frames := 1, cells := 0, slots := 0, locals := 21 } : Room) (va_Pc [.ref (ad 0), .int (nI v1), .int v2] (kB (dC, dI) [(cI, .int)] (RWs cI ad RA RS RN RL))) (kR (some (.int (m_below RA v1 v2)))) 0 0 (fun _ => False) := by
  refine kMet (by decide) (fun p e s m args below meth c ls hx hb hr hml hts hown hlocks hname hargs hB hl => ?_) (Nat.le_of_ble_eq_true rfl)
  obtain ⟨hP, hK, hN⟩ := hB
  have hl : lv_has ls 5 [(0, .ref (ad 0)), (1, .int (nI v1)), (2, .int v2)] := hl
  have h12 := mI_bm hM v1 hi
  refine lv_iconst (v := 0) hx hb dX8_below_0 (by decide) ?_
  refine lv_istore_n (lv' := [(3, .int 0), (0, .ref (ad 0)), (1, .int (nI v1)), (2, .int v2)]) hx hb dX8_below_1 rfl hl (by decide) rfl (fun ls hl => ?_)
  refine lv_iconst (v := 0) hx hb dX8_below_2 (by decide) ?_
  refine lv_istore (lv' := [(4, .int 0), (3, .int 0), (0, .ref (ad 0)), (1, .int (nI v1)), (2, .int v2)]) hx hb dX8_below_3 hl (by decide) rfl (fun ls hl => ?_)
  have rest_5 : ∀ (x3_5 : Int32), ∀ (ls : Array Slot), lv_has ls 5 [(3, .int x3_5)] → (m_below RA v1 v2) = m_below_k5 x3_5 → W p l e ({ frames := 1, cells := 0, slots := 0, locals := 21 } : Room) s m args below meth c s.heap [] 0 0 (MQ below (kR (some (.int (m_below RA v1 v2)))) args s 0 0 (fun _ => False)) (F0 m 69 ls []) := by
    intro x3_5 ls hl  hF_5
    refine lv_iload_n hx hb dX8_below_69 rfl (lv_at hl 0 rfl) ?_
    have hE : (m_below RA v1 v2) = x3_5 := hF_5.trans (by rw [m_below_k5])
    exact W.iret (v := x3_5) hx hb hr (fun t ht hW => ⟨by rw [hE], ht⟩) (fun _ h => absurd h List.not_mem_nil) dX8_below_70 hlocks
  have hN_5 : ((RA 12 v1).toNatClampNeg) < 2 ^ 31 := kcl_lt _
  have loop_5 : ∀ (n_5 i_5 : Nat) (x3_5 : Int32), i_5 + n_5 = (RA 12 v1).toNatClampNeg → ∀ (ls : Array Slot), lv_has ls 5 [(0, .ref (ad 0)), (1, .int (nI v1)), (2, .int v2), (3, .int x3_5), (4, .int (nI i_5))] → (∀ (ls : Array Slot), lv_has ls 5 [(3, .int (m_below_L5 RA v1 v2 n_5 i_5 x3_5))] → W p l e ({ frames := 1, cells := 0, slots := 0, locals := 21 } : Room) s m args below meth c s.heap [] 0 0 (MQ below (kR (some (.int (m_below RA v1 v2)))) args s 0 0 (fun _ => False)) (F0 m 69 ls [])) → W p l e ({ frames := 1, cells := 0, slots := 0, locals := 21 } : Room) s m args below meth c s.heap [] 0 0 (MQ below (kR (some (.int (m_below RA v1 v2)))) args s 0 0 (fun _ => False)) (F0 m 5 ls []) := by
    intro n_5
    induction n_5 with
    | zero =>
      intro i_5 x3_5 hin_5 ls hl  hk_5
      refine lv_iload hx hb dX8_below_5 (lv_at hl 4 rfl) ?_
      refine lv_aload_n hx hb dX8_below_7 rfl (lv_at hl 0 rfl) ?_
      refine m_get (v := .ref (ad 10)) hx hb hts hown hK hP 12 (by decide) rfl kX8_37 rfl dX8_below_8 ?_
      refine lv_iload_n hx hb dX8_below_11 rfl (lv_at hl 1 rfl) ?_
      refine kn_iald (f := (RA 12)) (v := (RA 12 v1)) hx hb hK hP 10 rfl v1 rfl (by omega) (by omega) rfl dX8_below_12 ?_
      refine lv_icmp_ge (tgt := 69) hx hb dX8_below_13 (by decide) (fun _ => ?_) (fun c_4 => absurd (kct_ge (N := (RA 12 v1).toNatClampNeg) rfl (by omega) (by omega)) c_4)
      have hL_5 : (m_below_L5 RA v1 v2 0 i_5 x3_5) = x3_5 := by rw [m_below_L5.eq_1]
      try rw [hL_5] at hk_5
      exact hk_5 _ (lv_sub hl [3] rfl) 
    | succ n_5 ih_5 =>
      intro i_5 x3_5 hin_5 ls hl  hk_5
      refine lv_iload hx hb dX8_below_5 (lv_at hl 4 rfl) ?_
      refine lv_aload_n hx hb dX8_below_7 rfl (lv_at hl 0 rfl) ?_
      refine m_get (v := .ref (ad 10)) hx hb hts hown hK hP 12 (by decide) rfl kX8_37 rfl dX8_below_8 ?_
      refine lv_iload_n hx hb dX8_below_11 rfl (lv_at hl 1 rfl) ?_
      refine kn_iald (f := (RA 12)) (v := (RA 12 v1)) hx hb hK hP 10 rfl v1 rfl (by omega) (by omega) rfl dX8_below_12 ?_
      refine lv_icmp_ge (tgt := 69) hx hb dX8_below_13 (by decide) (fun c_5 => absurd c_5 (kct_lt (N := (RA 12 v1).toNatClampNeg) rfl (by omega))) (fun _ => ?_)
      refine lv_iload_n hx hb dX8_below_16 rfl (lv_at hl 3 rfl) ?_
      refine lv_aload_n hx hb dX8_below_17 rfl (lv_at hl 0 rfl) ?_
      refine m_get (v := .ref (ad 14)) hx hb hts hown hK hP 22 (by decide) rfl kX8_49 rfl dX8_below_18 ?_
      refine lv_iload_n hx hb dX8_below_21 rfl (lv_at hl 1 rfl) ?_
      refine kn_iald (f := (RA 22)) (v := (RA 22 v1)) hx hb hK hP 14 rfl v1 rfl (by omega) (by omega) rfl dX8_below_22 ?_
      refine lv_iload hx hb dX8_below_23 (lv_at hl 4 rfl) ?_
      refine k_rS (v := .int (m_has (RA 22 v1) (nI i_5))) (As := [.int (RA 22 v1), .int (nI i_5)]) (rest := [.int x3_5]) hx hb hml hown hts hl.1 (B := fun _ => True) (fun _ _ _ _ q => q) (fun _ _ _ => trivial) (c_m_has (RA 22 v1) (nI i_5)) eX8_204 rfl rfl (Nat.le_of_ble_eq_true rfl) ⟨Nat.le_of_ble_eq_true rfl, Nat.le_of_ble_eq_true rfl⟩ ⟨rfl, rfl⟩ ⟨Nat.le_of_ble_eq_true rfl, Nat.le_of_ble_eq_true rfl⟩ dX8_below_25 ?_
      refine lv_if_eq (tgt := 60) hx hb dX8_below_28 (by decide) (fun c_6 => ?_) (fun c_6 => ?_)
      · refine lv_iconst (v := 0) hx hb dX8_below_60 (by decide) ?_
        refine lv_iadd hx hb dX8_below_61 ?_
        refine lv_istore_n (lv' := [(3, .int (x3_5 + 0)), (0, .ref (ad 0)), (1, .int (nI v1)), (2, .int v2), (4, .int (nI i_5))]) hx hb dX8_below_62 rfl hl (by decide) rfl (fun ls hl => ?_)
        refine lv_iinc (v := (nI (i_5 + 1))) (lv' := [(4, .int (nI (i_5 + 1))), (3, .int (x3_5 + 0)), (0, .ref (ad 0)), (1, .int (nI v1)), (2, .int v2)]) hx hb dX8_below_63 hl (k := 4) rfl (nI_add _ _) (by decide) rfl (fun ls hl => ?_)
        refine lv_goto (tgt := 5) hx hb dX8_below_66 (by decide) ?_
        have hL_5 : (m_below_L5 RA v1 v2 (n_5 + 1) i_5 x3_5) = (m_below_L5 RA v1 v2 n_5 (i_5 + 1) (x3_5 + 0)) := by rw [m_below_L5.eq_2, if_pos c_6]
        try rw [hL_5] at hk_5
        exact ih_5 (i_5 + 1) (x3_5 + 0) (by omega) _ (lv_sub hl [2, 3, 4, 1, 0] rfl)  hk_5
      · refine lv_aload_n hx hb dX8_below_31 rfl (lv_at hl 0 rfl) ?_
        refine m_get (v := .ref (ad 8)) hx hb hts hown hK hP 10 (by decide) rfl kX8_31 rfl dX8_below_32 ?_
        refine lv_iconst (v := 4) hx hb dX8_below_35 (by decide) ?_
        refine lv_iload_n hx hb dX8_below_36 rfl (lv_at hl 1 rfl) ?_
        refine kn_imul hx hb 4 v1 rfl rfl dX8_below_37 ?_
        refine lv_iload hx hb dX8_below_38 (lv_at hl 4 rfl) ?_
        refine kn_iadd hx hb (4 * v1) i_5 rfl rfl dX8_below_40 ?_
        refine kn_iald (f := (RA 10)) (v := (RA 10 ((4 * v1) + i_5))) hx hb hK hP 8 rfl ((4 * v1) + i_5) rfl (by omega) (by omega) rfl dX8_below_41 ?_
        refine lv_iload_n hx hb dX8_below_42 rfl (lv_at hl 2 rfl) ?_
        refine lv_icmp_ge (tgt := 60) hx hb dX8_below_43 (by decide) (fun c_7 => ?_) (fun c_7 => ?_)
        · refine lv_iconst (v := 0) hx hb dX8_below_60 (by decide) ?_
          refine lv_iadd hx hb dX8_below_61 ?_
          refine lv_istore_n (lv' := [(3, .int (x3_5 + 0)), (0, .ref (ad 0)), (1, .int (nI v1)), (2, .int v2), (4, .int (nI i_5))]) hx hb dX8_below_62 rfl hl (by decide) rfl (fun ls hl => ?_)
          refine lv_iinc (v := (nI (i_5 + 1))) (lv' := [(4, .int (nI (i_5 + 1))), (3, .int (x3_5 + 0)), (0, .ref (ad 0)), (1, .int (nI v1)), (2, .int v2)]) hx hb dX8_below_63 hl (k := 4) rfl (nI_add _ _) (by decide) rfl (fun ls hl => ?_)
          refine lv_goto (tgt := 5) hx hb dX8_below_66 (by decide) ?_
          have hL_5 : (m_below_L5 RA v1 v2 (n_5 + 1) i_5 x3_5) = (m_below_L5 RA v1 v2 n_5 (i_5 + 1) (x3_5 + 0)) := by rw [m_below_L5.eq_2, if_neg c_6, if_pos c_7]
          try rw [hL_5] at hk_5
          exact ih_5 (i_5 + 1) (x3_5 + 0) (by omega) _ (lv_sub hl [2, 3, 4, 1, 0] rfl)  hk_5
        · refine lv_aload_n hx hb dX8_below_46 rfl (lv_at hl 0 rfl) ?_
          refine m_get (v := .ref (ad 9)) hx hb hts hown hK hP 11 (by decide) rfl kX8_34 rfl dX8_below_47 ?_
          refine lv_iconst (v := 4) hx hb dX8_below_50 (by decide) ?_
          refine lv_iload_n hx hb dX8_below_51 rfl (lv_at hl 1 rfl) ?_
          refine kn_imul hx hb 4 v1 rfl rfl dX8_below_52 ?_
          refine lv_iload hx hb dX8_below_53 (lv_at hl 4 rfl) ?_
          refine kn_iadd hx hb (4 * v1) i_5 rfl rfl dX8_below_55 ?_
          refine kn_iald (f := (RA 11)) (v := (RA 11 ((4 * v1) + i_5))) hx hb hK hP 9 rfl ((4 * v1) + i_5) rfl (by omega) (by omega) rfl dX8_below_56 ?_
          refine lv_goto (tgt := 61) hx hb dX8_below_57 (by decide) ?_
          refine lv_iadd hx hb dX8_below_61 ?_
          refine lv_istore_n (lv' := [(3, .int (x3_5 + (RA 11 ((4 * v1) + i_5)))), (0, .ref (ad 0)), (1, .int (nI v1)), (2, .int v2), (4, .int (nI i_5))]) hx hb dX8_below_62 rfl hl (by decide) rfl (fun ls hl => ?_)
          refine lv_iinc (v := (nI (i_5 + 1))) (lv' := [(4, .int (nI (i_5 + 1))), (3, .int (x3_5 + (RA 11 ((4 * v1) + i_5)))), (0, .ref (ad 0)), (1, .int (nI v1)), (2, .int v2)]) hx hb dX8_below_63 hl (k := 4) rfl (nI_add _ _) (by decide) rfl (fun ls hl => ?_)
          refine lv_goto (tgt := 5) hx hb dX8_below_66 (by decide) ?_
          have hL_5 : (m_below_L5 RA v1 v2 (n_5 + 1) i_5 x3_5) = (m_below_L5 RA v1 v2 n_5 (i_5 + 1) (x3_5 + (RA 11 ((4 * v1) + i_5)))) := by rw [m_below_L5.eq_2, if_neg c_6, if_neg c_7]
          try rw [hL_5] at hk_5
          exact ih_5 (i_5 + 1) (x3_5 + (RA 11 ((4 * v1) + i_5))) (by omega) _ (lv_sub hl [2, 3, 4, 1, 0] rfl)  hk_5
  exact loop_5 ((RA 12 v1).toNatClampNeg) 0 0 (by omega) _ (lv_sub hl [2, 3, 4, 1, 0] rfl)  (fun ls hl  => rest_5 (m_below_L5 RA v1 v2 ((RA 12 v1).toNatClampNeg) 0 0) _ hl  (by rw [m_below]))
-- X8_chances
def m_chances (RA : Nat → Nat → Int32) (v1 : Nat) : Int32 := (m_below RA v1 1000000)
set_option maxHeartbeats 4000000 in
set_option maxRecDepth 100000 in
theorem c_m_chances (hI : kInj ad 24) (v1 : Nat) (hM : mI RA RS RN) (hi : v1 < 8) : Met l yX8_chances (.code yX8_chances cX8_chances 2 (some .int) :: kT) ({ frames := 2, cells := 0, slots := 0, locals := 45 } : Room) (va_Pc [.ref (ad 0), .int (nI v1)] (kB (dC, dI) [(cI, .int)] (RWs cI ad RA RS RN RL))) (kR (some (.int (m_chances RA v1)))) 0 0 (fun _ => False) := by
  refine kMet (by decide) (fun p e s m args below meth c ls hx hb hr hml hts hown hlocks hname hargs hB hl => ?_) (Nat.le_of_ble_eq_true rfl)
  obtain ⟨hP, hK, hN⟩ := hB
  have hl : lv_has ls 2 [(0, .ref (ad 0)), (1, .int (nI v1))] := hl
  refine lv_aload_n hx hb dX8_chances_0 rfl (lv_at hl 0 rfl) ?_
  refine lv_iload_n hx hb dX8_chances_1 rfl (lv_at hl 1 rfl) ?_
  refine lv_ldc (v := 1000000) hx hb hown (hts _ kX8_208) dX8_chances_2 ?_
  refine k_rV (v := .int (m_below RA v1 1000000)) (As := [.int (nI v1), .int 1000000]) (rest := []) hx hb hml hown hts hl.1 hP hK hN (c_m_below hI v1 1000000 hM (by omega)) eX8_209 (ci := 7) (q0 := 0) rfl rfl rfl rfl rfl (Nat.le_of_ble_eq_true rfl) ⟨Nat.le_of_ble_eq_true rfl, Nat.le_of_ble_eq_true rfl⟩ ⟨rfl, rfl⟩ ⟨Nat.le_of_ble_eq_true rfl, Nat.le_of_ble_eq_true rfl⟩ dX8_chances_4 ?_
  have hE : (m_chances RA v1) = (m_below RA v1 1000000) := by rw [m_chances]
  exact W.iret (v := (m_below RA v1 1000000)) hx hb hr (fun t ht hW => ⟨by rw [hE], ht⟩) (fun _ h => absurd h List.not_mem_nil) dX8_chances_7 hlocks

end REF
