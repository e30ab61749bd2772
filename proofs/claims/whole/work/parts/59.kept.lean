section KEPT
variable {l : Launch} {dC : Nat → ClassId} {dI : Nat → Nat → Nat} {cI : ClassId} {ad : Nat → Nat} {ML : Nat → Nat → Int32} {MS : Nat → Int32} {PL : Nat → Nat → Nat → Int32} {PS : Nat → Nat → Int32} {VL : Nat → Nat → Nat → Int32} {VS : Nat → Nat → Int32} {LL : Int64}
theorem c_keptAt_t {v1 : Int32} (h : v1 = 0) : Met l yX7_keptAt (.code yX7_keptAt cX7_keptAt 2 (some (.object "RoofsOfSnow$Village")) :: kT) ({ frames := 0, cells := 0, slots := 0, locals := 0 } : Room) (va_Pc [.ref (ad 0), .int v1] (kB (dC, dI) [(cI, .int)] (cws cI ad ML MS PL PS VL VS LL))) (kR (some (.ref (ad 79)))) 0 0 (fun _ => False) := by
  refine kMet (by decide) (fun p e s m args below meth c ls hx hb hr hml hts hown hlocks hname hargs hB hl => ?_) (Nat.le_of_ble_eq_true rfl)
  obtain ⟨hP, hK, hN⟩ := hB
  have hl : lv_has ls 2 [(0, .ref (ad 0)), (1, .int v1)] := hl
  refine lv_iload_n hx hb dX7_keptAt_0 rfl (lv_at hl 1 rfl) ?_
  refine lv_if_ne (tgt := 11) hx hb dX7_keptAt_1 (by decide) (fun q => absurd h q) (fun _ => ?_)
  refine lv_aload_n hx hb dX7_keptAt_4 rfl (lv_at hl 0 rfl) ?_
  refine k_get (q0 := 0) (ci := 6) (v := .ref (ad 79)) hx hb hts inT_X7 hown hK hP (wM (k := 0) (by decide) rfl) rfl 5 (by decide) rfl kX7_44 rfl dX7_keptAt_5 ?_
  refine lv_goto (tgt := 15) hx hb dX7_keptAt_8 (by decide) ?_
  exact W.aret hx hb hr (Or.inl ⟨_, rfl⟩) (Or.inr ⟨_, rfl⟩) (fun t ht hW => ⟨rfl, ht⟩) (fun _ h => absurd h List.not_mem_nil) dX7_keptAt_15 hlocks
theorem c_keptAt_f {v1 : Int32} (h : ¬ v1 = 0) : Met l yX7_keptAt (.code yX7_keptAt cX7_keptAt 2 (some (.object "RoofsOfSnow$Village")) :: kT) ({ frames := 0, cells := 0, slots := 0, locals := 0 } : Room) (va_Pc [.ref (ad 0), .int v1] (kB (dC, dI) [(cI, .int)] (cws cI ad ML MS PL PS VL VS LL))) (kR (some (.ref (ad 92)))) 0 0 (fun _ => False) := by
  refine kMet (by decide) (fun p e s m args below meth c ls hx hb hr hml hts hown hlocks hname hargs hB hl => ?_) (Nat.le_of_ble_eq_true rfl)
  obtain ⟨hP, hK, hN⟩ := hB
  have hl : lv_has ls 2 [(0, .ref (ad 0)), (1, .int v1)] := hl
  refine lv_iload_n hx hb dX7_keptAt_0 rfl (lv_at hl 1 rfl) ?_
  refine lv_if_ne (tgt := 11) hx hb dX7_keptAt_1 (by decide) (fun _ => ?_) (fun q => absurd q h)
  refine lv_aload_n hx hb dX7_keptAt_11 rfl (lv_at hl 0 rfl) ?_
  refine k_get (q0 := 0) (ci := 6) (v := .ref (ad 92)) hx hb hts inT_X7 hown hK hP (wM (k := 0) (by decide) rfl) rfl 6 (by decide) rfl kX7_47 rfl dX7_keptAt_12 ?_
  exact W.aret hx hb hr (Or.inl ⟨_, rfl⟩) (Or.inr ⟨_, rfl⟩) (fun t ht hW => ⟨rfl, ht⟩) (fun _ h => absurd h List.not_mem_nil) dX7_keptAt_15 hlocks
theorem vf7 {v : Nat} {vs : Nat → Int32} {x : Value} (h : vnext ad v = x) : (vflds ad v vs)[7]? = some x := by rw [← h]; rfl
theorem vnextT {v w : Nat} (h3 : 3 ≤ v) (h8 : v < 8) (hw : w = v + 1) : vnext ad v = .ref (ad (66 + 13 * w)) := by
  unfold vnext
  rw [if_neg (by omega), if_neg (by omega), hw]
theorem vnextN : vnext ad 8 = .null := rfl
end KEPT
theorem kgt_nI {a b : Nat} (h : a < b) (hb : b < 2 ^ 31) : nI a < nI b := nI_lt h hb
theorem kgt_nIn {a b : Nat} (h : b ≤ a) (ha : a < 2 ^ 31) : ¬ nI a < nI b := nI_nlt h ha
