section REF
variable {l : Launch} {dC : Nat → ClassId} {dI : Nat → Nat → Nat} {cI : ClassId} {ad : Nat → Nat} {RA : Nat → Nat → Int32} {RS : Nat → Int32} {RN : Nat → Nat} {RL : Int64}
-- X8_layItem
def m_layItem (RA : Nat → Nat → Int32) (RS : Nat → Int32) (RN : Nat → Nat) (v1 : Nat) : (Nat → Int32) × (Nat → Int32) × (Nat → Int32) × (Nat → Int32) × (Nat → Int32) × (Nat → Int32) × (Nat → Int32) × (Nat → Int32) × (Nat → Int32) × (Nat → Int32) × (Nat → Int32) × Nat × Nat × Int32 × Int32 × Int32 × Int32 × Int32 × Int32 := if (RA 2 v1) = 98 then ((RA 5), (RA 6), (RA 7), (RA 8), (RA 9), (upd (RA 10) ((4 * ((RA 2 (v1 + 1)).toNatClampNeg)) + ((RA 12 ((RA 2 (v1 + 1)).toNatClampNeg)).toNatClampNeg)) (RA 2 (v1 + 2))), (upd (RA 11) ((4 * ((RA 2 (v1 + 1)).toNatClampNeg)) + ((RA 12 ((RA 2 (v1 + 1)).toNatClampNeg)).toNatClampNeg)) (RA 2 (v1 + 3))), (upd (RA 12) ((RA 2 (v1 + 1)).toNatClampNeg) ((RA 12 ((RA 2 (v1 + 1)).toNatClampNeg)) + 1)), (RA 13), (RA 14), (RA 21), (RN 4), (RN 28), (RS 15), (RS 16), (RS 17), (RS 18), (RS 19), (RS 20)) else (if (RA 2 v1) = 99 then ((RA 5), (RA 6), (RA 7), (RA 8), (RA 9), (RA 10), (RA 11), (RA 12), (RA 13), (upd (upd (upd (RA 14) (3 * ((RA 2 (v1 + 1)).toNatClampNeg)) (RA 2 (v1 + 2))) ((3 * ((RA 2 (v1 + 1)).toNatClampNeg)) + 1) (RA 2 (v1 + 3))) ((3 * ((RA 2 (v1 + 1)).toNatClampNeg)) + 2) (RA 2 (v1 + 4))), (RA 21), (RN 4), (RN 28), (RS 15), (RS 16), (RS 17), (RS 18), (RS 19), (RS 20)) else (if (RA 2 v1) = 103 then ((RA 5), (RA 6), (RA 7), (RA 8), (RA 9), (RA 10), (RA 11), (RA 12), (RA 13), (RA 14), (RA 21), (RN 4), (RN 28), (RS 15), (RS 16), (RA 2 (v1 + 1)), (RS 18), (RS 19), (RS 20)) else (if (RA 2 v1) = 104 then ((RA 5), (RA 6), (RA 7), (RA 8), (RA 9), (RA 10), (RA 11), (RA 12), (RA 13), (RA 14), (RA 21), (RN 4), (RN 28), (RA 2 (v1 + 1)), (RA 2 (v1 + 2)), (RS 17), (RS 18), (RS 19), (RS 20)) else (if (RA 2 v1) = 107 then ((RA 5), (RA 6), (RA 7), (RA 8), (RA 9), (RA 10), (RA 11), (RA 12), (upd (upd (upd (RA 13) (3 * ((RA 2 (v1 + 1)).toNatClampNeg)) (RA 2 (v1 + 2))) ((3 * ((RA 2 (v1 + 1)).toNatClampNeg)) + 1) (RA 2 (v1 + 3))) ((3 * ((RA 2 (v1 + 1)).toNatClampNeg)) + 2) (RA 2 (v1 + 4))), (RA 14), (RA 21), (RN 4), (RN 28), (RS 15), (RS 16), (RS 17), (RS 18), (RS 19), (RS 20)) else (if (RA 2 v1) = 111 then ((RA 5), (RA 6), (RA 7), (RA 8), (RA 9), (RA 10), (RA 11), (RA 12), (RA 13), (RA 14), (RA 21), (RN 4), (RN 28), (RS 15), (RS 16), (RS 17), (RA 2 (v1 + 1)), (RA 2 (v1 + 2)), (RS 20)) else (if (RA 2 v1) = 112 then ((RA 5), (RA 6), (RA 7), (RA 8), (upd (RA 9) ((RA 2 (v1 + 1)).toNatClampNeg) (RA 2 (v1 + 2))), (RA 10), (RA 11), (RA 12), (RA 13), (RA 14), (RA 21), (RN 4), (RN 28), (RS 15), (RS 16), (RS 17), (RS 18), (RS 19), (RS 20)) else (if (RA 2 v1) = 114 then ((m_roofBy RA (RN 4) (RA 2 (v1 + 1)) (RA 2 (v1 + 2)) (RA 2 (v1 + 3)) (RA 2 (v1 + 4)) (RA 2 (v1 + 5))).1, (m_roofBy RA (RN 4) (RA 2 (v1 + 1)) (RA 2 (v1 + 2)) (RA 2 (v1 + 3)) (RA 2 (v1 + 4)) (RA 2 (v1 + 5))).2.1, (m_roofBy RA (RN 4) (RA 2 (v1 + 1)) (RA 2 (v1 + 2)) (RA 2 (v1 + 3)) (RA 2 (v1 + 4)) (RA 2 (v1 + 5))).2.2.1, (upd (RA 8) (RN 4) (RA 2 (v1 + 6))), (RA 9), (RA 10), (RA 11), (RA 12), (RA 13), (RA 14), (m_roofBy RA (RN 4) (RA 2 (v1 + 1)) (RA 2 (v1 + 2)) (RA 2 (v1 + 3)) (RA 2 (v1 + 4)) (RA 2 (v1 + 5))).2.2.2, (RN 4) + 1, (RN 28), (RS 15), (RS 16), (RS 17), (RS 18), (RS 19), (RS 20)) else (if (RA 2 v1) = 115 then ((RA 5), (RA 6), (RA 7), (RA 8), (RA 9), (RA 10), (RA 11), (RA 12), (RA 13), (RA 14), (RA 21), (RN 4), (RA 2 (v1 + 1)).toNatClampNeg, (RS 15), (RS 16), (RS 17), (RS 18), (RS 19), (RS 20)) else ((RA 5), (RA 6), (RA 7), (RA 8), (RA 9), (RA 10), (RA 11), (RA 12), (RA 13), (RA 14), (RA 21), (RN 4), (RN 28), (RS 15), (RS 16), (RS 17), (RS 18), (RS 19), (RA 2 (v1 + 1)))))))))))
set_option maxHeartbeats 4000000 in
set_option maxRecDepth 100000 in
theorem c_m_layItem (hI : kInj ad 24) (v1 : Nat) (hM : mI RA RS RN) (hv : v1 + 6 < 1200) (hit : itOk (RA 2) v1) (hroof : RA 2 v1 = 114 → RN 4 < 8) (hbb : RA 2 v1 = 98 → (RA 12 (RA 2 (v1 + 1)).toNatClampNeg).toNatClampNeg < 4) : Met l yX8_layItem (.code yX8_layItem cX8_layItem 5 none :: kT) ({ frames := 1, cells := 0, slots := 0, locals := 26 } : Room) (va_Pc [.ref (ad 0), .int (nI v1)] (kB (dC, dI) [(cI, .int)] (RWs cI ad RA RS RN RL))) (kQ none (kB (dC, dI) [(cI, .int)] (RWs cI ad (va_up (va_up (va_up (va_up (va_up (va_up (va_up (va_up (va_up (va_up (va_up RA 5 ((m_layItem RA RS RN v1).1)) 6 ((m_layItem RA RS RN v1).2.1)) 7 ((m_layItem RA RS RN v1).2.2.1)) 8 ((m_layItem RA RS RN v1).2.2.2.1)) 9 ((m_layItem RA RS RN v1).2.2.2.2.1)) 10 ((m_layItem RA RS RN v1).2.2.2.2.2.1)) 11 ((m_layItem RA RS RN v1).2.2.2.2.2.2.1)) 12 ((m_layItem RA RS RN v1).2.2.2.2.2.2.2.1)) 13 ((m_layItem RA RS RN v1).2.2.2.2.2.2.2.2.1)) 14 ((m_layItem RA RS RN v1).2.2.2.2.2.2.2.2.2.1)) 21 ((m_layItem RA RS RN v1).2.2.2.2.2.2.2.2.2.2.1)) (va_up (va_up (va_up (va_up (va_up (va_up RS 15 ((m_layItem RA RS RN v1).2.2.2.2.2.2.2.2.2.2.2.2.2.1)) 16 ((m_layItem RA RS RN v1).2.2.2.2.2.2.2.2.2.2.2.2.2.2.1)) 17 ((m_layItem RA RS RN v1).2.2.2.2.2.2.2.2.2.2.2.2.2.2.2.1)) 18 ((m_layItem RA RS RN v1).2.2.2.2.2.2.2.2.2.2.2.2.2.2.2.2.1)) 19 ((m_layItem RA RS RN v1).2.2.2.2.2.2.2.2.2.2.2.2.2.2.2.2.2.1)) 20 ((m_layItem RA RS RN v1).2.2.2.2.2.2.2.2.2.2.2.2.2.2.2.2.2.2)) (va_up (va_up RN 4 ((m_layItem RA RS RN v1).2.2.2.2.2.2.2.2.2.2.2.1)) 28 ((m_layItem RA RS RN v1).2.2.2.2.2.2.2.2.2.2.2.2.1)) RL)) (kAA ad 24)) 0 0 (kAA ad 24) := by
  refine kMet (by decide) (fun p e s m args below meth c ls hx hb hr hml hts hown hlocks hname hargs hB hl => ?_) (Nat.le_of_ble_eq_true rfl)
  obtain ⟨hP, hK, hN⟩ := hB
  have hl : lv_has ls 5 [(0, .ref (ad 0)), (1, .int (nI v1))] := hl
  have hS : va_S (kAA ad 24) s.heap s.heap [] := va_S.rf
  refine lv_aload_n hx hb dX8_layItem_0 rfl (lv_at hl 0 rfl) ?_
  refine m_get (v := .ref (ad 2)) hx hb hts hown hK hP 2 (by decide) rfl kX8_13 rfl dX8_layItem_1 ?_
  refine lv_iload_n hx hb dX8_layItem_4 rfl (lv_at hl 1 rfl) ?_
  refine lv_iconst (v := 1) hx hb dX8_layItem_5 (by decide) ?_
  refine kn_iadd hx hb v1 1 rfl rfl dX8_layItem_6 ?_
  refine kn_iald (f := (RA 2)) (v := (RA 2 (v1 + 1))) hx hb hK hP 2 rfl (v1 + 1) rfl (by omega) (by omega) rfl dX8_layItem_7 ?_
  refine lv_istore_n (lv' := [(2, .int (RA 2 (v1 + 1))), (0, .ref (ad 0)), (1, .int (nI v1))]) hx hb dX8_layItem_8 rfl hl (by decide) rfl (fun ls hl => ?_)
  refine lv_aload_n hx hb dX8_layItem_9 rfl (lv_at hl 1 rfl) ?_
  refine m_get (v := .ref (ad 2)) hx hb hts hown hK hP 2 (by decide) rfl kX8_13 rfl dX8_layItem_10 ?_
  refine lv_iload_n hx hb dX8_layItem_13 rfl (lv_at hl 2 rfl) ?_
  refine lv_iconst (v := 2) hx hb dX8_layItem_14 (by decide) ?_
  refine kn_iadd hx hb v1 2 rfl rfl dX8_layItem_15 ?_
  refine kn_iald (f := (RA 2)) (v := (RA 2 (v1 + 2))) hx hb hK hP 2 rfl (v1 + 2) rfl (by omega) (by omega) rfl dX8_layItem_16 ?_
  refine lv_istore_n (lv' := [(3, .int (RA 2 (v1 + 2))), (2, .int (RA 2 (v1 + 1))), (0, .ref (ad 0)), (1, .int (nI v1))]) hx hb dX8_layItem_17 rfl hl (by decide) rfl (fun ls hl => ?_)
  refine lv_aload_n hx hb dX8_layItem_18 rfl (lv_at hl 2 rfl) ?_
  refine m_get (v := .ref (ad 2)) hx hb hts hown hK hP 2 (by decide) rfl kX8_13 rfl dX8_layItem_19 ?_
  refine lv_iload_n hx hb dX8_layItem_22 rfl (lv_at hl 3 rfl) ?_
  refine lv_iconst (v := 3) hx hb dX8_layItem_23 (by decide) ?_
  refine kn_iadd hx hb v1 3 rfl rfl dX8_layItem_24 ?_
  refine kn_iald (f := (RA 2)) (v := (RA 2 (v1 + 3))) hx hb hK hP 2 rfl (v1 + 3) rfl (by omega) (by omega) rfl dX8_layItem_25 ?_
  refine lv_istore (lv' := [(4, .int (RA 2 (v1 + 3))), (3, .int (RA 2 (v1 + 2))), (2, .int (RA 2 (v1 + 1))), (0, .ref (ad 0)), (1, .int (nI v1))]) hx hb dX8_layItem_26 hl (by decide) rfl (fun ls hl => ?_)
  refine lv_aload_n hx hb dX8_layItem_28 rfl (lv_at hl 3 rfl) ?_
  refine m_get (v := .ref (ad 2)) hx hb hts hown hK hP 2 (by decide) rfl kX8_13 rfl dX8_layItem_29 ?_
  refine lv_iload_n hx hb dX8_layItem_32 rfl (lv_at hl 4 rfl) ?_
  refine kn_iald (f := (RA 2)) (v := (RA 2 v1)) hx hb hK hP 2 rfl v1 rfl (by omega) (by omega) rfl dX8_layItem_33 ?_
  by_cases c_10 : (RA 2 v1) = 98
  · refine lv_tableIn (tgt := 177) hx hb dX8_layItem_34 (by rw [c_10]; decide) (by rw [c_10]; decide) (by rw [c_10]; rfl) (by decide) ?_
    have h2 := itOk_at hit (by assumption) 1 0 7
    have hnat2 : (RA 2 (v1 + 1)) = (nI ((RA 2 (v1 + 1)).toNatClampNeg)) := kNat h2.1
    have hl : lv_has ls 5 [(4, .int (RA 2 (v1 + 3))), (3, .int (RA 2 (v1 + 2))), (2, .int (nI ((RA 2 (v1 + 1)).toNatClampNeg))), (0, .ref (ad 0)), (1, .int (nI v1))] := by rw [← hnat2]; exact hl
    have h2b : ((RA 2 (v1 + 1)).toNatClampNeg) ≤ 7 := kNat_le h2.2
    have h12 := hbb (by assumption)
    refine lv_aload_n hx hb dX8_layItem_177 rfl (lv_at hl 3 rfl) ?_
    refine m_get (v := .ref (ad 8)) hx hb hts hown hK hP 10 (by decide) rfl kX8_31 rfl dX8_layItem_178 ?_
    refine lv_iconst (v := 4) hx hb dX8_layItem_181 (by decide) ?_
    refine lv_iload_n hx hb dX8_layItem_182 rfl (lv_at hl 2 rfl) ?_
    refine kn_imul hx hb 4 ((RA 2 (v1 + 1)).toNatClampNeg) rfl rfl dX8_layItem_183 ?_
    refine lv_aload_n hx hb dX8_layItem_184 rfl (lv_at hl 3 rfl) ?_
    refine m_get (v := .ref (ad 10)) hx hb hts hown hK hP 12 (by decide) rfl kX8_37 rfl dX8_layItem_185 ?_
    refine lv_iload_n hx hb dX8_layItem_188 rfl (lv_at hl 2 rfl) ?_
    refine kn_iald (f := (RA 12)) (v := (RA 12 ((RA 2 (v1 + 1)).toNatClampNeg))) hx hb hK hP 10 rfl ((RA 2 (v1 + 1)).toNatClampNeg) rfl (by omega) (by omega) rfl dX8_layItem_189 ?_
    refine kn_top (x' := (nI ((RA 12 ((RA 2 (v1 + 1)).toNatClampNeg)).toNatClampNeg))) (kNat (mI_bm0 hM ((RA 2 (v1 + 1)).toNatClampNeg) (by omega))) ?_
    refine kn_iadd hx hb (4 * ((RA 2 (v1 + 1)).toNatClampNeg)) ((RA 12 ((RA 2 (v1 + 1)).toNatClampNeg)).toNatClampNeg) rfl rfl dX8_layItem_190 ?_
    refine lv_iload_n hx hb dX8_layItem_191 rfl (lv_at hl 1 rfl) ?_
    refine kn_iast (f := (RA 10)) (ws' := RWs cI ad (va_up RA 10 (upd (RA 10) ((4 * ((RA 2 (v1 + 1)).toNatClampNeg)) + ((RA 12 ((RA 2 (v1 + 1)).toNatClampNeg)).toNatClampNeg)) (RA 2 (v1 + 2)))) RS RN RL) hx hb hK hP (RWsD hI) hS 8 rfl ((4 * ((RA 2 (v1 + 1)).toNatClampNeg)) + ((RA 12 ((RA 2 (v1 + 1)).toNatClampNeg)).toNatClampNeg)) rfl (by omega) (by omega) rfl dX8_layItem_192 (fun H locs hP hS => ?_)
    refine lv_aload_n hx hb dX8_layItem_193 rfl (lv_at hl 3 rfl) ?_
    refine m_get (v := .ref (ad 9)) hx hb hts hown hK hP 11 (by decide) rfl kX8_34 rfl dX8_layItem_194 ?_
    refine lv_iconst (v := 4) hx hb dX8_layItem_197 (by decide) ?_
    refine lv_iload_n hx hb dX8_layItem_198 rfl (lv_at hl 2 rfl) ?_
    refine kn_imul hx hb 4 ((RA 2 (v1 + 1)).toNatClampNeg) rfl rfl dX8_layItem_199 ?_
    refine lv_aload_n hx hb dX8_layItem_200 rfl (lv_at hl 3 rfl) ?_
    refine m_get (v := .ref (ad 10)) hx hb hts hown hK hP 12 (by decide) rfl kX8_37 rfl dX8_layItem_201 ?_
    refine lv_iload_n hx hb dX8_layItem_204 rfl (lv_at hl 2 rfl) ?_
    refine kn_iald (f := (RA 12)) (v := (RA 12 ((RA 2 (v1 + 1)).toNatClampNeg))) hx hb hK hP 10 rfl ((RA 2 (v1 + 1)).toNatClampNeg) rfl (by omega) (by omega) rfl dX8_layItem_205 ?_
    refine kn_top (x' := (nI ((RA 12 ((RA 2 (v1 + 1)).toNatClampNeg)).toNatClampNeg))) (kNat (mI_bm0 hM ((RA 2 (v1 + 1)).toNatClampNeg) (by omega))) ?_
    refine kn_iadd hx hb (4 * ((RA 2 (v1 + 1)).toNatClampNeg)) ((RA 12 ((RA 2 (v1 + 1)).toNatClampNeg)).toNatClampNeg) rfl rfl dX8_layItem_206 ?_
    refine lv_iload hx hb dX8_layItem_207 (lv_at hl 0 rfl) ?_
    refine kn_iast (f := (RA 11)) (ws' := RWs cI ad (va_up (va_up RA 10 (upd (RA 10) ((4 * ((RA 2 (v1 + 1)).toNatClampNeg)) + ((RA 12 ((RA 2 (v1 + 1)).toNatClampNeg)).toNatClampNeg)) (RA 2 (v1 + 2)))) 11 (upd (RA 11) ((4 * ((RA 2 (v1 + 1)).toNatClampNeg)) + ((RA 12 ((RA 2 (v1 + 1)).toNatClampNeg)).toNatClampNeg)) (RA 2 (v1 + 3)))) RS RN RL) hx hb hK hP (RWsD hI) hS 9 rfl ((4 * ((RA 2 (v1 + 1)).toNatClampNeg)) + ((RA 12 ((RA 2 (v1 + 1)).toNatClampNeg)).toNatClampNeg)) rfl (by omega) (by omega) rfl dX8_layItem_209 (fun H locs hP hS => ?_)
    refine lv_aload_n hx hb dX8_layItem_210 rfl (lv_at hl 3 rfl) ?_
    refine m_get (v := .ref (ad 10)) hx hb hts hown hK hP 12 (by decide) rfl kX8_37 rfl dX8_layItem_211 ?_
    refine lv_iload_n hx hb dX8_layItem_214 rfl (lv_at hl 2 rfl) ?_
    refine lv_dup2_11 hx hb dX8_layItem_215 rfl rfl ?_
    refine kn_iald (f := (RA 12)) (v := (RA 12 ((RA 2 (v1 + 1)).toNatClampNeg))) hx hb hK hP 10 rfl ((RA 2 (v1 + 1)).toNatClampNeg) rfl (by omega) (by omega) rfl dX8_layItem_216 ?_
    refine lv_iconst (v := 1) hx hb dX8_layItem_217 (by decide) ?_
    refine lv_iadd hx hb dX8_layItem_218 ?_
    refine kn_iast (f := (RA 12)) (ws' := RWs cI ad (va_up (va_up (va_up RA 10 (upd (RA 10) ((4 * ((RA 2 (v1 + 1)).toNatClampNeg)) + ((RA 12 ((RA 2 (v1 + 1)).toNatClampNeg)).toNatClampNeg)) (RA 2 (v1 + 2)))) 11 (upd (RA 11) ((4 * ((RA 2 (v1 + 1)).toNatClampNeg)) + ((RA 12 ((RA 2 (v1 + 1)).toNatClampNeg)).toNatClampNeg)) (RA 2 (v1 + 3)))) 12 (upd (RA 12) ((RA 2 (v1 + 1)).toNatClampNeg) ((RA 12 ((RA 2 (v1 + 1)).toNatClampNeg)) + 1))) RS RN RL) hx hb hK hP (RWsD hI) hS 10 rfl ((RA 2 (v1 + 1)).toNatClampNeg) rfl (by omega) (by omega) rfl dX8_layItem_219 (fun H locs hP hS => ?_)
    have hE : (m_layItem RA RS RN v1) = ((RA 5), (RA 6), (RA 7), (RA 8), (RA 9), (upd (RA 10) ((4 * ((RA 2 (v1 + 1)).toNatClampNeg)) + ((RA 12 ((RA 2 (v1 + 1)).toNatClampNeg)).toNatClampNeg)) (RA 2 (v1 + 2))), (upd (RA 11) ((4 * ((RA 2 (v1 + 1)).toNatClampNeg)) + ((RA 12 ((RA 2 (v1 + 1)).toNatClampNeg)).toNatClampNeg)) (RA 2 (v1 + 3))), (upd (RA 12) ((RA 2 (v1 + 1)).toNatClampNeg) ((RA 12 ((RA 2 (v1 + 1)).toNatClampNeg)) + 1)), (RA 13), (RA 14), (RA 21), (RN 4), (RN 28), (RS 15), (RS 16), (RS 17), (RS 18), (RS 19), (RS 20)) := by rw [m_layItem, if_pos c_10]
    exact W.vret hx hb hr (fun t ht hW => ⟨rfl, by rw [hE]; exact kB.of (ws := RWs cI ad (va_up (va_up (va_up (va_up (va_up (va_up (va_up (va_up (va_up (va_up (va_up RA 5 (RA 5)) 6 (RA 6)) 7 (RA 7)) 8 (RA 8)) 9 (RA 9)) 10 (upd (RA 10) ((4 * ((RA 2 (v1 + 1)).toNatClampNeg)) + ((RA 12 ((RA 2 (v1 + 1)).toNatClampNeg)).toNatClampNeg)) (RA 2 (v1 + 2)))) 11 (upd (RA 11) ((4 * ((RA 2 (v1 + 1)).toNatClampNeg)) + ((RA 12 ((RA 2 (v1 + 1)).toNatClampNeg)).toNatClampNeg)) (RA 2 (v1 + 3)))) 12 (upd (RA 12) ((RA 2 (v1 + 1)).toNatClampNeg) ((RA 12 ((RA 2 (v1 + 1)).toNatClampNeg)) + 1))) 13 (RA 13)) 14 (RA 14)) 21 (RA 21)) (va_up (va_up (va_up (va_up (va_up (va_up RS 15 (RS 15)) 16 (RS 16)) 17 (RS 17)) 18 (RS 18)) 19 (RS 19)) 20 (RS 20)) (va_up (va_up RN 4 (RN 4)) 28 (RN 28)) RL) (RWs_conv rfl rfl rfl rfl rfl rfl rfl rfl rfl rfl rfl rfl rfl rfl rfl rfl rfl rfl rfl rfl rfl rfl rfl rfl rfl rfl rfl rfl rfl rfl rfl rfl rfl rfl rfl rfl rfl rfl rfl rfl rfl hP) hK hN ht hW, hS.F ht⟩) hS.2.2 dX8_layItem_220 hlocks
  · by_cases c_11 : (RA 2 v1) = 99
    · refine lv_tableIn (tgt := 269) hx hb dX8_layItem_34 (by rw [c_11]; decide) (by rw [c_11]; decide) (by rw [c_11]; rfl) (by decide) ?_
      have h2 := itOk_at hit (by assumption) 1 0 2
      have hnat2 : (RA 2 (v1 + 1)) = (nI ((RA 2 (v1 + 1)).toNatClampNeg)) := kNat h2.1
      have hl : lv_has ls 5 [(4, .int (RA 2 (v1 + 3))), (3, .int (RA 2 (v1 + 2))), (2, .int (nI ((RA 2 (v1 + 1)).toNatClampNeg))), (0, .ref (ad 0)), (1, .int (nI v1))] := by rw [← hnat2]; exact hl
      have h2b : ((RA 2 (v1 + 1)).toNatClampNeg) ≤ 2 := kNat_le h2.2
      refine lv_aload_n hx hb dX8_layItem_269 rfl (lv_at hl 3 rfl) ?_
      refine m_get (v := .ref (ad 12)) hx hb hts hown hK hP 14 (by decide) rfl kX8_43 rfl dX8_layItem_270 ?_
      refine lv_iconst (v := 3) hx hb dX8_layItem_273 (by decide) ?_
      refine lv_iload_n hx hb dX8_layItem_274 rfl (lv_at hl 2 rfl) ?_
      refine kn_imul hx hb 3 ((RA 2 (v1 + 1)).toNatClampNeg) rfl rfl dX8_layItem_275 ?_
      refine lv_iload_n hx hb dX8_layItem_276 rfl (lv_at hl 1 rfl) ?_
      refine kn_iast (f := (RA 14)) (ws' := RWs cI ad (va_up RA 14 (upd (RA 14) (3 * ((RA 2 (v1 + 1)).toNatClampNeg)) (RA 2 (v1 + 2)))) RS RN RL) hx hb hK hP (RWsD hI) hS 12 rfl (3 * ((RA 2 (v1 + 1)).toNatClampNeg)) rfl (by omega) (by omega) rfl dX8_layItem_277 (fun H locs hP hS => ?_)
      refine lv_aload_n hx hb dX8_layItem_278 rfl (lv_at hl 3 rfl) ?_
      refine m_get (v := .ref (ad 12)) hx hb hts hown hK hP 14 (by decide) rfl kX8_43 rfl dX8_layItem_279 ?_
      refine lv_iconst (v := 3) hx hb dX8_layItem_282 (by decide) ?_
      refine lv_iload_n hx hb dX8_layItem_283 rfl (lv_at hl 2 rfl) ?_
      refine kn_imul hx hb 3 ((RA 2 (v1 + 1)).toNatClampNeg) rfl rfl dX8_layItem_284 ?_
      refine lv_iconst (v := 1) hx hb dX8_layItem_285 (by decide) ?_
      refine kn_iadd hx hb (3 * ((RA 2 (v1 + 1)).toNatClampNeg)) 1 rfl rfl dX8_layItem_286 ?_
      refine lv_iload hx hb dX8_layItem_287 (lv_at hl 0 rfl) ?_
      refine kn_iast (f := (upd (RA 14) (3 * ((RA 2 (v1 + 1)).toNatClampNeg)) (RA 2 (v1 + 2)))) (ws' := RWs cI ad (va_up RA 14 (upd (upd (RA 14) (3 * ((RA 2 (v1 + 1)).toNatClampNeg)) (RA 2 (v1 + 2))) ((3 * ((RA 2 (v1 + 1)).toNatClampNeg)) + 1) (RA 2 (v1 + 3)))) RS RN RL) hx hb hK hP (RWsD hI) hS 12 rfl ((3 * ((RA 2 (v1 + 1)).toNatClampNeg)) + 1) rfl (by omega) (by omega) rfl dX8_layItem_289 (fun H locs hP hS => ?_)
      refine lv_aload_n hx hb dX8_layItem_290 rfl (lv_at hl 3 rfl) ?_
      refine m_get (v := .ref (ad 12)) hx hb hts hown hK hP 14 (by decide) rfl kX8_43 rfl dX8_layItem_291 ?_
      refine lv_iconst (v := 3) hx hb dX8_layItem_294 (by decide) ?_
      refine lv_iload_n hx hb dX8_layItem_295 rfl (lv_at hl 2 rfl) ?_
      refine kn_imul hx hb 3 ((RA 2 (v1 + 1)).toNatClampNeg) rfl rfl dX8_layItem_296 ?_
      refine lv_iconst (v := 2) hx hb dX8_layItem_297 (by decide) ?_
      refine kn_iadd hx hb (3 * ((RA 2 (v1 + 1)).toNatClampNeg)) 2 rfl rfl dX8_layItem_298 ?_
      refine lv_aload_n hx hb dX8_layItem_299 rfl (lv_at hl 3 rfl) ?_
      refine m_get (v := .ref (ad 2)) hx hb hts hown hK hP 2 (by decide) rfl kX8_13 rfl dX8_layItem_300 ?_
      refine lv_iload_n hx hb dX8_layItem_303 rfl (lv_at hl 4 rfl) ?_
      refine lv_iconst (v := 4) hx hb dX8_layItem_304 (by decide) ?_
      refine kn_iadd hx hb v1 4 rfl rfl dX8_layItem_305 ?_
      refine kn_iald (f := (RA 2)) (v := (RA 2 (v1 + 4))) hx hb hK hP 2 rfl (v1 + 4) rfl (by omega) (by omega) rfl dX8_layItem_306 ?_
      refine kn_iast (f := (upd (upd (RA 14) (3 * ((RA 2 (v1 + 1)).toNatClampNeg)) (RA 2 (v1 + 2))) ((3 * ((RA 2 (v1 + 1)).toNatClampNeg)) + 1) (RA 2 (v1 + 3)))) (ws' := RWs cI ad (va_up RA 14 (upd (upd (upd (RA 14) (3 * ((RA 2 (v1 + 1)).toNatClampNeg)) (RA 2 (v1 + 2))) ((3 * ((RA 2 (v1 + 1)).toNatClampNeg)) + 1) (RA 2 (v1 + 3))) ((3 * ((RA 2 (v1 + 1)).toNatClampNeg)) + 2) (RA 2 (v1 + 4)))) RS RN RL) hx hb hK hP (RWsD hI) hS 12 rfl ((3 * ((RA 2 (v1 + 1)).toNatClampNeg)) + 2) rfl (by omega) (by omega) rfl dX8_layItem_307 (fun H locs hP hS => ?_)
      have hE : (m_layItem RA RS RN v1) = ((RA 5), (RA 6), (RA 7), (RA 8), (RA 9), (RA 10), (RA 11), (RA 12), (RA 13), (upd (upd (upd (RA 14) (3 * ((RA 2 (v1 + 1)).toNatClampNeg)) (RA 2 (v1 + 2))) ((3 * ((RA 2 (v1 + 1)).toNatClampNeg)) + 1) (RA 2 (v1 + 3))) ((3 * ((RA 2 (v1 + 1)).toNatClampNeg)) + 2) (RA 2 (v1 + 4))), (RA 21), (RN 4), (RN 28), (RS 15), (RS 16), (RS 17), (RS 18), (RS 19), (RS 20)) := by rw [m_layItem, if_neg c_10, if_pos c_11]
      exact W.vret hx hb hr (fun t ht hW => ⟨rfl, by rw [hE]; exact kB.of (ws := RWs cI ad (va_up (va_up (va_up (va_up (va_up (va_up (va_up (va_up (va_up (va_up (va_up RA 5 (RA 5)) 6 (RA 6)) 7 (RA 7)) 8 (RA 8)) 9 (RA 9)) 10 (RA 10)) 11 (RA 11)) 12 (RA 12)) 13 (RA 13)) 14 (upd (upd (upd (RA 14) (3 * ((RA 2 (v1 + 1)).toNatClampNeg)) (RA 2 (v1 + 2))) ((3 * ((RA 2 (v1 + 1)).toNatClampNeg)) + 1) (RA 2 (v1 + 3))) ((3 * ((RA 2 (v1 + 1)).toNatClampNeg)) + 2) (RA 2 (v1 + 4)))) 21 (RA 21)) (va_up (va_up (va_up (va_up (va_up (va_up RS 15 (RS 15)) 16 (RS 16)) 17 (RS 17)) 18 (RS 18)) 19 (RS 19)) 20 (RS 20)) (va_up (va_up RN 4 (RN 4)) 28 (RN 28)) RL) (RWs_conv rfl rfl rfl rfl rfl rfl rfl rfl rfl rfl rfl rfl rfl rfl rfl rfl rfl rfl rfl rfl rfl rfl rfl rfl rfl rfl rfl rfl rfl rfl rfl rfl rfl rfl rfl rfl rfl rfl rfl rfl rfl hP) hK hN ht hW, hS.F ht⟩) hS.2.2 dX8_layItem_308 hlocks
    · by_cases c_12 : (RA 2 v1) = 103
      · refine lv_tableIn (tgt := 326) hx hb dX8_layItem_34 (by rw [c_12]; decide) (by rw [c_12]; decide) (by rw [c_12]; rfl) (by decide) ?_
        refine lv_aload_n hx hb dX8_layItem_326 rfl (lv_at hl 3 rfl) ?_
        refine lv_iload_n hx hb dX8_layItem_327 rfl (lv_at hl 2 rfl) ?_
        refine m_put (RS' := (va_up RS 17 (RA 2 (v1 + 1)))) (RN' := RN) (RL' := RL) (ty := .int) hx hb hts hown hI hK hP hS 17 (by decide) rfl kX8_148 rfl (by decide +kernel) rfl rfl rfl dX8_layItem_328 (fun H locs hP hS => ?_)
        have hE : (m_layItem RA RS RN v1) = ((RA 5), (RA 6), (RA 7), (RA 8), (RA 9), (RA 10), (RA 11), (RA 12), (RA 13), (RA 14), (RA 21), (RN 4), (RN 28), (RS 15), (RS 16), (RA 2 (v1 + 1)), (RS 18), (RS 19), (RS 20)) := by rw [m_layItem, if_neg c_10, if_neg c_11, if_pos c_12]
        exact W.vret hx hb hr (fun t ht hW => ⟨rfl, by rw [hE]; exact kB.of (ws := RWs cI ad (va_up (va_up (va_up (va_up (va_up (va_up (va_up (va_up (va_up (va_up (va_up RA 5 (RA 5)) 6 (RA 6)) 7 (RA 7)) 8 (RA 8)) 9 (RA 9)) 10 (RA 10)) 11 (RA 11)) 12 (RA 12)) 13 (RA 13)) 14 (RA 14)) 21 (RA 21)) (va_up (va_up (va_up (va_up (va_up (va_up RS 15 (RS 15)) 16 (RS 16)) 17 (RA 2 (v1 + 1))) 18 (RS 18)) 19 (RS 19)) 20 (RS 20)) (va_up (va_up RN 4 (RN 4)) 28 (RN 28)) RL) (RWs_conv rfl rfl rfl rfl rfl rfl rfl rfl rfl rfl rfl rfl rfl rfl rfl rfl rfl rfl rfl rfl rfl rfl rfl rfl rfl rfl rfl rfl rfl rfl rfl rfl rfl rfl rfl rfl rfl rfl rfl rfl rfl hP) hK hN ht hW, hS.F ht⟩) hS.2.2 dX8_layItem_331 hlocks
      · by_cases c_13 : (RA 2 v1) = 104
        · refine lv_tableIn (tgt := 315) hx hb dX8_layItem_34 (by rw [c_13]; decide) (by rw [c_13]; decide) (by rw [c_13]; rfl) (by decide) ?_
          refine lv_aload_n hx hb dX8_layItem_315 rfl (lv_at hl 3 rfl) ?_
          refine lv_iload_n hx hb dX8_layItem_316 rfl (lv_at hl 2 rfl) ?_
          refine m_put (RS' := (va_up RS 15 (RA 2 (v1 + 1)))) (RN' := RN) (RL' := RL) (ty := .int) hx hb hts hown hI hK hP hS 15 (by decide) rfl kX8_142 rfl (by decide +kernel) rfl rfl rfl dX8_layItem_317 (fun H locs hP hS => ?_)
          refine lv_aload_n hx hb dX8_layItem_320 rfl (lv_at hl 3 rfl) ?_
          refine lv_iload_n hx hb dX8_layItem_321 rfl (lv_at hl 1 rfl) ?_
          refine m_put (RS' := (va_up (va_up RS 15 (RA 2 (v1 + 1))) 16 (RA 2 (v1 + 2)))) (RN' := RN) (RL' := RL) (ty := .int) hx hb hts hown hI hK hP hS 16 (by decide) rfl kX8_145 rfl (by decide +kernel) rfl rfl rfl dX8_layItem_322 (fun H locs hP hS => ?_)
          have hE : (m_layItem RA RS RN v1) = ((RA 5), (RA 6), (RA 7), (RA 8), (RA 9), (RA 10), (RA 11), (RA 12), (RA 13), (RA 14), (RA 21), (RN 4), (RN 28), (RA 2 (v1 + 1)), (RA 2 (v1 + 2)), (RS 17), (RS 18), (RS 19), (RS 20)) := by rw [m_layItem, if_neg c_10, if_neg c_11, if_neg c_12, if_pos c_13]
          exact W.vret hx hb hr (fun t ht hW => ⟨rfl, by rw [hE]; exact kB.of (ws := RWs cI ad (va_up (va_up (va_up (va_up (va_up (va_up (va_up (va_up (va_up (va_up (va_up RA 5 (RA 5)) 6 (RA 6)) 7 (RA 7)) 8 (RA 8)) 9 (RA 9)) 10 (RA 10)) 11 (RA 11)) 12 (RA 12)) 13 (RA 13)) 14 (RA 14)) 21 (RA 21)) (va_up (va_up (va_up (va_up (va_up (va_up RS 15 (RA 2 (v1 + 1))) 16 (RA 2 (v1 + 2))) 17 (RS 17)) 18 (RS 18)) 19 (RS 19)) 20 (RS 20)) (va_up (va_up RN 4 (RN 4)) 28 (RN 28)) RL) (RWs_conv rfl rfl rfl rfl rfl rfl rfl rfl rfl rfl rfl rfl rfl rfl rfl rfl rfl rfl rfl rfl rfl rfl rfl rfl rfl rfl rfl rfl rfl rfl rfl rfl rfl rfl rfl rfl rfl rfl rfl rfl rfl hP) hK hN ht hW, hS.F ht⟩) hS.2.2 dX8_layItem_325 hlocks
        · by_cases c_14 : (RA 2 v1) = 107
          · refine lv_tableIn (tgt := 229) hx hb dX8_layItem_34 (by rw [c_14]; decide) (by rw [c_14]; decide) (by rw [c_14]; rfl) (by decide) ?_
            have h2 := itOk_at hit (by assumption) 1 0 2
            have hnat2 : (RA 2 (v1 + 1)) = (nI ((RA 2 (v1 + 1)).toNatClampNeg)) := kNat h2.1
            have hl : lv_has ls 5 [(4, .int (RA 2 (v1 + 3))), (3, .int (RA 2 (v1 + 2))), (2, .int (nI ((RA 2 (v1 + 1)).toNatClampNeg))), (0, .ref (ad 0)), (1, .int (nI v1))] := by rw [← hnat2]; exact hl
            have h2b : ((RA 2 (v1 + 1)).toNatClampNeg) ≤ 2 := kNat_le h2.2
            refine lv_aload_n hx hb dX8_layItem_229 rfl (lv_at hl 3 rfl) ?_
            refine m_get (v := .ref (ad 11)) hx hb hts hown hK hP 13 (by decide) rfl kX8_40 rfl dX8_layItem_230 ?_
            refine lv_iconst (v := 3) hx hb dX8_layItem_233 (by decide) ?_
            refine lv_iload_n hx hb dX8_layItem_234 rfl (lv_at hl 2 rfl) ?_
            refine kn_imul hx hb 3 ((RA 2 (v1 + 1)).toNatClampNeg) rfl rfl dX8_layItem_235 ?_
            refine lv_iload_n hx hb dX8_layItem_236 rfl (lv_at hl 1 rfl) ?_
            refine kn_iast (f := (RA 13)) (ws' := RWs cI ad (va_up RA 13 (upd (RA 13) (3 * ((RA 2 (v1 + 1)).toNatClampNeg)) (RA 2 (v1 + 2)))) RS RN RL) hx hb hK hP (RWsD hI) hS 11 rfl (3 * ((RA 2 (v1 + 1)).toNatClampNeg)) rfl (by omega) (by omega) rfl dX8_layItem_237 (fun H locs hP hS => ?_)
            refine lv_aload_n hx hb dX8_layItem_238 rfl (lv_at hl 3 rfl) ?_
            refine m_get (v := .ref (ad 11)) hx hb hts hown hK hP 13 (by decide) rfl kX8_40 rfl dX8_layItem_239 ?_
            refine lv_iconst (v := 3) hx hb dX8_layItem_242 (by decide) ?_
            refine lv_iload_n hx hb dX8_layItem_243 rfl (lv_at hl 2 rfl) ?_
            refine kn_imul hx hb 3 ((RA 2 (v1 + 1)).toNatClampNeg) rfl rfl dX8_layItem_244 ?_
            refine lv_iconst (v := 1) hx hb dX8_layItem_245 (by decide) ?_
            refine kn_iadd hx hb (3 * ((RA 2 (v1 + 1)).toNatClampNeg)) 1 rfl rfl dX8_layItem_246 ?_
            refine lv_iload hx hb dX8_layItem_247 (lv_at hl 0 rfl) ?_
            refine kn_iast (f := (upd (RA 13) (3 * ((RA 2 (v1 + 1)).toNatClampNeg)) (RA 2 (v1 + 2)))) (ws' := RWs cI ad (va_up RA 13 (upd (upd (RA 13) (3 * ((RA 2 (v1 + 1)).toNatClampNeg)) (RA 2 (v1 + 2))) ((3 * ((RA 2 (v1 + 1)).toNatClampNeg)) + 1) (RA 2 (v1 + 3)))) RS RN RL) hx hb hK hP (RWsD hI) hS 11 rfl ((3 * ((RA 2 (v1 + 1)).toNatClampNeg)) + 1) rfl (by omega) (by omega) rfl dX8_layItem_249 (fun H locs hP hS => ?_)
            refine lv_aload_n hx hb dX8_layItem_250 rfl (lv_at hl 3 rfl) ?_
            refine m_get (v := .ref (ad 11)) hx hb hts hown hK hP 13 (by decide) rfl kX8_40 rfl dX8_layItem_251 ?_
            refine lv_iconst (v := 3) hx hb dX8_layItem_254 (by decide) ?_
            refine lv_iload_n hx hb dX8_layItem_255 rfl (lv_at hl 2 rfl) ?_
            refine kn_imul hx hb 3 ((RA 2 (v1 + 1)).toNatClampNeg) rfl rfl dX8_layItem_256 ?_
            refine lv_iconst (v := 2) hx hb dX8_layItem_257 (by decide) ?_
            refine kn_iadd hx hb (3 * ((RA 2 (v1 + 1)).toNatClampNeg)) 2 rfl rfl dX8_layItem_258 ?_
            refine lv_aload_n hx hb dX8_layItem_259 rfl (lv_at hl 3 rfl) ?_
            refine m_get (v := .ref (ad 2)) hx hb hts hown hK hP 2 (by decide) rfl kX8_13 rfl dX8_layItem_260 ?_
            refine lv_iload_n hx hb dX8_layItem_263 rfl (lv_at hl 4 rfl) ?_
            refine lv_iconst (v := 4) hx hb dX8_layItem_264 (by decide) ?_
            refine kn_iadd hx hb v1 4 rfl rfl dX8_layItem_265 ?_
            refine kn_iald (f := (RA 2)) (v := (RA 2 (v1 + 4))) hx hb hK hP 2 rfl (v1 + 4) rfl (by omega) (by omega) rfl dX8_layItem_266 ?_
            refine kn_iast (f := (upd (upd (RA 13) (3 * ((RA 2 (v1 + 1)).toNatClampNeg)) (RA 2 (v1 + 2))) ((3 * ((RA 2 (v1 + 1)).toNatClampNeg)) + 1) (RA 2 (v1 + 3)))) (ws' := RWs cI ad (va_up RA 13 (upd (upd (upd (RA 13) (3 * ((RA 2 (v1 + 1)).toNatClampNeg)) (RA 2 (v1 + 2))) ((3 * ((RA 2 (v1 + 1)).toNatClampNeg)) + 1) (RA 2 (v1 + 3))) ((3 * ((RA 2 (v1 + 1)).toNatClampNeg)) + 2) (RA 2 (v1 + 4)))) RS RN RL) hx hb hK hP (RWsD hI) hS 11 rfl ((3 * ((RA 2 (v1 + 1)).toNatClampNeg)) + 2) rfl (by omega) (by omega) rfl dX8_layItem_267 (fun H locs hP hS => ?_)
            have hE : (m_layItem RA RS RN v1) = ((RA 5), (RA 6), (RA 7), (RA 8), (RA 9), (RA 10), (RA 11), (RA 12), (upd (upd (upd (RA 13) (3 * ((RA 2 (v1 + 1)).toNatClampNeg)) (RA 2 (v1 + 2))) ((3 * ((RA 2 (v1 + 1)).toNatClampNeg)) + 1) (RA 2 (v1 + 3))) ((3 * ((RA 2 (v1 + 1)).toNatClampNeg)) + 2) (RA 2 (v1 + 4))), (RA 14), (RA 21), (RN 4), (RN 28), (RS 15), (RS 16), (RS 17), (RS 18), (RS 19), (RS 20)) := by rw [m_layItem, if_neg c_10, if_neg c_11, if_neg c_12, if_neg c_13, if_pos c_14]
            exact W.vret hx hb hr (fun t ht hW => ⟨rfl, by rw [hE]; exact kB.of (ws := RWs cI ad (va_up (va_up (va_up (va_up (va_up (va_up (va_up (va_up (va_up (va_up (va_up RA 5 (RA 5)) 6 (RA 6)) 7 (RA 7)) 8 (RA 8)) 9 (RA 9)) 10 (RA 10)) 11 (RA 11)) 12 (RA 12)) 13 (upd (upd (upd (RA 13) (3 * ((RA 2 (v1 + 1)).toNatClampNeg)) (RA 2 (v1 + 2))) ((3 * ((RA 2 (v1 + 1)).toNatClampNeg)) + 1) (RA 2 (v1 + 3))) ((3 * ((RA 2 (v1 + 1)).toNatClampNeg)) + 2) (RA 2 (v1 + 4)))) 14 (RA 14)) 21 (RA 21)) (va_up (va_up (va_up (va_up (va_up (va_up RS 15 (RS 15)) 16 (RS 16)) 17 (RS 17)) 18 (RS 18)) 19 (RS 19)) 20 (RS 20)) (va_up (va_up RN 4 (RN 4)) 28 (RN 28)) RL) (RWs_conv rfl rfl rfl rfl rfl rfl rfl rfl rfl rfl rfl rfl rfl rfl rfl rfl rfl rfl rfl rfl rfl rfl rfl rfl rfl rfl rfl rfl rfl rfl rfl rfl rfl rfl rfl rfl rfl rfl rfl rfl rfl hP) hK hN ht hW, hS.F ht⟩) hS.2.2 dX8_layItem_268 hlocks
          · by_cases c_15 : (RA 2 v1) = 111
            · refine lv_tableIn (tgt := 332) hx hb dX8_layItem_34 (by rw [c_15]; decide) (by rw [c_15]; decide) (by rw [c_15]; rfl) (by decide) ?_
              refine lv_aload_n hx hb dX8_layItem_332 rfl (lv_at hl 3 rfl) ?_
              refine lv_iload_n hx hb dX8_layItem_333 rfl (lv_at hl 2 rfl) ?_
              refine m_put (RS' := (va_up RS 18 (RA 2 (v1 + 1)))) (RN' := RN) (RL' := RL) (ty := .int) hx hb hts hown hI hK hP hS 18 (by decide) rfl kX8_151 rfl (by decide +kernel) rfl rfl rfl dX8_layItem_334 (fun H locs hP hS => ?_)
              refine lv_aload_n hx hb dX8_layItem_337 rfl (lv_at hl 3 rfl) ?_
              refine lv_iload_n hx hb dX8_layItem_338 rfl (lv_at hl 1 rfl) ?_
              refine m_put (RS' := (va_up (va_up RS 18 (RA 2 (v1 + 1))) 19 (RA 2 (v1 + 2)))) (RN' := RN) (RL' := RL) (ty := .int) hx hb hts hown hI hK hP hS 19 (by decide) rfl kX8_154 rfl (by decide +kernel) rfl rfl rfl dX8_layItem_339 (fun H locs hP hS => ?_)
              have hE : (m_layItem RA RS RN v1) = ((RA 5), (RA 6), (RA 7), (RA 8), (RA 9), (RA 10), (RA 11), (RA 12), (RA 13), (RA 14), (RA 21), (RN 4), (RN 28), (RS 15), (RS 16), (RS 17), (RA 2 (v1 + 1)), (RA 2 (v1 + 2)), (RS 20)) := by rw [m_layItem, if_neg c_10, if_neg c_11, if_neg c_12, if_neg c_13, if_neg c_14, if_pos c_15]
              exact W.vret hx hb hr (fun t ht hW => ⟨rfl, by rw [hE]; exact kB.of (ws := RWs cI ad (va_up (va_up (va_up (va_up (va_up (va_up (va_up (va_up (va_up (va_up (va_up RA 5 (RA 5)) 6 (RA 6)) 7 (RA 7)) 8 (RA 8)) 9 (RA 9)) 10 (RA 10)) 11 (RA 11)) 12 (RA 12)) 13 (RA 13)) 14 (RA 14)) 21 (RA 21)) (va_up (va_up (va_up (va_up (va_up (va_up RS 15 (RS 15)) 16 (RS 16)) 17 (RS 17)) 18 (RA 2 (v1 + 1))) 19 (RA 2 (v1 + 2))) 20 (RS 20)) (va_up (va_up RN 4 (RN 4)) 28 (RN 28)) RL) (RWs_conv rfl rfl rfl rfl rfl rfl rfl rfl rfl rfl rfl rfl rfl rfl rfl rfl rfl rfl rfl rfl rfl rfl rfl rfl rfl rfl rfl rfl rfl rfl rfl rfl rfl rfl rfl rfl rfl rfl rfl rfl rfl hP) hK hN ht hW, hS.F ht⟩) hS.2.2 dX8_layItem_342 hlocks
            · by_cases c_16 : (RA 2 v1) = 112
              · refine lv_tableIn (tgt := 221) hx hb dX8_layItem_34 (by rw [c_16]; decide) (by rw [c_16]; decide) (by rw [c_16]; rfl) (by decide) ?_
                have h2 := itOk_at hit (by assumption) 1 0 7
                have hnat2 : (RA 2 (v1 + 1)) = (nI ((RA 2 (v1 + 1)).toNatClampNeg)) := kNat h2.1
                have hl : lv_has ls 5 [(4, .int (RA 2 (v1 + 3))), (3, .int (RA 2 (v1 + 2))), (2, .int (nI ((RA 2 (v1 + 1)).toNatClampNeg))), (0, .ref (ad 0)), (1, .int (nI v1))] := by rw [← hnat2]; exact hl
                have h2b : ((RA 2 (v1 + 1)).toNatClampNeg) ≤ 7 := kNat_le h2.2
                refine lv_aload_n hx hb dX8_layItem_221 rfl (lv_at hl 3 rfl) ?_
                refine m_get (v := .ref (ad 7)) hx hb hts hown hK hP 9 (by decide) rfl kX8_28 rfl dX8_layItem_222 ?_
                refine lv_iload_n hx hb dX8_layItem_225 rfl (lv_at hl 2 rfl) ?_
                refine lv_iload_n hx hb dX8_layItem_226 rfl (lv_at hl 1 rfl) ?_
                refine kn_iast (f := (RA 9)) (ws' := RWs cI ad (va_up RA 9 (upd (RA 9) ((RA 2 (v1 + 1)).toNatClampNeg) (RA 2 (v1 + 2)))) RS RN RL) hx hb hK hP (RWsD hI) hS 7 rfl ((RA 2 (v1 + 1)).toNatClampNeg) rfl (by omega) (by omega) rfl dX8_layItem_227 (fun H locs hP hS => ?_)
                have hE : (m_layItem RA RS RN v1) = ((RA 5), (RA 6), (RA 7), (RA 8), (upd (RA 9) ((RA 2 (v1 + 1)).toNatClampNeg) (RA 2 (v1 + 2))), (RA 10), (RA 11), (RA 12), (RA 13), (RA 14), (RA 21), (RN 4), (RN 28), (RS 15), (RS 16), (RS 17), (RS 18), (RS 19), (RS 20)) := by rw [m_layItem, if_neg c_10, if_neg c_11, if_neg c_12, if_neg c_13, if_neg c_14, if_neg c_15, if_pos c_16]
                exact W.vret hx hb hr (fun t ht hW => ⟨rfl, by rw [hE]; exact kB.of (ws := RWs cI ad (va_up (va_up (va_up (va_up (va_up (va_up (va_up (va_up (va_up (va_up (va_up RA 5 (RA 5)) 6 (RA 6)) 7 (RA 7)) 8 (RA 8)) 9 (upd (RA 9) ((RA 2 (v1 + 1)).toNatClampNeg) (RA 2 (v1 + 2)))) 10 (RA 10)) 11 (RA 11)) 12 (RA 12)) 13 (RA 13)) 14 (RA 14)) 21 (RA 21)) (va_up (va_up (va_up (va_up (va_up (va_up RS 15 (RS 15)) 16 (RS 16)) 17 (RS 17)) 18 (RS 18)) 19 (RS 19)) 20 (RS 20)) (va_up (va_up RN 4 (RN 4)) 28 (RN 28)) RL) (RWs_conv rfl rfl rfl rfl rfl rfl rfl rfl rfl rfl rfl rfl rfl rfl rfl rfl rfl rfl rfl rfl rfl rfl rfl rfl rfl rfl rfl rfl rfl rfl rfl rfl rfl rfl rfl rfl rfl rfl rfl rfl rfl hP) hK hN ht hW, hS.F ht⟩) hS.2.2 dX8_layItem_228 hlocks
              · by_cases c_17 : (RA 2 v1) = 114
                · refine lv_tableIn (tgt := 120) hx hb dX8_layItem_34 (by rw [c_17]; decide) (by rw [c_17]; decide) (by rw [c_17]; rfl) (by decide) ?_
                  have h4 := hroof (by assumption)
                  refine lv_aload_n hx hb dX8_layItem_120 rfl (lv_at hl 3 rfl) ?_
                  refine lv_aload_n hx hb dX8_layItem_121 rfl (lv_at hl 3 rfl) ?_
                  refine m_get (v := .int (nI (RN 4))) hx hb hts hown hK hP 4 (by decide) rfl kX8_82 rfl dX8_layItem_122 ?_
                  refine lv_iload_n hx hb dX8_layItem_125 rfl (lv_at hl 2 rfl) ?_
                  refine lv_iload_n hx hb dX8_layItem_126 rfl (lv_at hl 1 rfl) ?_
                  refine lv_iload hx hb dX8_layItem_127 (lv_at hl 0 rfl) ?_
                  refine lv_aload_n hx hb dX8_layItem_129 rfl (lv_at hl 3 rfl) ?_
                  refine m_get (v := .ref (ad 2)) hx hb hts hown hK hP 2 (by decide) rfl kX8_13 rfl dX8_layItem_130 ?_
                  refine lv_iload_n hx hb dX8_layItem_133 rfl (lv_at hl 4 rfl) ?_
                  refine lv_iconst (v := 4) hx hb dX8_layItem_134 (by decide) ?_
                  refine kn_iadd hx hb v1 4 rfl rfl dX8_layItem_135 ?_
                  refine kn_iald (f := (RA 2)) (v := (RA 2 (v1 + 4))) hx hb hK hP 2 rfl (v1 + 4) rfl (by omega) (by omega) rfl dX8_layItem_136 ?_
                  refine lv_aload_n hx hb dX8_layItem_137 rfl (lv_at hl 3 rfl) ?_
                  refine m_get (v := .ref (ad 2)) hx hb hts hown hK hP 2 (by decide) rfl kX8_13 rfl dX8_layItem_138 ?_
                  refine lv_iload_n hx hb dX8_layItem_141 rfl (lv_at hl 4 rfl) ?_
                  refine lv_iconst (v := 5) hx hb dX8_layItem_142 (by decide) ?_
                  refine kn_iadd hx hb v1 5 rfl rfl dX8_layItem_143 ?_
                  refine kn_iald (f := (RA 2)) (v := (RA 2 (v1 + 5))) hx hb hK hP 2 rfl (v1 + 5) rfl (by omega) (by omega) rfl dX8_layItem_144 ?_
                  refine k_wV (r := none) (As := [.int (nI (RN 4)), .int (RA 2 (v1 + 1)), .int (RA 2 (v1 + 2)), .int (RA 2 (v1 + 3)), .int (RA 2 (v1 + 4)), .int (RA 2 (v1 + 5))]) (rest := []) hx hb hml hown hts hl.1 hP hK hN hS (c_m_roofBy hI (RN 4) (RA 2 (v1 + 1)) (RA 2 (v1 + 2)) (RA 2 (v1 + 3)) (RA 2 (v1 + 4)) (RA 2 (v1 + 5)) (by omega)) eX8_86 (ci := 7) (q0 := 0) rfl rfl rfl rfl rfl (Nat.le_of_ble_eq_true rfl) ⟨Nat.le_of_ble_eq_true rfl, Nat.le_of_ble_eq_true rfl⟩ ⟨rfl, rfl⟩ ⟨Nat.le_of_ble_eq_true rfl, Nat.le_of_ble_eq_true rfl⟩ dX8_layItem_145 (fun H locs hP hS => ?_)
                  obtain ⟨r_18, hr_18⟩ : ∃ z, z = (m_roofBy RA (RN 4) (RA 2 (v1 + 1)) (RA 2 (v1 + 2)) (RA 2 (v1 + 3)) (RA 2 (v1 + 4)) (RA 2 (v1 + 5))) := ⟨_, rfl⟩
                  rw [← hr_18] at hP
                  have hP : va_P (dC, dI) vwCl (RWs cI ad (va_up (va_up (va_up (va_up RA 5 r_18.1) 6 r_18.2.1) 7 r_18.2.2.1) 21 r_18.2.2.2) RS RN RL) H := (RWs_conv rfl rfl rfl rfl rfl rfl rfl rfl rfl rfl rfl rfl rfl rfl rfl rfl rfl rfl rfl rfl rfl rfl rfl rfl rfl rfl rfl rfl rfl rfl rfl rfl rfl rfl rfl rfl rfl rfl rfl rfl rfl hP)
                  refine lv_aload_n hx hb dX8_layItem_148 rfl (lv_at hl 3 rfl) ?_
                  refine m_get (v := .ref (ad 6)) hx hb hts hown hK hP 8 (by decide) rfl kX8_25 rfl dX8_layItem_149 ?_
                  refine lv_aload_n hx hb dX8_layItem_152 rfl (lv_at hl 3 rfl) ?_
                  refine m_get (v := .int (nI (RN 4))) hx hb hts hown hK hP 4 (by decide) rfl kX8_82 rfl dX8_layItem_153 ?_
                  refine lv_aload_n hx hb dX8_layItem_156 rfl (lv_at hl 3 rfl) ?_
                  refine m_get (v := .ref (ad 2)) hx hb hts hown hK hP 2 (by decide) rfl kX8_13 rfl dX8_layItem_157 ?_
                  refine lv_iload_n hx hb dX8_layItem_160 rfl (lv_at hl 4 rfl) ?_
                  refine lv_bipush (v := 6) hx hb dX8_layItem_161 (by decide) ?_
                  refine kn_iadd hx hb v1 6 rfl rfl dX8_layItem_163 ?_
                  refine kn_iald (f := (RA 2)) (v := (RA 2 (v1 + 6))) hx hb hK hP 2 rfl (v1 + 6) rfl (by omega) (by omega) rfl dX8_layItem_164 ?_
                  refine kn_iast (f := (RA 8)) (ws' := RWs cI ad (va_up (va_up (va_up (va_up (va_up RA 5 r_18.1) 6 r_18.2.1) 7 r_18.2.2.1) 8 (upd (RA 8) (RN 4) (RA 2 (v1 + 6)))) 21 r_18.2.2.2) RS RN RL) hx hb hK hP (RWsD hI) hS 6 rfl (RN 4) rfl (by omega) (by omega) rfl dX8_layItem_165 (fun H locs hP hS => ?_)
                  refine lv_aload_n hx hb dX8_layItem_166 rfl (lv_at hl 3 rfl) ?_
                  refine lv_dup hx hb dX8_layItem_167 rfl ?_
                  refine m_get (v := .int (nI (RN 4))) hx hb hts hown hK hP 4 (by decide) rfl kX8_82 rfl dX8_layItem_168 ?_
                  refine lv_iconst (v := 1) hx hb dX8_layItem_171 (by decide) ?_
                  refine kn_iadd hx hb (RN 4) 1 rfl rfl dX8_layItem_172 ?_
                  refine m_put (RS' := RS) (RN' := (va_up RN 4 ((RN 4) + 1))) (RL' := RL) (ty := .int) hx hb hts hown hI hK hP hS 4 (by decide) rfl kX8_82 rfl (by decide +kernel) rfl rfl rfl dX8_layItem_173 (fun H locs hP hS => ?_)
                  have hE : (m_layItem RA RS RN v1) = (r_18.1, r_18.2.1, r_18.2.2.1, (upd (RA 8) (RN 4) (RA 2 (v1 + 6))), (RA 9), (RA 10), (RA 11), (RA 12), (RA 13), (RA 14), r_18.2.2.2, (RN 4) + 1, (RN 28), (RS 15), (RS 16), (RS 17), (RS 18), (RS 19), (RS 20)) := by subst hr_18; rw [m_layItem, if_neg c_10, if_neg c_11, if_neg c_12, if_neg c_13, if_neg c_14, if_neg c_15, if_neg c_16, if_pos c_17]
                  exact W.vret hx hb hr (fun t ht hW => ⟨rfl, by rw [hE]; exact kB.of (ws := RWs cI ad (va_up (va_up (va_up (va_up (va_up (va_up (va_up (va_up (va_up (va_up (va_up RA 5 r_18.1) 6 r_18.2.1) 7 r_18.2.2.1) 8 (upd (RA 8) (RN 4) (RA 2 (v1 + 6)))) 9 (RA 9)) 10 (RA 10)) 11 (RA 11)) 12 (RA 12)) 13 (RA 13)) 14 (RA 14)) 21 r_18.2.2.2) (va_up (va_up (va_up (va_up (va_up (va_up RS 15 (RS 15)) 16 (RS 16)) 17 (RS 17)) 18 (RS 18)) 19 (RS 19)) 20 (RS 20)) (va_up (va_up RN 4 ((RN 4) + 1)) 28 (RN 28)) RL) (RWs_conv rfl rfl rfl rfl rfl rfl rfl rfl rfl rfl rfl rfl rfl rfl rfl rfl rfl rfl rfl rfl rfl rfl rfl rfl rfl rfl rfl rfl rfl rfl rfl rfl rfl rfl rfl rfl rfl rfl rfl rfl rfl hP) hK hN ht hW, hS.F ht⟩) hS.2.2 dX8_layItem_176 hlocks
                · by_cases c_19 : (RA 2 v1) = 115
                  · refine lv_tableIn (tgt := 309) hx hb dX8_layItem_34 (by rw [c_19]; decide) (by rw [c_19]; decide) (by rw [c_19]; rfl) (by decide) ?_
                    have h2 := itOk_at hit (by assumption) 1 0 2
                    have hnat2 : (RA 2 (v1 + 1)) = (nI ((RA 2 (v1 + 1)).toNatClampNeg)) := kNat h2.1
                    have hl : lv_has ls 5 [(4, .int (RA 2 (v1 + 3))), (3, .int (RA 2 (v1 + 2))), (2, .int (nI ((RA 2 (v1 + 1)).toNatClampNeg))), (0, .ref (ad 0)), (1, .int (nI v1))] := by rw [← hnat2]; exact hl
                    have h2b : ((RA 2 (v1 + 1)).toNatClampNeg) ≤ 2 := kNat_le h2.2
                    refine lv_aload_n hx hb dX8_layItem_309 rfl (lv_at hl 3 rfl) ?_
                    refine lv_iload_n hx hb dX8_layItem_310 rfl (lv_at hl 2 rfl) ?_
                    refine kn_nm (fun z_20 hz_20 => ?_)
                    refine m_put (RS' := RS) (RN' := (va_up RN 28 z_20)) (RL' := RL) (ty := .int) hx hb hts hown hI hK hP hS 28 (by decide) rfl kX8_160 rfl (by decide +kernel) rfl rfl rfl dX8_layItem_311 (fun H locs hP hS => ?_)
                    have hE : (m_layItem RA RS RN v1) = ((RA 5), (RA 6), (RA 7), (RA 8), (RA 9), (RA 10), (RA 11), (RA 12), (RA 13), (RA 14), (RA 21), (RN 4), z_20, (RS 15), (RS 16), (RS 17), (RS 18), (RS 19), (RS 20)) := by subst hz_20; rw [m_layItem, if_neg c_10, if_neg c_11, if_neg c_12, if_neg c_13, if_neg c_14, if_neg c_15, if_neg c_16, if_neg c_17, if_pos c_19]
                    exact W.vret hx hb hr (fun t ht hW => ⟨rfl, by rw [hE]; exact kB.of (ws := RWs cI ad (va_up (va_up (va_up (va_up (va_up (va_up (va_up (va_up (va_up (va_up (va_up RA 5 (RA 5)) 6 (RA 6)) 7 (RA 7)) 8 (RA 8)) 9 (RA 9)) 10 (RA 10)) 11 (RA 11)) 12 (RA 12)) 13 (RA 13)) 14 (RA 14)) 21 (RA 21)) (va_up (va_up (va_up (va_up (va_up (va_up RS 15 (RS 15)) 16 (RS 16)) 17 (RS 17)) 18 (RS 18)) 19 (RS 19)) 20 (RS 20)) (va_up (va_up RN 4 (RN 4)) 28 z_20) RL) (RWs_conv rfl rfl rfl rfl rfl rfl rfl rfl rfl rfl rfl rfl rfl rfl rfl rfl rfl rfl rfl rfl rfl rfl rfl rfl rfl rfl rfl rfl rfl rfl rfl rfl rfl rfl rfl rfl rfl rfl rfl rfl rfl hP) hK hN ht hW, hS.F ht⟩) hS.2.2 dX8_layItem_314 hlocks
                  · refine kd_table (tgt := 343) (lo := 98) (hi := 115) hx hb dX8_layItem_34 (fun q h1 h2 hq => by
                      have n98 : (RA 2 v1).toInt ≠ 98 := fun q => by first | exact absurd (Int32.toInt_inj.mp (q.trans (show (98 : Int) = (98 : Int32).toInt by decide))) (by assumption)
                      have n99 : (RA 2 v1).toInt ≠ 99 := fun q => by first | exact absurd (Int32.toInt_inj.mp (q.trans (show (99 : Int) = (99 : Int32).toInt by decide))) (by assumption)
                      have n103 : (RA 2 v1).toInt ≠ 103 := fun q => by first | exact absurd (Int32.toInt_inj.mp (q.trans (show (103 : Int) = (103 : Int32).toInt by decide))) (by assumption)
                      have n104 : (RA 2 v1).toInt ≠ 104 := fun q => by first | exact absurd (Int32.toInt_inj.mp (q.trans (show (104 : Int) = (104 : Int32).toInt by decide))) (by assumption)
                      have n107 : (RA 2 v1).toInt ≠ 107 := fun q => by first | exact absurd (Int32.toInt_inj.mp (q.trans (show (107 : Int) = (107 : Int32).toInt by decide))) (by assumption)
                      have n111 : (RA 2 v1).toInt ≠ 111 := fun q => by first | exact absurd (Int32.toInt_inj.mp (q.trans (show (111 : Int) = (111 : Int32).toInt by decide))) (by assumption)
                      have n112 : (RA 2 v1).toInt ≠ 112 := fun q => by first | exact absurd (Int32.toInt_inj.mp (q.trans (show (112 : Int) = (112 : Int32).toInt by decide))) (by assumption)
                      have n114 : (RA 2 v1).toInt ≠ 114 := fun q => by first | exact absurd (Int32.toInt_inj.mp (q.trans (show (114 : Int) = (114 : Int32).toInt by decide))) (by assumption)
                      have n115 : (RA 2 v1).toInt ≠ 115 := fun q => by first | exact absurd (Int32.toInt_inj.mp (q.trans (show (115 : Int) = (115 : Int32).toInt by decide))) (by assumption)
                      rcases (show q = 100 ∨ q = 101 ∨ q = 102 ∨ q = 105 ∨ q = 106 ∨ q = 108 ∨ q = 109 ∨ q = 110 ∨ q = 113 by omega) with rfl | rfl | rfl | rfl | rfl | rfl | rfl | rfl | rfl <;> rfl) (by decide) ?_
                    refine lv_aload_n hx hb dX8_layItem_343 rfl (lv_at hl 3 rfl) ?_
                    refine lv_iload_n hx hb dX8_layItem_344 rfl (lv_at hl 2 rfl) ?_
                    refine m_put (RS' := (va_up RS 20 (RA 2 (v1 + 1)))) (RN' := RN) (RL' := RL) (ty := .int) hx hb hts hown hI hK hP hS 20 (by decide) rfl kX8_157 rfl (by decide +kernel) rfl rfl rfl dX8_layItem_345 (fun H locs hP hS => ?_)
                    have hE : (m_layItem RA RS RN v1) = ((RA 5), (RA 6), (RA 7), (RA 8), (RA 9), (RA 10), (RA 11), (RA 12), (RA 13), (RA 14), (RA 21), (RN 4), (RN 28), (RS 15), (RS 16), (RS 17), (RS 18), (RS 19), (RA 2 (v1 + 1))) := by rw [m_layItem, if_neg c_10, if_neg c_11, if_neg c_12, if_neg c_13, if_neg c_14, if_neg c_15, if_neg c_16, if_neg c_17, if_neg c_19]
                    exact W.vret hx hb hr (fun t ht hW => ⟨rfl, by rw [hE]; exact kB.of (ws := RWs cI ad (va_up (va_up (va_up (va_up (va_up (va_up (va_up (va_up (va_up (va_up (va_up RA 5 (RA 5)) 6 (RA 6)) 7 (RA 7)) 8 (RA 8)) 9 (RA 9)) 10 (RA 10)) 11 (RA 11)) 12 (RA 12)) 13 (RA 13)) 14 (RA 14)) 21 (RA 21)) (va_up (va_up (va_up (va_up (va_up (va_up RS 15 (RS 15)) 16 (RS 16)) 17 (RS 17)) 18 (RS 18)) 19 (RS 19)) 20 (RA 2 (v1 + 1))) (va_up (va_up RN 4 (RN 4)) 28 (RN 28)) RL) (RWs_conv rfl rfl rfl rfl rfl rfl rfl rfl rfl rfl rfl rfl rfl rfl rfl rfl rfl rfl rfl rfl rfl rfl rfl rfl rfl rfl rfl rfl rfl rfl rfl rfl rfl rfl rfl rfl rfl rfl rfl rfl rfl hP) hK hN ht hW, hS.F ht⟩) hS.2.2 dX8_layItem_348 hlocks

end REF
