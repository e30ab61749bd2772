/-! over: the class's branches and the reference's rows make one sum -/
section SOVER3
variable {PL : Nat → Nat → Nat → Int32} {PS : Nat → Nat → Int32} {RA : Nat → Nat → Int32} {RS : Nat → Int32} {RN : Nat → Nat} {r : Int32}
/-- the reference's tree -/
def oT (RA : Nat → Nat → Int32) (RS : Nat → Int32) (RN : Nat → Nat) (r : Int32) : Nat → Nat → (Nat → Int32) → (Nat → Int32) → (Nat → Int32) → Int64
  | 0, _, a, b, c => m_lost (nR RA a b c) RS RN
  | h + 1, s, a, b, c => oS (fun k => (RA 14 (3 * s + k)).toInt64 * oT RA RS RN r h k (m_goHour (nR RA a b c) RS RN r k (RS 15) (-4)).1 (m_goHour (nR RA a b c) RS RN r k (RS 15) (-4)).2.1 (m_goHour (nR RA a b c) RS RN r k (RS 15) (-4)).2.2) 3 0
theorem lo_2 (F : (Nat → Nat → Nat → Int32) → (Nat → Nat → Int32) → Int32 → Int32 → Int64 × (Nat → Nat → Nat → Int32) × (Nat → Nat → Int32)) (vn wn : Nat) (v1 v2 : Int32) (n i : Nat) (acc : Int64) (VLw : Nat → Nat → Nat → Int32) (VSw : Nat → Nat → Int32) :
    o_lossOverAll_L24 F vn wn PL PS v1 v2 (n + 1) i acc VLw VSw = if (p_tenthsOfNext (PL 0) (VSw vn 11) (nI i)) ≤ 0 then o_lossOverAll_L24 F vn wn PL PS v1 v2 n (i + 1) acc VLw VSw else
      o_lossOverAll_L24 F vn wn PL PS v1 v2 n (i + 1) (acc + (((p_tenthsOfNext (PL 0) (VSw vn 11) (nI i)).toInt64) * ((F (va_up VLw wn (gL (VLw wn) (VLw vn) (VSw wn) (VSw vn) (PL 0) (PS 0) v1 (nI i) (PS 0 14))) (va_up VSw wn (gS (VLw wn) (VLw vn) (VSw wn) (VSw vn) (PL 0) (PS 0) v1 (nI i) (PS 0 14))) v1 (v2 - 1)).1)))
        ((F (va_up VLw wn (gL (VLw wn) (VLw vn) (VSw wn) (VSw vn) (PL 0) (PS 0) v1 (nI i) (PS 0 14))) (va_up VSw wn (gS (VLw wn) (VLw vn) (VSw wn) (VSw vn) (PL 0) (PS 0) v1 (nI i) (PS 0 14))) v1 (v2 - 1)).2.1)
        ((F (va_up VLw wn (gL (VLw wn) (VLw vn) (VSw wn) (VSw vn) (PL 0) (PS 0) v1 (nI i) (PS 0 14))) (va_up VSw wn (gS (VLw wn) (VLw vn) (VSw wn) (VSw vn) (PL 0) (PS 0) v1 (nI i) (PS 0 14))) v1 (v2 - 1)).2.2) :=
  o_lossOverAll_L24.eq_2 ..
theorem lo_T (hC : mC RA RS RN) (e26 : RS 26 = RS 38) (hd : (RS 15).toNatClampNeg ≤ 100) (ht : r = 3 → RN 29 < 2 * RN 4) : ∀ (k v h s : Nat) (VL : Nat → Nat → Nat → Int32) (VS : Nat → Nat → Int32) (a b c : Nat → Int32), h ≤ k → s < 3 → h ≤ 5 → sF (VL v) (VS v) (PL 0) (PS 0) (nR RA a b c) RS RN → VS v 11 = nI s → VS v 12 = nI (RN 29) →
    (o_loR PL PS k v VL VS r (nI h)).1 = oT RA RS RN r h s a b c := by
  intro k
  induction k with
  | zero =>
    intro v h s VL VS a b c hk hs _ hF h11 h12
    obtain rfl : h = 0 := by omega
    exact lo_eq hF (mC_of hC rfl rfl rfl rfl rfl rfl) e26
  | succ k ih =>
    intro v h s VL VS a b c hk hs h5 hF h11 h12
    show (o_lossOverAll (o_loR PL PS k (v + 1)) v (v + 1) VL VS PL PS r (nI h)).1 = _
    unfold o_lossOverAll o_lossOverAll_k24
    cases h with
    | zero =>
      rw [if_pos (show nI 0 ≤ 0 by decide)]
      exact lo_eq hF (mC_of hC rfl rfl rfl rfl rfl rfl) e26
    | succ h =>
      rw [if_neg (show ¬ nI (h + 1) ≤ 0 by rw [ti_le, nI_toInt (by omega), ti_0]; omega)]
      have e1 : nI (h + 1) - 1 = nI h := by rw [← nI_1, Int32.add_sub_cancel]
      have hT := hF.1.P
      have L : ∀ (n i : Nat) (acc : Int64) (VLw : Nat → Nat → Nat → Int32) (VSw : Nat → Nat → Int32), i + n = 3 → VLw v = VL v → VSw v = VS v →
          (o_lossOverAll_L24 (o_loR PL PS k (v + 1)) v (v + 1) PL PS r (nI (h + 1)) n i acc VLw VSw).1 = acc + oS (fun k => (RA 14 (3 * s + k)).toInt64 * oT RA RS RN r h k (m_goHour (nR RA a b c) RS RN r k (RS 15) (-4)).1 (m_goHour (nR RA a b c) RS RN r k (RS 15) (-4)).2.1 (m_goHour (nR RA a b c) RS RN r k (RS 15) (-4)).2.2) n i := by
        intro n
        induction n with
        | zero => intro i acc VLw VSw _ _ _; rw [o_lossOverAll_L24.eq_1]; exact (Int64.add_zero acc).symm
        | succ n ihn =>
          intro i acc VLw VSw hin e2 e3
          have hb : 0 ≤ (RA 14 (3 * s + i)).toInt ∧ (RA 14 (3 * s + i)).toInt ≤ 10 := hF.1.b.2.2.2.1 _ (by omega)
          have et : p_tenthsOfNext (PL 0) (VSw v 11) (nI i) = RA 14 (3 * s + i) := by
            unfold p_tenthsOfNext
            rw [e3, h11, nx3, rg_in (by omega) (by omega)]
            exact hT.2.2.2.2.1 _ (by omega)
          rw [lo_2, et]
          show _ = acc + (_ + _)
          dsimp only
          by_cases c0 : RA 14 (3 * s + i) ≤ 0
          · rw [if_pos c0, ihn (i + 1) _ _ _ (by omega) e2 e3]
            rw [ti_le, ti_0] at c0
            have z : RA 14 (3 * s + i) = 0 := Int32.toInt_inj.mp (by rw [ti_0]; omega)
            rw [z, show (0 : Int32).toInt64 = 0 from rfl, Int64.zero_mul, Int64.zero_add]
          · rw [if_neg c0, e2, e3, e1]
            have g := hF.gone (w := VLw (v + 1)) (ws := VSw (v + 1)) (k := i) (by omega) r (fun q => ⟨h12, ht q⟩) (hands := PS 0 14) (by rw [hT.2.2.2.2.2.1.1]; exact hd)
            obtain ⟨g1, g2, g3, g4⟩ := g
            obtain ⟨X, hX⟩ : ∃ X, X = gL (VLw (v + 1)) (VL v) (VSw (v + 1)) (VS v) (PL 0) (PS 0) r (nI i) (PS 0 14) := ⟨_, rfl⟩
            obtain ⟨Y, hY⟩ : ∃ X, X = gS (VLw (v + 1)) (VL v) (VSw (v + 1)) (VS v) (PL 0) (PS 0) r (nI i) (PS 0 14) := ⟨_, rfl⟩
            rw [← hX, ← hY] at g1
            rw [← hY] at g3 g4
            rw [← hX, ← hY]
            have e5 : PS 0 14 = RS 15 := hT.2.2.2.2.2.1.1
            rw [e5] at g1
            have kk := loR_keep (PL := PL) (PS := PS) k (v + 1) (va_up VLw (v + 1) X) (va_up VSw (v + 1) Y) r (nI h) v (by omega)
            rw [ihn (i + 1) _ _ _ (by omega) (kk.1.trans ((va_up_ne _ _ (by omega)).trans e2)) (kk.2.trans ((va_up_ne _ _ (by omega)).trans e3))]
            have z := ih (v + 1) h i (va_up VLw (v + 1) X) (va_up VSw (v + 1) Y) (m_goHour (nR RA a b c) RS RN r i (RS 15) (-4)).1 (m_goHour (nR RA a b c) RS RN r i (RS 15) (-4)).2.1 (m_goHour (nR RA a b c) RS RN r i (RS 15) (-4)).2.2 (by omega) (by omega) (by omega) (by rw [va_up_self, va_up_self, ← nR_nR]; exact g1) (by rw [va_up_self]; exact g3) (by rw [va_up_self]; exact g4.trans h12)
            rw [z, Int64.add_assoc]
      rw [L 3 0 0 VL VS (by omega) rfl rfl, Int64.zero_add]
      rfl
end SOVER3
