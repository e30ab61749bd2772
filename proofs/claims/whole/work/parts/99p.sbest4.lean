/-! best: both walks end alike -/
section SBEST4
variable {PL : Nat → Nat → Nat → Int32} {PS : Nat → Nat → Int32} {RA : Nat → Nat → Int32} {RS : Nat → Int32} {RN : Nat → Nat}
theorem relB.up {N : Nat} {z : Int64 × Int32} {LL : Int64} {sp sp' : Nat → Int32} (h : relB N z LL sp) (e : sp' = sp) : relB N z LL sp' := by rw [e]; exact h
theorem ok_st {vs ps : Nat → Int32} {vl pl : Nat → Nat → Int32} {a b d : Nat → Int32} (hF : sF vl vs pl ps (nR RA a b d) RS RN) (e26 : RS 26 = RS 38) {i : Nat} (hi : i < 17) : okS RS RN i = true ↔ (nI i = 16 ∨ ¬ v_stands vs ps (nI (i / 2)) = 0) := by
  have h8 := hF.1.many
  have hz : zB (vs 8) (RN 4) := by rw [hF.1.v8]; exact hF.1.W.2.2
  have e1 : v_stands vs ps (nI (i / 2)) = m_has (RS 26) (nI (i / 2)) := by rw [st_eq hF.1.P.1 h8 hz (by omega), hF.1.v8, e26]
  have e2 : nI i = 16 ↔ i = 16 := nI_eq (a := i) (b := 16) (by omega) (by omega)
  rw [e1, e2]
  rw [okS_i]
  constructor
  · intro h; rcases h with h | h
    · exact Or.inl h
    · exact Or.inr h.2
  · intro h; rcases h with h | h
    · exact Or.inl h
    · refine Or.inr ⟨?_, h⟩
      intro q
      rw [ti_le, nI_toInt (by omega), nI_toInt (by omega)] at q
      have hb : bt (RS 26) (i / 2) = false := by
        rw [e26]; exact hF.1.W.2.2 _ (by omega) (by omega)
      exact h ((bt_has0 _ (by omega)).mpr hb)
theorem go_B (hM : mI RA RS RN) (hB : rB RA RS RN) (hC : mC RA RS RN) (e26 : RS 26 = RS 38) (hd : (RS 15).toNatClampNeg ≤ 100) (N : Nat) (hN : N ≤ 3) (hNr : N ≤ RN 32) : ∀ (k v n c q : Nat) (z : Int64 × Int32) (ML : Nat → Nat → Int32) (VL : Nat → Nat → Nat → Int32) (VS : Nat → Nat → Int32) (LL : Int64) (a b d : Nat → Int32), n < k → c + (n + 1) = N → sF (VL v) (VS v) (PL 0) (PS 0) (nR RA a b d) RS RN → (∀ j, j < RN 32 → ML 2 j = RA 31 j) → preQ c q (ML 3) → relB N z LL (ML 4) →
    relB N (bF RA RS RN (n + 1) c q a b d z) (s_goR PL PS k v ML VL VS LL (nI c) (nI N)).1 ((s_goR PL PS k v ML VL VS LL (nI c) (nI N)).2.1 4) ∧ preQ c q ((s_goR PL PS k v ML VL VS LL (nI c) (nI N)).2.1 3) := by
  have h12 := mI_rowMany hM
  intro k
  induction k with
  | zero => intro v n c q z ML VL VS LL a b d h; omega
  | succ k ih =>
    intro v n c q z ML VL VS LL a b d hk hcn hF hsk hpre hrel
    have e : s_goR PL PS (k + 1) v ML VL VS LL (nI c) (nI N) = s_goOn (s_goR PL PS k (v + 1)) v (v + 1) ML VL VS PL PS LL (nI c) (nI N) := rfl
    rw [e]
    unfold s_goOn s_goOn_k20
    rw [if_pos (show nI c < nI N by rw [ti_lt, nI_toInt (by omega), nI_toInt (by omega)]; omega)]
    have hh : PS 0 14 = RS 15 := hF.1.P.2.2.2.2.2.1.1
    have L : ∀ (m i : Nat) (z : Int64 × Int32) (LL : Int64) (ML : Nat → Nat → Int32) (VLw : Nat → Nat → Nat → Int32) (VSw : Nat → Nat → Int32), i + m = 17 → VLw v = VL v → VSw v = VS v → (∀ j, j < RN 32 → ML 2 j = RA 31 j) → preQ c q (ML 3) → relB N z LL (ML 4) →
        relB N (oF (fun k z => if okS RS RN k then bF RA RS RN n (c + 1) (17 * q + k) (m_goHour (nR RA a b d) RS RN 0 ((RA 31 c).toNatClampNeg) (RS 15) (nI k)).1 (m_goHour (nR RA a b d) RS RN 0 ((RA 31 c).toNatClampNeg) (RS 15) (nI k)).2.1 (m_goHour (nR RA a b d) RS RN 0 ((RA 31 c).toNatClampNeg) (RS 15) (nI k)).2.2 z else z) m i z) (s_goOn_L20 (s_goR PL PS k (v + 1)) v (v + 1) PL PS (nI c) (nI N) m i LL ML VLw VSw).1 ((s_goOn_L20 (s_goR PL PS k (v + 1)) v (v + 1) PL PS (nI c) (nI N) m i LL ML VLw VSw).2.1 4) ∧ preQ c q ((s_goOn_L20 (s_goR PL PS k (v + 1)) v (v + 1) PL PS (nI c) (nI N) m i LL ML VLw VSw).2.1 3) := by
      intro m
      induction m with
      | zero => intro i z LL ML VLw VSw _ _ _ _ hp hr; rw [s_goOn_L20.eq_1]; exact ⟨hr, hp⟩
      | succ m im =>
        intro i z LL ML VLw VSw him e2 e3 hs hp hr
        have hok := ok_st hF e26 (i := i) (by omega)
        show relB N (oF _ m (i + 1) (if okS RS RN i then _ else z)) _ _ ∧ _
        obtain ⟨X, hX⟩ : ∃ X, X = aL (VLw (v + 1)) (VLw v) (VSw (v + 1)) (VSw v) (PL 0) (PS 0) (nI i) (rg 12 (ML 2) (nI c)) (PS 0 14) := ⟨_, rfl⟩
        obtain ⟨Y, hY⟩ : ∃ X, X = aS (VLw (v + 1)) (VLw v) (VSw (v + 1)) (VSw v) (PL 0) (PS 0) (nI i) (rg 12 (ML 2) (nI c)) (PS 0 14) := ⟨_, rfl⟩
        obtain ⟨B, hB9⟩ : ∃ B, B = goB (s_goR PL PS k (v + 1)) (v + 1) PL PS (nI c) (nI N) i X Y LL ML VLw VSw := ⟨_, rfl⟩
        rw [go_2 _ v (v + 1) _ _ m i LL ML VLw VSw X Y hX hY B hB9]
        by_cases c1 : okS RS RN i = true
        · rw [if_pos c1]
          have fin : relB N (bF RA RS RN n (c + 1) (17 * q + i) (m_goHour (nR RA a b d) RS RN 0 ((RA 31 c).toNatClampNeg) (RS 15) (nI i)).1 (m_goHour (nR RA a b d) RS RN 0 ((RA 31 c).toNatClampNeg) (RS 15) (nI i)).2.1 (m_goHour (nR RA a b d) RS RN 0 ((RA 31 c).toNatClampNeg) (RS 15) (nI i)).2.2 z) B.1 (B.2.1 4) ∧ preQ c q (B.2.1 3) ∧ (B.2.2.1 v = VL v ∧ B.2.2.2 v = VS v) ∧ ∀ j, j < RN 32 → B.2.1 2 j = RA 31 j := by
            have hr2 := okS_rng (RA := RA) (RS := RS) hM c1 (by omega)
            have sk := mI_row hM c (by omega)
            have ek : rg 12 (ML 2) (nI c) = nI (RA 31 c).toNatClampNeg := by rw [rg_in (by omega) (by omega), hs c (by omega)]; exact kNat (mI_row0 hM c (by omega))
            rw [ek, e2, e3, hh] at hX hY
            have g := hF.aGone (w := VLw (v + 1)) (ws := VSw (v + 1)) sk 0 hr2 (hands := RS 15) hd
            rw [← hX, ← hY, nR_nR] at g
            obtain ⟨a', ha⟩ : ∃ x, x = (m_goHour (nR RA a b d) RS RN 0 ((RA 31 c).toNatClampNeg) (RS 15) (nI i)).1 := ⟨_, rfl⟩
            obtain ⟨b', hb⟩ : ∃ x, x = (m_goHour (nR RA a b d) RS RN 0 ((RA 31 c).toNatClampNeg) (RS 15) (nI i)).2.1 := ⟨_, rfl⟩
            obtain ⟨d', hd'⟩ : ∃ x, x = (m_goHour (nR RA a b d) RS RN 0 ((RA 31 c).toNatClampNeg) (RS 15) (nI i)).2.2 := ⟨_, rfl⟩
            rw [← ha, ← hb, ← hd'] at g ⊢
            have hC' : mC (nR RA a' b' d') RS RN := mC_of hC rfl rfl rfl rfl rfl rfl
            have hlo := lo_eq g hC' e26
            have hbd := (lost_mono (RA := nR RA a' b' d') (RA' := nR RA a' b' d') hM hB hC' rfl rfl rfl rfl rfl rfl (fun j _ => Int.le_refl _)).2.2
            have erng : rs 3 (ML 3) (nI c) (nI i) = upd (ML 3) c (nI i) := by rw [rs_in (by omega) (by omega)]
            have p3 : ∀ j, j < c → upd (ML 3) c (nI i) j = ML 3 j := fun j hj => pk_un (by omega)
            have pq : preQ c q (upd (ML 3) c (nI i)) := ⟨hp.1, fun j hj => by rw [p3 j hj]; exact hp.2 j hj⟩
            have pn : preQ (c + 1) (17 * q + i) (upd (ML 3) c (nI i)) := hp.step (by omega) p3 pk_us
            have hcm := hr.cmp hbd
            unfold goB at hB9
            rw [hlo, erng] at hB9
            by_cases t1 : 0 ≤ lg_cmp (m_lost (nR RA a' b' d') RS RN) LL
            · rw [if_pos t1] at hB9
              rw [hB9, bF_cut hM hB hC n (c + 1) _ a' b' d' z (hcm.mp t1)]
              exact ⟨hr, pq, ⟨(va_up_ne _ _ (by omega)).trans e2, (va_up_ne _ _ (by omega)).trans e3⟩, hs⟩
            · rw [if_neg t1] at hB9
              have t1' : ¬ 0 ≤ lg_cmp (m_lost (nR RA a' b' d') RS RN) z.1 := by rw [lgc]; exact fun q => t1 (hcm.mpr q)
              by_cases t2 : nI N ≤ nI c + 1
              · rw [if_pos t2] at hB9
                rw [nI_1, ti_le, nI_toInt (by omega), nI_toInt (by omega)] at t2
                obtain rfl : n = 0 := by omega
                obtain rfl : N = c + 1 := by omega
                rw [hB9]
                unfold bF
                rw [if_neg t1']
                refine ⟨Or.inr ⟨rfl, hbd, 17 * q + i, rfl, ?_⟩, pq, ⟨(va_up_ne _ _ (by omega)).trans e2, (va_up_ne _ _ (by omega)).trans e3⟩, hs⟩
                refine ⟨pn.1, fun j hj => ?_⟩
                rw [← pn.2 j hj]
                exact rc_in (n := min 3 3) (by omega)
              · rw [if_neg t2] at hB9
                rw [nI_1, ti_le, nI_toInt (by omega), nI_toInt (by omega)] at t2
                rw [nI_1] at hB9
                obtain ⟨n', rfl⟩ : ∃ n', n = n' + 1 := ⟨n - 1, by omega⟩
                have q9 := ih (v + 1) n' (c + 1) (17 * q + i) z (va_up ML 3 (upd (ML 3) c (nI i))) (va_up VLw (v + 1) X) (va_up VSw (v + 1) Y) LL a' b' d' (by omega) (by omega) (by rw [va_up_self, va_up_self]; exact g) hs pn hr
                have k9 := goR_keep (PL := PL) (PS := PS) k (v + 1) (va_up ML 3 (upd (ML 3) c (nI i))) (va_up VLw (v + 1) X) (va_up VSw (v + 1) Y) LL (nI (c + 1)) (nI N)
                rw [← hB9] at q9 k9
                refine ⟨q9.1, ⟨hp.1, fun j hj => ?_⟩, ⟨(k9.2 v (by omega)).1.trans ((va_up_ne _ _ (by omega)).trans e2), (k9.2 v (by omega)).2.trans ((va_up_ne _ _ (by omega)).trans e3)⟩, fun j hj => ?_⟩
                · rw [q9.2.2 j (by omega), show c + 1 - 1 - j = (c - 1 - j) + 1 by omega, Nat.pow_succ, Nat.mul_comm (17 ^ (c - 1 - j)), ← Nat.div_div_eq_div_mul, show (17 * q + i) / 17 = q by omega]
                · rw [k9.1.2]; exact hs j hj
          have q9 := im (i + 1) _ B.1 B.2.1 B.2.2.1 B.2.2.2 (by omega) fin.2.2.1.1 fin.2.2.1.2 fin.2.2.2 fin.2.1 fin.1
          by_cases t : nI i = 16
          · rw [if_pos t]; exact q9
          · rw [if_neg t, e3, if_neg (show ¬ v_stands (VS v) (PS 0) (nI (i / 2)) = 0 from fun q => by rcases hok.mp c1 with w | w; exact t w; exact w q)]
            exact q9
        · rw [if_neg c1]
          have t : ¬ nI i = 16 := fun q => c1 (hok.mpr (Or.inl q))
          have t2 : v_stands (VS v) (PS 0) (nI (i / 2)) = 0 := Decidable.byContradiction (fun q => c1 (hok.mpr (Or.inr q)))
          rw [if_neg t, e3, if_pos t2]
          exact im (i + 1) z LL ML VLw VSw (by omega) e2 e3 hs hp hr
    exact L 17 0 z LL ML VL VS (by omega) rfl rfl hsk hpre hrel
end SBEST4
