/-! look: the call -/
section SLOOK10
variable {ML : Nat → Nat → Int32} {MS : Nat → Int32} {PL : Nat → Nat → Nat → Int32} {PS : Nat → Nat → Int32} {VL : Nat → Nat → Nat → Int32} {VS : Nat → Nat → Int32} {RA : Nat → Nat → Int32} {RS : Nat → Int32} {RN : Nat → Nat} {RL LL : Int64}
theorem lk_2 (v : Int32) (n i : Nat) (v3 LLw : Int64) (MLw : Nat → Nat → Int32) (VLw : Nat → Nat → Nat → Int32) (VSw : Nat → Nat → Int32) (F : Int64 × (Nat → Nat → Int32) × (Nat → Nat → Nat → Int32) × (Nat → Nat → Int32)) (hF : F = s_find MLw (va_up VLw 3 (va_up (VLw 3) 2 (rs 8 (VLw 3 2) v (1 <<< ((nI i) &&& 31))))) VSw PL PS (nI 1)) :
    o_look_L84 PL PS v (n + 1) i v3 LLw MLw VLw VSw = if (v_chanceOf (VLw 0) (PL 0) v (nI i)) ≤ 0 then o_look_L84 PL PS v n (i + 1) v3 LLw MLw VLw VSw else o_look_L84 PL PS v n (i + 1) (v3 - (v_chanceOf (VLw 0) (PL 0) v (nI i)).toInt64 * F.1) F.1 F.2.1 F.2.2.1 F.2.2.2 := by
  subst hF
  exact o_look_L84.eq_2 ..
theorem lk_skip (v : Int32) : ∀ (n i : Nat) (v3 LLw : Int64) (MLw : Nat → Nat → Int32) (VLw : Nat → Nat → Nat → Int32) (VSw : Nat → Nat → Int32), (∀ k, i ≤ k → k < i + n → v_chanceOf (VLw 0) (PL 0) v (nI k) ≤ 0) → (o_look_L84 PL PS v n i v3 LLw MLw VLw VSw).1 = v3 := by
  intro n
  induction n with
  | zero => intro i v3 LLw MLw VLw VSw _; rw [o_look_L84.eq_1]
  | succ n ih =>
    intro i v3 LLw MLw VLw VSw h
    rw [lk_2 v n i v3 LLw MLw VLw VSw _ rfl, if_pos (h i (by omega) (by omega))]
    exact ih (i + 1) _ _ _ _ _ (fun k h1 h2 => h k (by omega) (by omega))
theorem lk_L (h : sX ML MS PL PS VL VS RA RS RN) {i : Nat} (hi : i < RN 4) (h1 : 1 ≤ RN 32) : ∀ (n k r : Nat) (v3 LLw : Int64) (MLw : Nat → Nat → Int32) (VLw : Nat → Nat → Nat → Int32) (VSw : Nat → Nat → Int32) (a22 a b d S : Nat → Int32) (ll : Int64) (s : Int32), k + n = (RA 12 i).toNatClampNeg → k + n + r = 4 → VLw 0 = VL 0 → VLw 3 = va_up (nS (VL 3) (VL 0) (VS 0)) 2 S → VSw 3 = nT (VL 3) (VL 0) (VS 0) (VS 3) → MLw 2 = ML 2 → (∀ j, j ≠ i → a22 j = RA 22 j) → (∀ j, j < RN 4 → j ≠ i → S j = RA 22 j) →
    (o_look_L84 PL PS (nI i) (n + r) k v3 LLw MLw VLw VSw).1 = (m_look_L65 RA RS RN i (RA 22 i) n k v3 a22 a b d ll s).1 := by
  have h8 := h.D.many
  have hb := mI_bm h.D.M i (by omega)
  intro n
  induction n with
  | zero =>
    intro k r v3 LLw MLw VLw VSw a22 a b d S ll s hk hr e0 e3 eS e2 ha hS
    rw [m_look_L65.eq_1, Nat.zero_add, lk_skip]
    intro j h3 h4
    rw [e0, co_eq h.D.P h.D.M h.D.z hi (h.D.e2 i hi) (k := j) (by omega), if_neg (by rw [h.D.z i hi j (by omega) (by omega)]; decide)]
    decide
  | succ n ih =>
    intro k r v3 LLw MLw VLw VSw a22 a b d S ll s hk hr e0 e3 eS e2 ha hS
    have ec : v_chanceOf (VLw 0) (PL 0) (nI i) (nI k) = if bt (RA 22 i) k = true then RA 11 (4 * i + k) else 0 := by rw [e0]; exact co_eq h.D.P h.D.M h.D.z hi (h.D.e2 i hi) (by omega)
    rw [show n + 1 + r = (n + r) + 1 by omega]
    obtain ⟨F, hF⟩ : ∃ F, F = s_find MLw (va_up VLw 3 (va_up (VLw 3) 2 (rs 8 (VLw 3 2) (nI i) (1 <<< ((nI k) &&& 31))))) VSw PL PS (nI 1) := ⟨_, rfl⟩
    rw [lk_2 (nI i) (n + r) k v3 LLw MLw VLw VSw F hF, m_look_L65.eq_2, ec]
    by_cases c1 : bt (RA 22 i) k = true
    · rw [if_neg (show ¬ m_has (RA 22 i) (nI k) = 0 from fun q => by rw [bt_has0 _ (by omega), c1] at q; cases q), if_pos c1]
      by_cases c2 : RA 11 (4 * i + k) ≤ 0
      · rw [if_pos c2, if_pos c2]
        exact ih (k + 1) r v3 LLw MLw VLw VSw a22 a b d S ll s (by omega) (by omega) e0 e3 eS e2 ha hS
      · rw [if_neg c2, if_neg c2]
        have eS2 : va_up (VLw 3) 2 (rs 8 (VLw 3 2) (nI i) (1 <<< ((nI k) &&& 31))) = va_up (nS (VL 3) (VL 0) (VS 0)) 2 (upd S i (1 <<< ((nI k) &&& 31))) := by
          rw [e3, va_uu, va_up_self, rs_in (by omega) (by omega)]
        rw [eS2] at hF
        have hg : upd a22 i (1 <<< ((nI k) &&& 31)) i = 1 <<< ((nI k) &&& 31) := pk_us
        have ho : ∀ j, j ≠ i → upd a22 i (1 <<< ((nI k) &&& 31)) j = RA 22 j := fun j hj => by rw [pk_un hj]; exact ha j hj
        have hSS : ∀ j, j < RN 4 → upd S i (1 <<< ((nI k) &&& 31)) j = upd a22 i (1 <<< ((nI k) &&& 31)) j := fun j hj => by
          by_cases z : j = i
          · subst z; rw [pk_us, pk_us]
          · rw [pk_un z, pk_un z, ha j z]; exact hS j hj z
        have hl := ld_known h.D hi (by omega) hg ho c2 hSS a b d s (VL 3) (VS 3)
        have hC := mC_known h.D.M h.D.C hi (k := k) (by omega) hg ho c2 a b d s
        have q := find_eq (ML := MLw) (VL := va_up VLw 3 (va_up (nS (VL 3) (VL 0) (VS 0)) 2 (upd S i (1 <<< ((nI k) &&& 31))))) (VS := VSw) (PL := PL) (PS := PS) (RA := nR (va_up RA 22 (upd a22 i (1 <<< ((nI k) &&& 31)))) a b d) (RS := va_up RS 38 s) (RN := RN) (by rw [va_up_self, eS]; exact hl) h.D.M h.D.b hC (fun j hj => by rw [e2]; exact h.skies.2 j hj) 1 (by omega) (by omega) h1
        have fk := find_keep (PL := PL) (PS := PS) MLw (va_up VLw 3 (va_up (nS (VL 3) (VL 0) (VS 0)) 2 (upd S i (1 <<< ((nI k) &&& 31))))) VSw (nI 1)
        rw [← hF] at q fk
        have z := ih (k + 1) r (v3 - (RA 11 (4 * i + k)).toInt64 * F.1) F.1 F.2.1 F.2.2.1 F.2.2.2 (upd a22 i (1 <<< ((nI k) &&& 31))) (m_bestRow (nR (va_up RA 22 (upd a22 i (1 <<< ((nI k) &&& 31)))) a b d) (va_up RS 38 s) RN 1).2.1 (m_bestRow (nR (va_up RA 22 (upd a22 i (1 <<< ((nI k) &&& 31)))) a b d) (va_up RS 38 s) RN 1).2.2.1 (m_bestRow (nR (va_up RA 22 (upd a22 i (1 <<< ((nI k) &&& 31)))) a b d) (va_up RS 38 s) RN 1).2.2.2.1 (upd S i (1 <<< ((nI k) &&& 31))) (m_bestRow (nR (va_up RA 22 (upd a22 i (1 <<< ((nI k) &&& 31)))) a b d) (va_up RS 38 s) RN 1).2.2.2.2.1 (m_bestRow (nR (va_up RA 22 (upd a22 i (1 <<< ((nI k) &&& 31)))) a b d) (va_up RS 38 s) RN 1).2.2.2.2.2 (by omega) (by omega) ((fk.2 0 (by omega)).1.trans ((va_up_ne _ _ (by omega)).trans e0)) ((fk.2 3 (by omega)).1.trans (va_up_self _ _ _)) ((fk.2 3 (by omega)).2.trans eS) (fk.1.2.trans e2) ho (fun j h3 h4 => by rw [pk_un h4]; exact hS j h3 h4)
        rw [z, q.1]
        rfl
    · have c1' : bt (RA 22 i) k = false := by cases h9 : bt (RA 22 i) k <;> first | rfl | exact absurd h9 c1
      rw [if_pos ((bt_has0 _ (by omega)).mpr c1'), if_neg c1, if_pos (by decide)]
      exact ih (k + 1) r v3 LLw MLw VLw VSw a22 a b d S ll s (by omega) (by omega) e0 e3 eS e2 ha hS
theorem sim_look (h : sX ML MS PL PS VL VS RA RS RN) (v : Int32) : (o_look ML MS VL VS PL PS LL v).1 = (m_look RA RS RN RL v).1 := by
  have hr := roof_eq (PS := PS) h.D.P.1 h.D.many v
  have h8 := h.D.many
  have h12 := mI_rowMany h.D.M
  unfold o_look m_look
  by_cases c : m_isRoof RN v = 0
  · rw [if_pos (hr.1.mpr c), if_pos c]
  · obtain ⟨i, hi, rfl⟩ := hr.2 c
    rw [if_neg (show ¬ o_isRoof PS (nI i) = 0 from fun q => c (hr.1.mp q)), if_neg c, nI_clamp (by omega), h.D.stands (by omega)]
    by_cases c2 : m_has (RS 26) (nI i) = 0
    · rw [if_pos c2, if_pos c2]
    · rw [if_neg c2, if_neg c2, h.skies.1]
      by_cases c3 : nI (RN 32) = 0
      · rw [if_pos c3, if_pos c3]
      · rw [if_neg c3, if_neg c3]
        have h1 : 1 ≤ RN 32 := by
          rcases Nat.eq_zero_or_pos (RN 32) with q | q
          · exact absurd (by rw [q]; rfl) c3
          · exact q
        have ech : v_chances (VL 0) (PL 0) (nI i) = m_chances RA i := ch_eq h.D.P h.D.M h.D.z hi (h.D.e2 i hi)
        rw [ech, if_neg (h.D.C i hi c2)]
        have q := find_eq (ML := ML) (VL := va_up VL 3 (nS (VL 3) (VL 0) (VS 0))) (VS := va_up VS 3 (nT (VL 3) (VL 0) (VS 0) (VS 3))) (PL := PL) (PS := PS) h.ld h.D.M h.D.b h.D.C h.skies.2 1 (by omega) (by omega) h1
        have fk := find_keep (PL := PL) (PS := PS) ML (va_up VL 3 (nS (VL 3) (VL 0) (VS 0))) (va_up VS 3 (nT (VL 3) (VL 0) (VS 0) (VS 3))) (nI 1)
        have e3 : (s_find ML (va_up VL 3 (nS (VL 3) (VL 0) (VS 0))) (va_up VS 3 (nT (VL 3) (VL 0) (VS 0) (VS 3))) PL PS (nI 1)).2.2.1 3 = va_up (nS (VL 3) (VL 0) (VS 0)) 2 (nS (VL 3) (VL 0) (VS 0) 2) := by
          rw [(fk.2 3 (by omega)).1, va_up_self, va_eta]
        have hb := mI_bm h.D.M i (by omega)
        have z := lk_L h hi h1 (RA 12 i).toNatClampNeg 0 (4 - (RA 12 i).toNatClampNeg) ((m_chances RA i).toInt64 * (s_find ML (va_up VL 3 (nS (VL 3) (VL 0) (VS 0))) (va_up VS 3 (nT (VL 3) (VL 0) (VS 0) (VS 3))) PL PS (nI 1)).1) (s_find ML (va_up VL 3 (nS (VL 3) (VL 0) (VS 0))) (va_up VS 3 (nT (VL 3) (VL 0) (VS 0) (VS 3))) PL PS (nI 1)).1 (s_find ML (va_up VL 3 (nS (VL 3) (VL 0) (VS 0))) (va_up VS 3 (nT (VL 3) (VL 0) (VS 0) (VS 3))) PL PS (nI 1)).2.1 (s_find ML (va_up VL 3 (nS (VL 3) (VL 0) (VS 0))) (va_up VS 3 (nT (VL 3) (VL 0) (VS 0) (VS 3))) PL PS (nI 1)).2.2.1 (s_find ML (va_up VL 3 (nS (VL 3) (VL 0) (VS 0))) (va_up VS 3 (nT (VL 3) (VL 0) (VS 0) (VS 3))) PL PS (nI 1)).2.2.2
          (RA 22) (m_bestRow RA RS RN 1).2.1 (m_bestRow RA RS RN 1).2.2.1 (m_bestRow RA RS RN 1).2.2.2.1 (nS (VL 3) (VL 0) (VS 0) 2) (m_bestRow RA RS RN 1).2.2.2.2.1 (m_bestRow RA RS RN 1).2.2.2.2.2 (by omega) (by omega) ((fk.2 0 (by omega)).1.trans (va_up_ne _ _ (by omega))) e3 ((fk.2 3 (by omega)).2.trans (va_up_self _ _ _)) fk.1.2 (fun _ _ => rfl) (fun j h3 _ => (rc_in (n := min 8 8) (by omega)).trans (h.D.e2 j h3))
        rw [show (RA 12 i).toNatClampNeg + (4 - (RA 12 i).toNatClampNeg) = 4 by omega, q.1] at z
        have eq2 : m_chances (va_up (va_up (va_up RA 36 (m_bestRow RA RS RN 1).2.1) 37 (m_bestRow RA RS RN 1).2.2.1) 39 (m_bestRow RA RS RN 1).2.2.2.1) i = m_chances RA i := by unfold m_chances; exact m_below_congr (RA := RA) (RA' := va_up (va_up (va_up RA 36 (m_bestRow RA RS RN 1).2.1) 37 (m_bestRow RA RS RN 1).2.2.1) 39 (m_bestRow RA RS RN 1).2.2.2.1) rfl rfl rfl rfl i _
        rw [eq2]
        unfold o_look_k84 m_look_k65
        rw [Int64.mul_comm (m_bestRow RA RS RN 1).2.2.2.2.1, ← z]
        show (o_look_L84 PL PS (nI i) 4 0 ((m_chances RA i).toInt64 * (s_find ML (va_up VL 3 (nS (VL 3) (VL 0) (VS 0))) (va_up VS 3 (nT (VL 3) (VL 0) (VS 0) (VS 3))) PL PS (nI 1)).1) (s_find ML (va_up VL 3 (nS (VL 3) (VL 0) (VS 0))) (va_up VS 3 (nT (VL 3) (VL 0) (VS 0) (VS 3))) PL PS (nI 1)).1 (s_find ML (va_up VL 3 (nS (VL 3) (VL 0) (VS 0))) (va_up VS 3 (nT (VL 3) (VL 0) (VS 0) (VS 3))) PL PS (nI 1)).2.1 (s_find ML (va_up VL 3 (nS (VL 3) (VL 0) (VS 0))) (va_up VS 3 (nT (VL 3) (VL 0) (VS 0) (VS 3))) PL PS (nI 1)).2.2.1 (s_find ML (va_up VL 3 (nS (VL 3) (VL 0) (VS 0))) (va_up VS 3 (nT (VL 3) (VL 0) (VS 0) (VS 3))) PL PS (nI 1)).2.2.2).1 / (m_chances RA i).toInt64 = _
        rw [q.1]
theorem look_22L {i : Nat} {v2 : Int32} : ∀ (n k : Nat) (v4 : Int64) (a22 a b d : Nat → Int32) (ll : Int64) (s : Int32), (∀ j, j ≠ i → a22 j = RA 22 j) → ∀ j, j ≠ i → (m_look_L65 RA RS RN i v2 n k v4 a22 a b d ll s).2.1 j = RA 22 j := by
  intro n
  induction n with
  | zero => intro k v4 a22 a b d ll s h j hj; rw [m_look_L65.eq_1]; exact h j hj
  | succ n ih =>
    intro k v4 a22 a b d ll s h j hj
    rw [m_look_L65.eq_2]
    repeat' split
    · exact ih _ _ _ _ _ _ _ _ h j hj
    · exact ih _ _ _ _ _ _ _ _ h j hj
    · exact ih _ _ _ _ _ _ _ _ (fun q hq => by rw [pk_un hq]; exact h q hq) j hj
theorem look_22 (v : Int32) : (m_look RA RS RN RL v).2.1 = RA 22 := by
  unfold m_look m_look_k65
  repeat' split
  · rfl
  · rfl
  · rfl
  · funext j
    show upd _ _ _ j = _
    by_cases c : j = v.toNatClampNeg
    · rw [c, pk_us]
    · rw [pk_un c]
      exact look_22L _ _ _ _ _ _ _ _ _ (fun _ _ => rfl) j c
theorem lk_keep (v : Int32) : ∀ (n i : Nat) (v3 LLw : Int64) (MLw : Nat → Nat → Int32) (VLw : Nat → Nat → Nat → Int32) (VSw : Nat → Nat → Int32), ((o_look_L84 PL PS v n i v3 LLw MLw VLw VSw).2.2.1 0 = MLw 0 ∧ (o_look_L84 PL PS v n i v3 LLw MLw VLw VSw).2.2.1 2 = MLw 2) ∧ ∀ k, k < 3 → (o_look_L84 PL PS v n i v3 LLw MLw VLw VSw).2.2.2.1 k = VLw k ∧ (o_look_L84 PL PS v n i v3 LLw MLw VLw VSw).2.2.2.2 k = VSw k := by
  intro n
  induction n with
  | zero => intro i v3 LLw MLw VLw VSw; rw [o_look_L84.eq_1]; exact ⟨⟨rfl, rfl⟩, fun _ _ => ⟨rfl, rfl⟩⟩
  | succ n ih =>
    intro i v3 LLw MLw VLw VSw
    obtain ⟨F, hF⟩ : ∃ F, F = s_find MLw (va_up VLw 3 (va_up (VLw 3) 2 (rs 8 (VLw 3 2) v (1 <<< ((nI i) &&& 31))))) VSw PL PS (nI 1) := ⟨_, rfl⟩
    have fk := find_keep (PL := PL) (PS := PS) MLw (va_up VLw 3 (va_up (VLw 3) 2 (rs 8 (VLw 3 2) v (1 <<< ((nI i) &&& 31))))) VSw (nI 1)
    rw [← hF] at fk
    rw [lk_2 v n i v3 LLw MLw VLw VSw F hF]
    by_cases c : v_chanceOf (VLw 0) (PL 0) v (nI i) ≤ 0
    · rw [if_pos c]; exact ih _ _ _ _ _ _
    · rw [if_neg c]
      have q := ih (i + 1) (v3 - (v_chanceOf (VLw 0) (PL 0) v (nI i)).toInt64 * F.1) F.1 F.2.1 F.2.2.1 F.2.2.2
      exact ⟨⟨q.1.1.trans fk.1.1, q.1.2.trans fk.1.2⟩, fun k hk => ⟨(q.2 k hk).1.trans ((fk.2 k (by omega)).1.trans (va_up_ne _ _ (by omega))), (q.2 k hk).2.trans (fk.2 k (by omega)).2⟩⟩
theorem look_keep (v : Int32) : ((o_look ML MS VL VS PL PS LL v).2.2.1 0 = ML 0 ∧ (o_look ML MS VL VS PL PS LL v).2.2.1 2 = ML 2) ∧ ∀ k, k < 3 → (o_look ML MS VL VS PL PS LL v).2.2.2.1 k = VL k ∧ (o_look ML MS VL VS PL PS LL v).2.2.2.2 k = VS k := by
  have fk := find_keep (PL := PL) (PS := PS) ML (va_up VL 3 (nS (VL 3) (VL 0) (VS 0))) (va_up VS 3 (nT (VL 3) (VL 0) (VS 0) (VS 3))) 1
  have lk := lk_keep (PL := PL) (PS := PS) v 4 0 ((v_chances (VL 0) (PL 0) v).toInt64 * (s_find ML (va_up VL 3 (nS (VL 3) (VL 0) (VS 0))) (va_up VS 3 (nT (VL 3) (VL 0) (VS 0) (VS 3))) PL PS 1).1) (s_find ML (va_up VL 3 (nS (VL 3) (VL 0) (VS 0))) (va_up VS 3 (nT (VL 3) (VL 0) (VS 0) (VS 3))) PL PS 1).1 (s_find ML (va_up VL 3 (nS (VL 3) (VL 0) (VS 0))) (va_up VS 3 (nT (VL 3) (VL 0) (VS 0) (VS 3))) PL PS 1).2.1 (s_find ML (va_up VL 3 (nS (VL 3) (VL 0) (VS 0))) (va_up VS 3 (nT (VL 3) (VL 0) (VS 0) (VS 3))) PL PS 1).2.2.1 (s_find ML (va_up VL 3 (nS (VL 3) (VL 0) (VS 0))) (va_up VS 3 (nT (VL 3) (VL 0) (VS 0) (VS 3))) PL PS 1).2.2.2
  unfold o_look o_look_k84
  repeat' split
  all_goals first
    | exact ⟨⟨rfl, rfl⟩, fun k _ => ⟨rfl, rfl⟩⟩
    | exact ⟨⟨lk.1.1.trans fk.1.1, lk.1.2.trans fk.1.2⟩, fun k hk => ⟨(lk.2 k hk).1.trans ((fk.2 k (by omega)).1.trans (va_up_ne _ _ (by omega))), (lk.2 k hk).2.trans ((fk.2 k (by omega)).2.trans (va_up_ne _ _ (by omega)))⟩⟩
end SLOOK10
