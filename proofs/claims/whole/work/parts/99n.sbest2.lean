/-! best: the reference's whole loop -/
section SBEST2
variable {RA : Nat → Nat → Int32} {RS : Nat → Int32} {RN : Nat → Nat}
theorem sF.goneAt {f w pl : Nat → Nat → Int32} {fs ws ps : Nat → Int32} (h : sF f fs pl ps RA RS RN) {k : Nat} (hk : k < 3) (r : Int32) {s : Nat} (hs : s = 16 ∨ s < 2 * RN 4) {hands : Int32} (hn : hands.toNatClampNeg ≤ 100) (vs' : Nat → Int32) (e8 : vs' 8 = fs 8) :
    sF (nV (qL w f fs) (v_passHourAt (qL w f fs) (qS w f ws fs) pl ps (nI s) (nI k) hands).1 (v_passHourAt (qL w f fs) (qS w f ws fs) pl ps (nI s) (nI k) hands).2.1 (v_passHourAt (qL w f fs) (qS w f ws fs) pl ps (nI s) (nI k) hands).2.2.1) vs' pl ps (nR RA (m_goHour RA RS RN r k hands (nI s)).1 (m_goHour RA RS RN r k hands (nI s)).2.1 (m_goHour RA RS RN r k hands (nI s)).2.2) RS RN :=
  (ha_eq (vs' := vs') (h.copy (w := w) (ws := ws)) hk r hs hn e8).1
/-- spots that are there -/
theorem okS_rng (hM : mI RA RS RN) {k : Nat} (h : okS RS RN k = true) (hk : k < 17) : k = 16 ∨ k < 2 * RN 4 := by
  have h8 := mI_many hM
  rcases okS_i.mp h with h | h
  · exact Or.inl h
  · refine Or.inr ?_
    have := h.1
    rw [ti_le, nI_toInt (by omega), nI_toInt (by omega)] at this
    omega
theorem rowB_det {pl : Nat → Nat → Int32} {ps : Nat → Int32} {s38 : Int32} (hM : mI RA RS RN) (hC : mC RA RS RN) (e26 : RS 26 = s38) (hd : (RS 15).toNatClampNeg ≤ 100) (v1 i : Nat) (hv : v1 ≤ 12) : ∀ (n c : Nat) (vl : Nat → Nat → Int32) (vs : Nat → Int32) (a b d a' b' d' : Nat → Int32) (z : Int64 × Int32), c + n = v1 → z.1.toInt ≤ 1152921504606846976 → sF vl vs pl ps (nR RA a b d) (va_up RS 38 s38) RN → sF vl vs pl ps (nR RA a' b' d') (va_up RS 38 s38) RN →
    rowB RA RS RN s38 v1 n c 1 a b d i z = rowB RA RS RN s38 v1 n c 1 a' b' d' i z := by
  intro n
  induction n with
  | zero =>
    intro c vl vs a b d a' b' d' z _ _ h1 h2
    have q1 := lo_eq h1 (mC_of hC rfl rfl rfl rfl rfl rfl) e26
    have q2 := lo_eq h2 (mC_of hC rfl rfl rfl rfl rfl rfl) e26
    rw [rowB_0, rowB_0]
    unfold bF
    rw [← q1, ← q2]
  | succ n ih =>
    intro c vl vs a b d a' b' d' z hc hz h1 h2
    obtain ⟨k, hk⟩ : ∃ k, (i / m_power 17 (v1 - 1 - c)) % 17 = k := ⟨_, rfl⟩
    have hk17 : k < 17 := by rw [← hk]; exact Nat.mod_lt _ (by omega)
    rw [rowB_1 hz hk, rowB_1 hz hk]
    by_cases c1 : okS (va_up RS 38 s38) RN k = true
    · rw [if_pos c1, if_pos c1]
      have hr := okS_rng (RA := RA) (RS := RS) hM (show okS RS RN k = true from c1) hk17
      have sk := mI_row hM c (by omega)
      have g1 := h1.goneAt (w := vl) (ws := vs) sk 0 hr (hands := RS 15) hd vs rfl
      have g2 := h2.goneAt (w := vl) (ws := vs) sk 0 hr (hands := RS 15) hd vs rfl
      rw [nR_nR] at g1 g2
      exact ih (c + 1) _ _ _ _ _ _ _ _ _ (by omega) hz g1 g2
    · rw [if_neg c1, if_neg c1]
theorem be_b {v1 i : Nat} {v2 : Int32} {a b d : Nat → Int32} {ll : Int64} {s : Int32} : ((m_bestRow_b12 RA RS RN v1 i v2 a b d ll s).2.2.2.2.1, (m_bestRow_b12 RA RS RN v1 i v2 a b d ll s).1) = rowB RA RS RN (m_load (nR RA a b d) (va_up RS 38 s)).2.2.2 v1 v1 0 1 (m_load (nR RA a b d) (va_up RS 38 s)).1 (m_load (nR RA a b d) (va_up RS 38 s)).2.1 (m_load (nR RA a b d) (va_up RS 38 s)).2.2.1 i (ll, v2) := by
  unfold m_bestRow_b12 m_bestRow_b12_k32 rowB nR
  obtain ⟨L, hL⟩ : ∃ L, L = m_bestRow_L32 RA RS RN (m_load (va_up (va_up (va_up RA 36 a) 37 b) 39 d) (va_up RS 38 s)).2.2.2 v1 i v1 0 1 (m_load (va_up (va_up (va_up RA 36 a) 37 b) 39 d) (va_up RS 38 s)).1 (m_load (va_up (va_up (va_up RA 36 a) 37 b) 39 d) (va_up RS 38 s)).2.1 (m_load (va_up (va_up (va_up RA 36 a) 37 b) 39 d) (va_up RS 38 s)).2.2.1 := ⟨_, rfl⟩
  rw [← hL]
  by_cases c1 : L.1 = 0
  · simp only [if_pos c1]
    by_cases c2 : 0 ≤ lg_cmp 1152921504606846976 ll
    · simp only [if_pos c2]
    · simp only [if_neg c2]
  · simp only [if_neg c1]
    by_cases c2 : 0 ≤ lg_cmp (m_lost (va_up (va_up (va_up RA 36 L.2.1) 37 L.2.2.1) 39 L.2.2.2) (va_up RS 38 (m_load (va_up (va_up (va_up RA 36 a) 37 b) 39 d) (va_up RS 38 s)).2.2.2) RN) ll
    · simp only [if_pos c2]
    · simp only [if_neg c2]
/-- wherever the reference loads, it stands alike to one village -/
def ldOk (vl : Nat → Nat → Int32) (vs : Nat → Int32) (pl : Nat → Nat → Int32) (ps : Nat → Int32) (RA : Nat → Nat → Int32) (RS : Nat → Int32) (RN : Nat → Nat) : Prop :=
  ∀ (a b d : Nat → Int32) (s : Int32), sF vl vs pl ps (nR RA (m_load (nR RA a b d) (va_up RS 38 s)).1 (m_load (nR RA a b d) (va_up RS 38 s)).2.1 (m_load (nR RA a b d) (va_up RS 38 s)).2.2.1) (va_up RS 38 (m_load (nR RA a b d) (va_up RS 38 s)).2.2.2) RN
theorem ldOk.base {vl : Nat → Nat → Int32} {vs : Nat → Int32} {pl : Nat → Nat → Int32} {ps : Nat → Int32} (h : ldOk vl vs pl ps RA RS RN) : sF vl vs pl ps (nR RA (m_load RA RS).1 (m_load RA RS).2.1 (m_load RA RS).2.2.1) (va_up RS 38 (RS 26)) RN := by
  have q := h (RA 36) (RA 37) (RA 39) (RS 38)
  have e0 : nR RA (RA 36) (RA 37) (RA 39) = RA := by unfold nR; rw [va_eta, va_eta, va_eta]
  rw [e0, va_eta, (load_eq RA RS).2.2.2] at q
  exact q
theorem L12_eq {vl : Nat → Nat → Int32} {vs : Nat → Int32} {pl : Nat → Nat → Int32} {ps : Nat → Int32} (h : ldOk vl vs pl ps RA RS RN) (hM : mI RA RS RN) (hC : mC RA RS RN) (hd : (RS 15).toNatClampNeg ≤ 100) (v1 : Nat) (hv : v1 ≤ 12) : ∀ (n i : Nat) (v2 : Int32) (a b d : Nat → Int32) (ll : Int64) (s : Int32), ll.toInt ≤ 1152921504606846976 →
    ((m_bestRow_L12 RA RS RN v1 n i v2 a b d ll s).2.2.2.2.1, (m_bestRow_L12 RA RS RN v1 n i v2 a b d ll s).1) = oF (rowB RA RS RN (RS 26) v1 v1 0 1 (m_load RA RS).1 (m_load RA RS).2.1 (m_load RA RS).2.2.1) n i (ll, v2) := by
  intro n
  induction n with
  | zero => intro i v2 a b d ll s _; rw [m_bestRow_L12.eq_1]; rfl
  | succ n ih =>
    intro i v2 a b d ll s hl
    have l1 : (m_load (nR RA a b d) (va_up RS 38 s)).2.2.2 = RS 26 := (load_eq _ _).2.2.2
    have q1 := h a b d s
    rw [l1] at q1
    have eb := be_b (RA := RA) (RS := RS) (RN := RN) (v1 := v1) (i := i) (v2 := v2) (a := a) (b := b) (d := d) (ll := ll) (s := s)
    rw [l1, rowB_det hM hC rfl hd v1 i hv v1 0 _ _ _ _ _ _ _ _ _ (by omega) hl q1 h.base] at eb
    rw [m_bestRow_L12.eq_2]
    obtain ⟨B, hB⟩ : ∃ B, B = m_bestRow_b12 RA RS RN v1 i v2 a b d ll s := ⟨_, rfl⟩
    rw [← hB] at eb ⊢
    have e1 : B.2.2.2.2.1.toInt ≤ 1152921504606846976 := by
      have z := congrArg (fun y => y.1.toInt) eb
      dsimp only at z
      rw [z]
      unfold rowB
      split
      · split
        · exact hl
        · exact Int.le_of_eq big60
      · split
        · exact hl
        · rename_i _ h9; rw [lgc] at h9; dsimp only at h9 ⊢; omega
    rw [ih (i + 1) _ _ _ _ _ _ e1, eb]
    rfl
end SBEST2
