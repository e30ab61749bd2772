/-! the text is read alike: numbers, signs, items -/
def txt (ML : Nat → Nat → Int32) (MS : Nat → Int32) (RA : Nat → Nat → Int32) (RN : Nat → Nat) : Prop :=
  MS 2 = nI (RN 1) ∧ RN 1 ≤ 500 ∧ ∀ j, j < RN 1 → ML 0 j = RA 0 j ∧ 0 ≤ (RA 0 j).toInt ∧ (RA 0 j).toInt < 256
theorem kind_tab : ∀ l, l < 256 → ((j_indexOf (((nI l).toUInt32 % 65536).toInt32)) < 0 ∧ m_numbersOf (nI l) ≤ 0) ∨ ((j_indexOf (((nI l).toUInt32 % 65536).toInt32)).toNatClampNeg < 10 ∧ j_indexOf (((nI l).toUInt32 % 65536).toInt32) = nI (j_indexOf (((nI l).toUInt32 % 65536).toInt32)).toNatClampNeg ∧ nI l = gStr (j_indexOf (((nI l).toUInt32 % 65536).toInt32)).toNatClampNeg) := by decide +kernel
theorem num_tab : ∀ κ, κ < 10 → gNum κ = m_numbersOf (gStr κ) ∧ gNum κ = nI (gNum κ).toNatClampNeg ∧ 1 ≤ (gNum κ).toNatClampNeg ∧ (gNum κ).toNatClampNeg ≤ 6 := by decide +kernel
theorem rng_tab : ∀ κ, κ < 10 → ∀ j, j < 6 → j < (gNum κ).toNatClampNeg → gLeast (6 * κ + j) = m_leastOf (gStr κ) (nI j) ∧ gMost (6 * κ + j) = m_mostOf (gStr κ) (nI j) := by decide +kernel
section SREAD9
variable {ML : Nat → Nat → Int32} {MS : Nat → Int32} {RA : Nat → Nat → Int32} {RN : Nat → Nat} {pl : Nat → Nat → Int32} {ps : Nat → Int32}
theorem by_in (h : txt ML MS RA RN) {t : Nat} (ht : t < RN 1) : t_byteAt ML MS (nI t) = RA 0 t := by
  have := h.2.1
  unfold t_byteAt
  rw [if_neg (nI_pos (by omega)), h.1, if_neg (nI_ge ht (by omega)), rg_in (by omega) (by omega), (h.2.2 t ht).1]
theorem by_out (h : txt ML MS RA RN) {t : Nat} (ht : RN 1 ≤ t) (h2 : t < 2 ^ 31) : t_byteAt ML MS (nI t) = -1 := by
  unfold t_byteAt
  rw [if_neg (nI_pos (by omega)), h.1, if_pos (nI_le ht (by omega))]
theorem nu_L (h : txt ML MS RA RN) : ∀ (n i : Nat) (v : Int32) (c t : Nat), t ≤ RN 1 → r_readNumber_L4 ML MS n i v (nI c) (nI t) = ((m_reads_L7 RA RN n i v t).1, nI (c + ((m_reads_L7 RA RN n i v t).2 - t)), nI (m_reads_L7 RA RN n i v t).2) ∧ t ≤ (m_reads_L7 RA RN n i v t).2 ∧ (m_reads_L7 RA RN n i v t).2 ≤ RN 1 ∧ (m_reads_L7 RA RN n i v t).2 ≤ t + n := by
  have hl := h.2.1
  intro n
  induction n with
  | zero => intro i v c t ht; rw [r_readNumber_L4.eq_1, m_reads_L7.eq_1]; exact ⟨by rw [show c + ((v, t).2 - t) = c by dsimp only; omega], Nat.le_refl _, ht, by dsimp only; omega⟩
  | succ n ih =>
    intro i v c t ht
    have hS : txt ML (va_up MS 3 (nI t)) RA RN := h
    rw [r_readNumber_L4.eq_2, m_reads_L7.eq_2]
    have stop : ∀ {a b : Nat}, ((v, nI c, nI t) : Int32 × Int32 × Int32) = ((v, t).1, nI (c + ((v, t).2 - t)), nI (v, t).2) ∧ t ≤ (v, t).2 ∧ (v, t).2 ≤ RN 1 ∧ (v, t).2 ≤ t + (n + 1) := ⟨by rw [show c + ((v, t).2 - t) = c by dsimp only; omega], Nat.le_refl _, ht, by dsimp only; omega⟩
    by_cases c1 : RN 1 ≤ t
    · rw [by_out hS c1 (by omega), if_pos (by decide), if_pos (nI_le c1 (by omega))]
      exact stop (a := 0) (b := 0)
    · rw [by_in hS (by omega), if_neg (nI_ge (by omega) (by omega))]
      unfold r_isFigure
      by_cases c2 : RA 0 t < 48
      · rw [if_pos c2, if_pos c2, if_pos rfl]; exact stop (a := 0) (b := 0)
      · rw [if_neg c2, if_neg c2]
        by_cases c3 : 57 < RA 0 t
        · rw [if_pos c3, if_pos c3, if_pos rfl]; exact stop (a := 0) (b := 0)
        · rw [if_neg c3, if_neg c3, if_neg (by decide), nI_1, nI_1]
          obtain ⟨q1, q2, q3, q4⟩ := ih (i + 1) (((10 * v) + (RA 0 t)) - 48) (c + 1) (t + 1) (by omega)
          rw [q1]
          obtain ⟨m, hm⟩ : ∃ m, m = m_reads_L7 RA RN n (i + 1) (((10 * v) + (RA 0 t)) - 48) (t + 1) := ⟨_, rfl⟩
          rw [← hm] at q2 q3 q4 ⊢
          exact ⟨by rw [show c + 1 + (m.2 - (t + 1)) = c + (m.2 - t) by omega], by omega, q3, by omega⟩
theorem nu_eq (h : txt ML MS RA RN) {t j : Nat} (ht : t ≤ RN 1) (e3 : MS 3 = nI t) (e35 : RN 35 = t) (hj : j < 6) : ∃ v t' b, r_readNumber ML MS (nI j) = (b, upd (ML 1) j v, nI t') ∧ m_reads RA RN j = (b, upd (RA 2) (((7 * (RN 3)) + 1) + j) v, t') ∧ t ≤ t' ∧ t' ≤ RN 1 ∧ (b = 0 ∨ (b = 1 ∧ t < t')) := by
  have hl := h.2.1
  obtain ⟨q1, q2, q3, q4⟩ := nu_L h 3 0 0 0 t ht
  obtain ⟨m, hm⟩ : ∃ m, m = m_reads_L7 RA RN 3 0 0 t := ⟨_, rfl⟩
  rw [← hm] at q1 q2 q3 q4
  rw [show nI 0 = 0 from rfl] at q1
  unfold r_readNumber m_reads r_readNumber_k4 m_reads_k7
  rw [e3, e35, q1, ← hm, rs_in (by omega) (by omega)]
  dsimp only
  by_cases c : m.2 = t
  · refine ⟨m.1, t, 0, ?_, ?_, Nat.le_refl _, ht, Or.inl rfl⟩
    · rw [c, show 0 + (t - t) = 0 by omega, if_pos (show nI 0 ≤ 0 by decide)]
    · rw [c, if_pos (nI_le (Nat.le_refl _) (by omega))]
  · refine ⟨m.1, m.2, 1, ?_, ?_, q2, q3, Or.inr ⟨rfl, by omega⟩⟩
    · rw [if_neg (show ¬ nI (0 + (m.2 - t)) ≤ 0 by rw [ti_le, ti_0, nI_toInt (by omega)]; omega)]
    · rw [if_neg (nI_ge (by omega) (by omega))]
theorem sg_eq (h : txt ML MS RA RN) {t : Nat} (ht : t ≤ RN 1) (e3 : MS 3 = nI t) (e35 : RN 35 = t) {c : Int32} (hc : ¬ c = -1) : (r_readSign ML MS c = (0, nI t) ∧ m_isSign RA RN c = (0, t)) ∨ (r_readSign ML MS c = (1, nI (t + 1)) ∧ m_isSign RA RN c = (1, t + 1) ∧ t < RN 1) := by
  have hl := h.2.1
  unfold r_readSign m_isSign
  rw [e3, e35]
  by_cases c1 : RN 1 ≤ t
  · rw [by_out h c1 (by omega), if_pos (nI_le c1 (by omega)), if_neg (fun q => hc q.symm)]
    exact Or.inl ⟨rfl, rfl⟩
  · rw [by_in h (by omega), if_neg (nI_ge (by omega) (by omega))]
    by_cases c2 : RA 0 t = c
    · rw [if_pos c2, if_pos c2, nI_1]; exact Or.inr ⟨rfl, rfl, by omega⟩
    · rw [if_neg c2, if_neg c2]; exact Or.inl ⟨rfl, rfl⟩
theorem rn_eq {κ j : Nat} (hκ : κ < 10) (hj : j < (gNum κ).toNatClampNeg) : r_isInRange ML (nI κ) (nI j) = 0 ↔ m_in (ML 1 j).toInt64 ((m_leastOf (gStr κ) (nI j)).toInt64) ((m_mostOf (gStr κ) (nI j)).toInt64) = 0 := by
  have h6 := (num_tab κ hκ).2.2.2
  have hr := rng_tab κ hκ j (by omega) hj
  rw [in_0, ki2l, ki2l, ← hr.1, ← hr.2]
  unfold r_isInRange
  have e : nI κ * 6 + nI j = nI (6 * κ + j) := by rw [show (6 : Int32) = nI 6 from rfl, nI_mul, nI_add, Nat.mul_comm]
  rw [e, if_neg (nI_pos (by omega)), if_neg (show ¬ 60 ≤ nI (6 * κ + j) from nI_ge (b := 60) (by omega) (by omega)), nI_clamp (by omega), rg_in (by omega) (by omega)]
  by_cases c1 : ML 1 j < gLeast (6 * κ + j)
  · rw [if_pos c1]; rw [ti_lt] at c1; exact ⟨fun _ => Or.inl c1, fun _ => rfl⟩
  · rw [if_neg c1]; rw [ti_lt] at c1
    by_cases c2 : gMost (6 * κ + j) < ML 1 j
    · rw [if_pos c2]; rw [ti_lt] at c2; exact ⟨fun _ => Or.inr c2, fun _ => rfl⟩
    · rw [if_neg c2]; rw [ti_lt] at c2; exact ⟨fun q => absurd q (by decide), fun q => by omega⟩
theorem L51_0 (c : Int32) : ∀ (n i : Nat) (a : Nat → Int32) (t : Nat), (m_readsItem_L51 RA RN c n i 0 a t).1 = 0 := by
  intro n
  induction n with
  | zero => intro i a t; rw [m_readsItem_L51.eq_1]
  | succ n ih => intro i a t; rw [m_readsItem_L51.eq_2, if_pos rfl]
theorem k51_0 {a : Nat → Int32} {t : Nat} {v : Int32} (hv : v = 0) : (m_readsItem_k51 RA RN a t v).1 = 0 := by
  unfold m_readsItem_k51
  rw [if_pos hv]
theorem it_L (h : txt ML MS RA RN) {κ : Nat} (hκ : κ < 10) : ∀ (n j : Nat) (ml1 : Nat → Int32) (t : Nat) (a2 : Nat → Int32) (t0 : Nat), j + (n + 1) = (gNum κ).toNatClampNeg → t ≤ RN 1 → ((j = 0 ∧ t0 = t) ∨ (0 < j ∧ m_isSign (va_up RA 2 a2) (va_up RN 35 t0) 44 = (1, t))) → (∀ q, q < j → ml1 q = a2 (((7 * (RN 3)) + 1) + q)) →
    ∀ (K : Int32 × (Nat → Int32) × Nat), K = m_readsItem_k51 RA RN (m_readsItem_L51 RA RN (gStr κ) (n + 1) j 1 a2 t0).2.1 (m_readsItem_L51 RA RN (gStr κ) (n + 1) j 1 a2 t0).2.2 (m_readsItem_L51 RA RN (gStr κ) (n + 1) j 1 a2 t0).1 →
    (K.1 = 0 ∧ (r_readItem_L62 pl ps ML MS (nI κ) (gNum κ) (n + 1) j ml1 (nI t)).1 = 0) ∨ (K.1 = 1 ∧ t < K.2.2 ∧ K.2.2 ≤ RN 1 ∧ ∃ ml1', r_readItem_L62 pl ps ML MS (nI κ) (gNum κ) (n + 1) j ml1 (nI t) = r_readItem_k62 pl ps ML ml1' (nI K.2.2) (nI κ) ∧ ∀ q, q < (gNum κ).toNatClampNeg → ml1' q = K.2.1 (((7 * (RN 3)) + 1) + q)) := by
  have hl := h.2.1
  obtain ⟨-, hn, -, h6⟩ := num_tab κ hκ
  intro n
  have step : ∀ (n j : Nat) (ml1 : Nat → Int32) (t : Nat) (a2 : Nat → Int32) (t0 : Nat), j + (n + 1) = (gNum κ).toNatClampNeg → t ≤ RN 1 → ((j = 0 ∧ t0 = t) ∨ (0 < j ∧ m_isSign (va_up RA 2 a2) (va_up RN 35 t0) 44 = (1, t))) → (∀ q, q < j → ml1 q = a2 (((7 * (RN 3)) + 1) + q)) →
      ((∃ a t', m_readsItem_L51 RA RN (gStr κ) (n + 1) j 1 a2 t0 = m_readsItem_L51 RA RN (gStr κ) n (j + 1) 0 a t') ∧ (r_readItem_L62 pl ps ML MS (nI κ) (gNum κ) (n + 1) j ml1 (nI t)).1 = 0) ∨
      ∃ v t', t < t' ∧ t' ≤ RN 1 ∧ m_readsItem_L51 RA RN (gStr κ) (n + 1) j 1 a2 t0 = m_readsItem_L51 RA RN (gStr κ) n (j + 1) 1 (upd a2 (((7 * (RN 3)) + 1) + j) v) t' ∧
        r_readItem_L62 pl ps ML MS (nI κ) (gNum κ) (n + 1) j ml1 (nI t) = (if (nI j) = ((gNum κ) - 1) then (if ((r_readSign (va_up ML 1 (upd ml1 j v)) (va_up MS 3 (nI t')) 59).1) = 0 then (0, upd ml1 j v, (r_readSign (va_up ML 1 (upd ml1 j v)) (va_up MS 3 (nI t')) 59).2, (pl 1), (pl 2), (pl 3), (pl 4), (pl 5), (pl 6), (pl 7), (pl 8), (pl 9), (pl 10), (pl 11), (pl 12), (ps 0), (ps 13), (ps 14), (ps 15), (ps 16), (ps 17), (ps 18), (ps 19)) else r_readItem_L62 pl ps ML MS (nI κ) (gNum κ) n (j + 1) (upd ml1 j v) ((r_readSign (va_up ML 1 (upd ml1 j v)) (va_up MS 3 (nI t')) 59).2)) else (if ((r_readSign (va_up ML 1 (upd ml1 j v)) (va_up MS 3 (nI t')) 44).1) = 0 then (0, upd ml1 j v, (r_readSign (va_up ML 1 (upd ml1 j v)) (va_up MS 3 (nI t')) 44).2, (pl 1), (pl 2), (pl 3), (pl 4), (pl 5), (pl 6), (pl 7), (pl 8), (pl 9), (pl 10), (pl 11), (pl 12), (ps 0), (ps 13), (ps 14), (ps 15), (ps 16), (ps 17), (ps 18), (ps 19)) else r_readItem_L62 pl ps ML MS (nI κ) (gNum κ) n (j + 1) (upd ml1 j v) ((r_readSign (va_up ML 1 (upd ml1 j v)) (va_up MS 3 (nI t')) 44).2))) := by
    intro n j ml1 t a2 t0 hj ht h0 hq
    have hx : txt (va_up ML 1 ml1) (va_up MS 3 (nI t)) (va_up RA 2 a2) (va_up RN 35 t) := h
    obtain ⟨v, t', b, r1, r2, r3, r4, r5⟩ := nu_eq hx (t := t) (j := j) ht rfl rfl (by omega)
    have r1 : r_readNumber (va_up ML 1 ml1) (va_up MS 3 (nI t)) (nI j) = (b, upd ml1 j v, nI t') := r1
    have r2 : m_reads (va_up RA 2 a2) (va_up RN 35 t) j = (b, upd a2 (((7 * (RN 3)) + 1) + j) v, t') := r2
    have rr := rn_eq (ML := va_up ML 1 (upd ml1 j v)) hκ (j := j) (by omega)
    rw [show va_up ML 1 (upd ml1 j v) 1 j = v from pk_us] at rr
    have eL : m_readsItem_L51 RA RN (gStr κ) (n + 1) j 1 a2 t0 = if b = 0 then m_readsItem_L51 RA RN (gStr κ) n (j + 1) 0 (upd a2 (((7 * (RN 3)) + 1) + j) v) t' else if m_in v.toInt64 ((m_leastOf (gStr κ) (nI j)).toInt64) ((m_mostOf (gStr κ) (nI j)).toInt64) = 0 then m_readsItem_L51 RA RN (gStr κ) n (j + 1) 0 (upd a2 (((7 * (RN 3)) + 1) + j) v) t' else m_readsItem_L51 RA RN (gStr κ) n (j + 1) 1 (upd a2 (((7 * (RN 3)) + 1) + j) v) t' := by
      rw [m_readsItem_L51.eq_2, if_neg (show ¬ (1 : Int32) = 0 by decide)]
      rcases h0 with ⟨z1, z2⟩ | ⟨z1, z2⟩
      · subst z1 z2
        rw [if_pos (show nI 0 = 0 from rfl), r2]
        dsimp only
        simp only [pk_us]
      · rw [if_neg (show ¬ nI j = 0 from fun q => by have := (nI_eq (a := j) (b := 0) (by omega) (by omega)).mp q; omega), z2]
        dsimp only
        rw [if_neg (show ¬ (1 : Int32) = 0 by decide), r2]
        dsimp only
        simp only [pk_us]
    rw [eL, r_readItem_L62.eq_2, r1]
    dsimp only
    rcases r5 with z | ⟨z, z2⟩
    · rw [if_pos z, if_pos z]
      exact Or.inl ⟨⟨_, _, rfl⟩, rfl⟩
    · subst z
      rw [if_neg (show ¬ (1 : Int32) = 0 by decide), if_neg (show ¬ (1 : Int32) = 0 by decide)]
      by_cases c : m_in v.toInt64 ((m_leastOf (gStr κ) (nI j)).toInt64) ((m_mostOf (gStr κ) (nI j)).toInt64) = 0
      · rw [if_pos c, if_pos (rr.mpr c)]
        exact Or.inl ⟨⟨_, _, rfl⟩, rfl⟩
      · rw [if_neg c, if_neg (show ¬ r_isInRange (va_up ML 1 (upd ml1 j v)) (nI κ) (nI j) = 0 from fun q => c (rr.mp q))]
        exact Or.inr ⟨v, t', z2, r4, rfl, rfl⟩
  induction n with
  | zero =>
    intro j ml1 t a2 t0 hj ht h0 hq K hK
    rcases step 0 j ml1 t a2 t0 hj ht h0 hq with ⟨⟨a, t', e⟩, e2⟩ | ⟨v, t', z1, z2, e, e2⟩
    · rw [e] at hK
      exact Or.inl ⟨by rw [hK]; exact k51_0 (L51_0 _ _ _ _ _), e2⟩
    · rw [e2, if_pos (show nI j = gNum κ - 1 by rw [hn, ← hj, ← nI_1, Int32.add_sub_cancel])]
      rw [e, m_readsItem_L51.eq_1] at hK
      unfold m_readsItem_k51 at hK
      dsimp only at hK
      rw [if_neg (show ¬ (1 : Int32) = 0 by decide)] at hK
      have hx : txt (va_up ML 1 (upd ml1 j v)) (va_up MS 3 (nI t')) (va_up RA 2 (upd a2 (((7 * (RN 3)) + 1) + j) v)) (va_up RN 35 t') := h
      rcases sg_eq hx (t := t') z2 rfl rfl (c := 59) (by decide) with ⟨g1, g2⟩ | ⟨g1, g2, g3⟩
      · rw [g2] at hK
        rw [g1]
        dsimp only at hK ⊢
        rw [if_pos rfl] at hK
        rw [if_pos rfl]
        exact Or.inl ⟨by rw [hK], rfl⟩
      · rw [g2] at hK
        rw [g1]
        dsimp only at hK ⊢
        rw [if_neg (show ¬ (1 : Int32) = 0 by decide)] at hK
        rw [if_neg (show ¬ (1 : Int32) = 0 by decide), r_readItem_L62.eq_1, hK]
        have g3 : t' < RN 1 := g3
        refine Or.inr ⟨rfl, by dsimp only; omega, by dsimp only; omega, _, rfl, fun q hq2 => ?_⟩
        dsimp only
        by_cases z : q = j
        · subst z; rw [pk_us, pk_us]
        · rw [pk_un z, pk_un (by omega)]; exact hq q (by omega)
  | succ n ih =>
    intro j ml1 t a2 t0 hj ht h0 hq K hK
    rcases step (n + 1) j ml1 t a2 t0 hj ht h0 hq with ⟨⟨a, t', e⟩, e2⟩ | ⟨v, t', z1, z2, e, e2⟩
    · rw [e] at hK
      exact Or.inl ⟨by rw [hK]; exact k51_0 (L51_0 _ _ _ _ _), e2⟩
    · rw [e2, if_neg (show ¬ nI j = gNum κ - 1 by rw [hn, ← hj, show j + (n + 1 + 1) = (j + n + 1) + 1 by omega, ← nI_1, Int32.add_sub_cancel]; exact fun q => by have := (nI_eq (a := j) (b := j + n + 1) (by omega) (by omega)).mp q; omega)]
      rw [e] at hK
      have hx : txt (va_up ML 1 (upd ml1 j v)) (va_up MS 3 (nI t')) (va_up RA 2 (upd a2 (((7 * (RN 3)) + 1) + j) v)) (va_up RN 35 t') := h
      rcases sg_eq hx (t := t') z2 rfl rfl (c := 44) (by decide) with ⟨g1, g2⟩ | ⟨g1, g2, g3⟩
      · rw [g1]
        dsimp only
        rw [if_pos rfl]
        rw [m_readsItem_L51.eq_2, if_neg (show ¬ (1 : Int32) = 0 by decide), if_neg (show ¬ nI (j + 1) = 0 from fun q => by have := (nI_eq (a := j + 1) (b := 0) (by omega) (by omega)).mp q; omega), g2] at hK
        dsimp only at hK
        rw [if_pos rfl] at hK
        exact Or.inl ⟨by rw [hK]; exact k51_0 (L51_0 _ _ _ _ _), rfl⟩
      · rw [g1]
        dsimp only
        rw [if_neg (show ¬ (1 : Int32) = 0 by decide)]
        have g3 : t' < RN 1 := g3
        rcases ih (j + 1) (upd ml1 j v) (t' + 1) (upd a2 (((7 * (RN 3)) + 1) + j) v) t' (by omega) (by omega) (Or.inr ⟨by omega, g2⟩) (fun q hq2 => by
          by_cases z : q = j
          · subst z; rw [pk_us, pk_us]
          · rw [pk_un z, pk_un (by omega)]; exact hq q (by omega)) K hK with w | ⟨w1, w2, w3, w4⟩
        · exact Or.inl w
        · exact Or.inr ⟨w1, by omega, w3, w4⟩
end SREAD9
