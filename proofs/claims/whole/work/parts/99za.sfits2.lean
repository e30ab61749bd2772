/-! may a text be laid: the class's side, and both -/
theorem ones_bt : ∀ m, m < 9 → ∀ k, k < 32 → bt ((1 <<< ((nI m) &&& 31)) - 1) k = decide (k < m) := by decide +kernel
section SFITS2
variable {RA : Nat → Nat → Int32} {RS : Nat → Int32} {RN : Nat → Nat} {A : Nat → Nat → Int32} {N : Nat → Nat} {pl : Nat → Nat → Int32} {ps : Nat → Int32} {f : Nat → Int32} {n : Nat}
theorem sm_ts {a : Nat → Int32} {i : Nat} (hb : ∀ k, k < 4 → 0 ≤ (a (4 * i + k)).toInt ∧ (a (4 * i + k)).toInt ≤ 10) : ∀ m, m ≤ 4 → (sm (fun k => a (4 * i + k)) m 0).toInt = tsum a i m ∧ 0 ≤ tsum a i m ∧ tsum a i m ≤ 10 * m := by
  intro m
  induction m with
  | zero => intro _; exact ⟨rfl, Int.le_refl _, Int.le_refl _⟩
  | succ m ih =>
    intro hm
    obtain ⟨q1, q2, q3⟩ := ih (by omega)
    have h := hb m (by omega)
    rw [sm_add (f := fun k => a (4 * i + k)) m 1 0, tsum, Nat.zero_add]
    have e : sm (fun k => a (4 * i + k)) 1 m = a (4 * i + m) := Int32.add_zero _
    rw [e, ti_add (by omega) (by omega), q1]
    exact ⟨rfl, by omega, by omega⟩
theorem tn_all {i m : Nat} (hi : i < 8) (hm : m ≤ 4) (e7 : pl 7 i = nI m) {a11 : Nat → Int32} (e9 : ∀ k, k < m → pl 9 (4 * i + k) = a11 (4 * i + k)) (hb : ∀ k, k < 4 → 0 ≤ (a11 (4 * i + k)).toInt ∧ (a11 (4 * i + k)).toInt ≤ 10) : (p_tenthsOf pl (nI i) (p_allBearings pl (nI i))).toInt = tsum a11 i m := by
  unfold p_allBearings
  rw [rg_in hi (by omega), e7, tn_eq hi]
  have e4 : (4 : Nat) = m + (4 - m) := by omega
  have s1 : sm (fun k => if bt ((1 <<< ((nI m) &&& 31)) - 1) k = true then pl 9 (4 * i + k) else 0) 4 0 = sm (fun k => a11 (4 * i + k)) m 0 := by
    have e : sm (fun k => if bt ((1 <<< ((nI m) &&& 31)) - 1) k = true then pl 9 (4 * i + k) else 0) (m + (4 - m)) 0 = sm (fun k => a11 (4 * i + k)) m 0 := by
      rw [sm_add, Nat.zero_add, sm_zero (4 - m) m (fun k h1 h2 => by rw [ones_bt m (by omega) k (by omega), if_neg (by rw [decide_eq_false (by omega)]; decide)]), Int32.add_zero]
      refine sm_congr _ _ (fun k h1 h2 => ?_)
      rw [ones_bt m (by omega) k (by omega), if_pos (by rw [decide_eq_true (by omega)])]
      exact e9 k (by omega)
    rw [← e4] at e
    exact e
  rw [s1]
  exact (sm_ts hb m hm).1
theorem ft_L {n4 : Nat} (h0 : ps 0 = nI n4) (h8 : n4 ≤ 8) : ∀ (m i : Nat), i + m = n4 → (p_fitsTogether_L2 pl ps m i = 0 ∨ p_fitsTogether_L2 pl ps m i = 1) ∧ (p_fitsTogether_L2 pl ps m i = 1 ↔ 0 < n4 ∧ ∀ j, i ≤ j → j < n4 → okT (pl 5 j) (nI n4) (nI j) ∧ (pl 7 j ≤ 0 ∨ p_tenthsOf pl (nI j) (p_allBearings pl (nI j)) = 10)) := by
  intro m
  induction m with
  | zero =>
    intro i hi
    rw [p_fitsTogether_L2.eq_1]
    unfold p_fitsTogether_k2
    rw [h0]
    by_cases c : nI n4 ≤ 0
    · rw [if_pos c]
      rw [ti_le, ti_0, nI_toInt (by omega)] at c
      exact ⟨Or.inl rfl, fun q => absurd q (by decide), fun q => by omega⟩
    · rw [if_neg c]
      rw [ti_le, ti_0, nI_toInt (by omega)] at c
      exact ⟨Or.inr rfl, fun _ => ⟨by omega, fun j h1 h2 => by omega⟩, fun _ => rfl⟩
  | succ m ih =>
    intro i hi
    rw [p_fitsTogether_L2.eq_2, rg_in (by omega) (by omega), rg_in (by omega) (by omega), h0]
    obtain ⟨q1, q2⟩ := ih (i + 1) (by omega)
    have no : ∀ (z : ¬ (okT (pl 5 i) (nI n4) (nI i) ∧ (pl 7 i ≤ 0 ∨ p_tenthsOf pl (nI i) (p_allBearings pl (nI i)) = 10))), ((0 : Int32) = 0 ∨ (0 : Int32) = 1) ∧ ((0 : Int32) = 1 ↔ 0 < n4 ∧ ∀ j, i ≤ j → j < n4 → okT (pl 5 j) (nI n4) (nI j) ∧ (pl 7 j ≤ 0 ∨ p_tenthsOf pl (nI j) (p_allBearings pl (nI j)) = 10)) := fun z => ⟨Or.inl rfl, fun q => absurd q (by decide), fun q => absurd (q.2 i (Nat.le_refl _) (by omega)) z⟩
    have yes : ∀ (z : okT (pl 5 i) (nI n4) (nI i) ∧ (pl 7 i ≤ 0 ∨ p_tenthsOf pl (nI i) (p_allBearings pl (nI i)) = 10)), (p_fitsTogether_L2 pl ps m (i + 1) = 0 ∨ p_fitsTogether_L2 pl ps m (i + 1) = 1) ∧ (p_fitsTogether_L2 pl ps m (i + 1) = 1 ↔ 0 < n4 ∧ ∀ j, i ≤ j → j < n4 → okT (pl 5 j) (nI n4) (nI j) ∧ (pl 7 j ≤ 0 ∨ p_tenthsOf pl (nI j) (p_allBearings pl (nI j)) = 10)) := fun z => by
      refine ⟨q1, fun w => ⟨(q2.mp w).1, fun j h1 h2 => ?_⟩, fun w => q2.mpr ⟨w.1, fun j h1 h2 => w.2 j (by omega) h2⟩⟩
      by_cases e : j = i
      · rw [e]; exact z
      · exact (q2.mp w).2 j (by omega) h2
    have e8 : (8 : Int32).toInt = 8 := by decide
    by_cases c1 : pl 5 i = nI i
    · rw [if_pos c1]
      refine no (fun z => ?_)
      rcases z.1 with y | y
      · have := congrArg Int32.toInt (c1.symm.trans y)
        rw [nI_toInt (by omega), e8] at this
        omega
      · exact y.2 c1
    · rw [if_neg c1]
      have tail : ∀ (ok : okT (pl 5 i) (nI n4) (nI i)), ((if pl 7 i ≤ 0 then p_fitsTogether_L2 pl ps m (i + 1) else (if p_tenthsOf pl (nI i) (p_allBearings pl (nI i)) = 10 then p_fitsTogether_L2 pl ps m (i + 1) else 0)) = 0 ∨ (if pl 7 i ≤ 0 then p_fitsTogether_L2 pl ps m (i + 1) else (if p_tenthsOf pl (nI i) (p_allBearings pl (nI i)) = 10 then p_fitsTogether_L2 pl ps m (i + 1) else 0)) = 1) ∧ ((if pl 7 i ≤ 0 then p_fitsTogether_L2 pl ps m (i + 1) else (if p_tenthsOf pl (nI i) (p_allBearings pl (nI i)) = 10 then p_fitsTogether_L2 pl ps m (i + 1) else 0)) = 1 ↔ 0 < n4 ∧ ∀ j, i ≤ j → j < n4 → okT (pl 5 j) (nI n4) (nI j) ∧ (pl 7 j ≤ 0 ∨ p_tenthsOf pl (nI j) (p_allBearings pl (nI j)) = 10)) := fun ok => by
        by_cases d : pl 7 i ≤ 0
        · rw [if_pos d]; exact yes ⟨ok, Or.inl d⟩
        · rw [if_neg d]
          by_cases d2 : p_tenthsOf pl (nI i) (p_allBearings pl (nI i)) = 10
          · rw [if_pos d2]; exact yes ⟨ok, Or.inr d2⟩
          · rw [if_neg d2]; exact no (fun z => by rcases z.2 with y | y; exact d y; exact d2 y)
      by_cases c2 : pl 5 i < nI n4
      · rw [if_pos c2]; exact tail (Or.inr ⟨Int32.not_le.mpr c2, c1⟩)
      · rw [if_neg c2]
        by_cases c3 : pl 5 i = 8
        · rw [if_pos c3]; exact tail (Or.inl c3)
        · rw [if_neg c3]
          exact no (fun z => by rcases z.1 with y | y; exact c3 y; exact y.1 (Int32.not_lt.mp c2))
theorem fits_eq (hM : mI RA RS RN) (hv : vOk f n) (hn : n ≤ 170) (hQ : sQ pl ps (nbA RA f (tK RA RS RN f n)) (nbS RS (tK RA RS RN f n)) (nbN RN n (tK RA RS RN f n))) (e2 : A 2 = f) (e3 : N 3 = n) : p_fitsTogether pl ps = 0 ↔ m_mayBeLaid A N = 0 := by
  obtain ⟨⟨Q1, Q2, Q3⟩, -⟩ := hQ
  have hL := LI_all (RA := RA) (RS := RS) (RN := RN) hM hv n (Nat.le_refl _)
  obtain ⟨hth, hro⟩ := thr_L (RA := RA) (RS := RS) (RN := RN) hM hv n (Nat.le_refl _)
  have t8 := tR_8 hv n (Nat.le_refl _)
  obtain ⟨T, hT⟩ : ∃ T, T = tK RA RS RN f n := ⟨_, rfl⟩
  rw [← hT] at Q1 Q2 Q3 hL hth
  have e4 : nbN RN n T 4 = tR f n := hL.2.1
  rw [e4] at Q1
  have h0 : ps 0 = nI (tR f n) := Q1.1.1
  obtain ⟨q1, q2⟩ := ft_L (pl := pl) h0 t8 (tR f n) 0 (by omega)
  have ep : p_fitsTogether pl ps = p_fitsTogether_L2 pl ps (tR f n) 0 := by unfold p_fitsTogether; rw [h0, nI_clamp (by omega)]
  have hm := may_eq (A := A) (N := N) e2 e3 hn hv
  have part : ∀ j, j < 8 → ((pl 7 j ≤ 0 ∨ p_tenthsOf pl (nI j) (p_allBearings pl (nI j)) = 10) ↔ (tB f (nI j) n = 0 ∨ sB f (nI j) n = 10)) := fun j hj => by
    have b4 := tB_4 hv (nI j) n (Nat.le_refl _)
    obtain ⟨l1, l2⟩ := hL.2.2 j hj
    have e12 := (Q3 j hj).1
    have e7 : pl 7 j = nI (tB f (nI j) n) := by
      rw [e12.1, ← l1]; exact kNat e12.2.1
    have ht := tn_all (pl := pl) hj b4 e7 (a11 := nbA RA f T 11) (fun k hk => ((Q3 j hj).2 k (by
      have l1' : (nbA RA f T 12 j).toNatClampNeg = tB f (nI j) n := l1
      rw [l1']; exact hk)).2) (fun k hk => mI_ten hL.1 (4 * j + k) (by omega))
    rw [l2] at ht
    have i10 : (10 : Int32).toInt = 10 := by decide
    rw [e7]
    constructor
    · intro w
      rcases w with w | w
      · rw [ti_le, ti_0, nI_toInt (by omega)] at w; exact Or.inl (by omega)
      · rw [w, i10] at ht; exact Or.inr ht.symm
    · intro w
      rcases w with w | w
      · rw [w]; exact Or.inl (by decide)
      · rw [w] at ht; exact Or.inr (Int32.toInt_inj.mp (by rw [ht, i10]))
  have key : p_fitsTogether pl ps = 1 ↔ ¬ m_mayBeLaid A N = 0 := by
    rw [ep, q2, hm]
    constructor
    · intro w
      refine ⟨w.1, fun q hq c => ?_, fun r hr => ?_⟩
      · have l1 : tR f (q + 1) ≤ tR f n := tR_mono (by omega)
        rw [tR, if_pos c] at l1
        have := (w.2 (tR f q) (Nat.zero_le _) (by omega)).1
        have e5 : pl 5 (tR f q) = f (7 * q + 6) := (Q1.2.1 (tR f q) (by omega)).1.2.2.trans (hth q hq c)
        rw [e5] at this
        exact this
      · rcases Nat.lt_or_ge r (tR f n) with z | z
        · exact (part r hr).mp (w.2 r (Nat.zero_le _) z).2
        · exact Or.inl (tB_far hv z (by omega) n (Nat.le_refl _))
    · intro w
      refine ⟨w.1, fun j _ hj => ⟨?_, (part j (by omega)).mpr (w.2.2 j (by omega))⟩⟩
      obtain ⟨q, z1, z2, z3⟩ := hro j hj
      have := w.2.1 q z1 z2
      have e5 : pl 5 (tR f q) = f (7 * q + 6) := (Q1.2.1 (tR f q) (by omega)).1.2.2.trans (hth q z1 z2)
      rw [← e5, z3] at this
      exact this
  rw [← ep] at q1
  constructor
  · intro w
    exact Decidable.byContradiction (fun z => by have := key.mpr z; rw [w] at this; exact absurd this (by decide))
  · intro w
    rcases q1 with z | z
    · exact z
    · exact absurd w (key.mp z)
end SFITS2
