/-! best: the reference's rows, by their first hours -/
def oF {α : Type} (f : Nat → α → α) : Nat → Nat → α → α
  | 0, _, z => z
  | n + 1, i, z => oF f n (i + 1) (f i z)
theorem oF_add {α : Type} (f : Nat → α → α) : ∀ (a b i : Nat) (z : α), oF f (a + b) i z = oF f b (i + a) (oF f a i z) := by
  intro a
  induction a with
  | zero => intro b i z; rw [Nat.zero_add]; rfl
  | succ a ih =>
    intro b i z
    rw [show a + 1 + b = (a + b) + 1 by omega]
    show oF f (a + b) (i + 1) (f i z) = oF f b (i + (a + 1)) (oF f a (i + 1) (f i z))
    rw [ih b (i + 1), show i + 1 + a = i + (a + 1) by omega]
/-- folds that agree while a property holds -/
theorem oF_congr {α : Type} {f g : Nat → α → α} (p : α → Prop) : ∀ (n i : Nat) (z : α), (∀ k z, i ≤ k → k < i + n → p z → f k z = g k z ∧ p (g k z)) → p z → oF f n i z = oF g n i z ∧ p (oF g n i z) := by
  intro n
  induction n with
  | zero => intro i z _ hp; exact ⟨rfl, hp⟩
  | succ n ih =>
    intro i z h hp
    have q := h i z (by omega) (by omega) hp
    show oF f n (i + 1) (f i z) = oF g n (i + 1) (g i z) ∧ p (oF g n (i + 1) (g i z))
    rw [q.1]
    exact ih (i + 1) _ (fun k z h1 h2 => h k z (by omega) (by omega)) q.2
/-- may a hand work there: the k-th spot of a row -/
def okS (RS : Nat → Int32) (RN : Nat → Nat) (k : Nat) : Bool := decide (k = 16 ∨ (¬ nI (RN 4) ≤ nI (k / 2) ∧ ¬ m_has (RS 26) (nI (k / 2)) = 0))
theorem okS_i {RS : Nat → Int32} {RN : Nat → Nat} {k : Nat} : okS RS RN k = true ↔ (k = 16 ∨ (¬ nI (RN 4) ≤ nI (k / 2) ∧ ¬ m_has (RS 26) (nI (k / 2)) = 0)) := by unfold okS; exact decide_eq_true_iff
section SBEST
variable {RA : Nat → Nat → Int32} {RS : Nat → Int32} {RN : Nat → Nat}
/-- the best so far, after all rows behind a prefix q of c hours -/
def bF (RA : Nat → Nat → Int32) (RS : Nat → Int32) (RN : Nat → Nat) : Nat → Nat → Nat → (Nat → Int32) → (Nat → Int32) → (Nat → Int32) → Int64 × Int32 → Int64 × Int32
  | 0, _, q, a, b, d, z => if 0 ≤ lg_cmp (m_lost (nR RA a b d) RS RN) z.1 then z else (m_lost (nR RA a b d) RS RN, nI q)
  | n + 1, c, q, a, b, d, z => oF (fun k z => if okS RS RN k then bF RA RS RN n (c + 1) (17 * q + k) (m_goHour (nR RA a b d) RS RN 0 ((RA 31 c).toNatClampNeg) (RS 15) (nI k)).1 (m_goHour (nR RA a b d) RS RN 0 ((RA 31 c).toNatClampNeg) (RS 15) (nI k)).2.1 (m_goHour (nR RA a b d) RS RN 0 ((RA 31 c).toNatClampNeg) (RS 15) (nI k)).2.2 z else z) 17 0 z
theorem lgc {x y : Int64} : 0 ≤ lg_cmp x y ↔ y.toInt ≤ x.toInt := by
  constructor
  · intro h
    have : ¬ lg_cmp x y < 0 := Int32.not_lt.mpr h
    rw [kcmp_lt] at this; omega
  · intro h
    have : ¬ lg_cmp x y < 0 := by rw [kcmp_lt]; omega
    exact Int32.not_lt.mp this
theorem bF_le : ∀ (n c q : Nat) (a b d : Nat → Int32) (z : Int64 × Int32), (bF RA RS RN n c q a b d z).1.toInt ≤ z.1.toInt := by
  intro n
  induction n with
  | zero =>
    intro c q a b d z
    unfold bF
    by_cases h : 0 ≤ lg_cmp (m_lost (nR RA a b d) RS RN) z.1
    · rw [if_pos h]; exact Int.le_refl _
    · rw [if_neg h]; rw [lgc] at h; show (m_lost (nR RA a b d) RS RN).toInt ≤ _; omega
  | succ n ih =>
    intro c q a b d z
    have L : ∀ (m i : Nat) (z : Int64 × Int32), (oF (fun k z => if okS RS RN k then bF RA RS RN n (c + 1) (17 * q + k) (m_goHour (nR RA a b d) RS RN 0 ((RA 31 c).toNatClampNeg) (RS 15) (nI k)).1 (m_goHour (nR RA a b d) RS RN 0 ((RA 31 c).toNatClampNeg) (RS 15) (nI k)).2.1 (m_goHour (nR RA a b d) RS RN 0 ((RA 31 c).toNatClampNeg) (RS 15) (nI k)).2.2 z else z) m i z).1.toInt ≤ z.1.toInt := by
      intro m
      induction m with
      | zero => intro i z; exact Int.le_refl _
      | succ m im =>
        intro i z
        refine Int.le_trans (im (i + 1) _) ?_
        show (if okS RS RN i then _ else z).1.toInt ≤ _
        by_cases h : okS RS RN i = true
        · rw [if_pos h]; exact ih _ _ _ _ _ _
        · rw [if_neg h]; exact Int.le_refl _
    exact L 17 0 z
/-- nothing better behind a prefix that is no better -/
theorem bF_cut (hM : mI RA RS RN) (hB : rB RA RS RN) (hC : mC RA RS RN) : ∀ (n c q : Nat) (a b d : Nat → Int32) (z : Int64 × Int32), z.1.toInt ≤ (m_lost (nR RA a b d) RS RN).toInt → bF RA RS RN n c q a b d z = z := by
  intro n
  induction n with
  | zero => intro c q a b d z h; unfold bF; rw [if_pos (lgc.mpr h)]
  | succ n ih =>
    intro c q a b d z h
    show oF _ 17 0 z = z
    have hM' : mI (nR RA a b d) RS RN := hM
    have hB' : rB (nR RA a b d) RS RN := hB
    have hC' : mC (nR RA a b d) RS RN := mC_of hC rfl rfl rfl rfl rfl rfl
    refine (oF_congr (g := fun _ z => z) (fun y => y = z) 17 0 z (fun k y _ _ hy => ?_) rfl).1.trans ?_
    · subst hy
      refine ⟨?_, rfl⟩
      by_cases c1 : okS RS RN k = true
      · rw [if_pos c1]
        refine ih _ _ _ _ _ _ (Int.le_trans h ?_)
        exact (lost_mono (RA := nR RA a b d) (RA' := nR RA (m_goHour (nR RA a b d) RS RN 0 ((RA 31 c).toNatClampNeg) (RS 15) (nI k)).1 (m_goHour (nR RA a b d) RS RN 0 ((RA 31 c).toNatClampNeg) (RS 15) (nI k)).2.1 (m_goHour (nR RA a b d) RS RN 0 ((RA 31 c).toNatClampNeg) (RS 15) (nI k)).2.2) hM' hB' hC' rfl rfl rfl rfl rfl rfl (fun j _ => hour_ge (RA := nR RA a b d))).2.1
      · rw [if_neg c1]
    · have : ∀ (m i : Nat), oF (fun (_ : Nat) (z : Int64 × Int32) => z) m i z = z := by
        intro m
        induction m with
        | zero => intro i; rfl
        | succ m im => intro i; exact im (i + 1)
      exact this 17 0
/-- .. a row of no work at all always is -/
theorem bF_lt (hM : mI RA RS RN) (hB : rB RA RS RN) (hC : mC RA RS RN) : ∀ (n c q : Nat) (a b d : Nat → Int32) (z : Int64 × Int32), (bF RA RS RN n c q a b d z).1.toInt ≤ 80000000000000 := by
  intro n
  induction n with
  | zero =>
    intro c q a b d z
    have hC' : mC (nR RA a b d) RS RN := mC_of hC rfl rfl rfl rfl rfl rfl
    have m := (lost_mono (RA := nR RA a b d) (RA' := nR RA a b d) hM hB hC' rfl rfl rfl rfl rfl rfl (fun j _ => Int.le_refl _)).2.2
    unfold bF
    by_cases h : 0 ≤ lg_cmp (m_lost (nR RA a b d) RS RN) z.1
    · rw [if_pos h]; rw [lgc] at h; omega
    · rw [if_neg h]; exact m
  | succ n ih =>
    intro c q a b d z
    obtain ⟨f, hf⟩ : ∃ f : Nat → Int64 × Int32 → Int64 × Int32, f = (fun k z => if okS RS RN k then bF RA RS RN n (c + 1) (17 * q + k) (m_goHour (nR RA a b d) RS RN 0 ((RA 31 c).toNatClampNeg) (RS 15) (nI k)).1 (m_goHour (nR RA a b d) RS RN 0 ((RA 31 c).toNatClampNeg) (RS 15) (nI k)).2.1 (m_goHour (nR RA a b d) RS RN 0 ((RA 31 c).toNatClampNeg) (RS 15) (nI k)).2.2 z else z) := ⟨_, rfl⟩
    show (oF (fun k z => if okS RS RN k then bF RA RS RN n (c + 1) (17 * q + k) (m_goHour (nR RA a b d) RS RN 0 ((RA 31 c).toNatClampNeg) (RS 15) (nI k)).1 (m_goHour (nR RA a b d) RS RN 0 ((RA 31 c).toNatClampNeg) (RS 15) (nI k)).2.1 (m_goHour (nR RA a b d) RS RN 0 ((RA 31 c).toNatClampNeg) (RS 15) (nI k)).2.2 z else z) (16 + 1) 0 z).1.toInt ≤ _
    rw [← hf, oF_add]
    show (f 16 (oF f 16 0 z)).1.toInt ≤ _
    obtain ⟨y, hy⟩ : ∃ y, y = oF f 16 0 z := ⟨_, rfl⟩
    rw [← hy, hf]
    dsimp only
    rw [if_pos (show okS RS RN 16 = true from okS_i.mpr (Or.inl rfl))]
    exact ih _ _ _ _ _ _
/-- a row of the reference, from the c-th hour on -/
def rowB (RA : Nat → Nat → Int32) (RS : Nat → Int32) (RN : Nat → Nat) (s38 : Int32) (v1 n c : Nat) (f : Int32) (a b d : Nat → Int32) (i : Nat) (z : Int64 × Int32) : Int64 × Int32 :=
  if (m_bestRow_L32 RA RS RN s38 v1 i n c f a b d).1 = 0 then (if 0 ≤ lg_cmp 1152921504606846976 z.1 then z else (1152921504606846976, nI i)) else
    (if 0 ≤ lg_cmp (m_lost (nR RA (m_bestRow_L32 RA RS RN s38 v1 i n c f a b d).2.1 (m_bestRow_L32 RA RS RN s38 v1 i n c f a b d).2.2.1 (m_bestRow_L32 RA RS RN s38 v1 i n c f a b d).2.2.2) (va_up RS 38 s38) RN) z.1 then z else
      (m_lost (nR RA (m_bestRow_L32 RA RS RN s38 v1 i n c f a b d).2.1 (m_bestRow_L32 RA RS RN s38 v1 i n c f a b d).2.2.1 (m_bestRow_L32 RA RS RN s38 v1 i n c f a b d).2.2.2) (va_up RS 38 s38) RN, nI i))
theorem L32_0 {s38 : Int32} {v1 i : Nat} : ∀ (n c : Nat) (a b d : Nat → Int32), (m_bestRow_L32 RA RS RN s38 v1 i n c 0 a b d).1 = 0 := by
  intro n
  induction n with
  | zero => intro c a b d; rw [m_bestRow_L32.eq_1]
  | succ n ih => intro c a b d; rw [m_bestRow_L32.eq_2, if_pos rfl]; exact ih _ _ _ _
theorem big60 : (1152921504606846976 : Int64).toInt = 1152921504606846976 := by decide
theorem rowB_no {s38 : Int32} {v1 n c : Nat} {a b d : Nat → Int32} {i : Nat} {z : Int64 × Int32} (hz : z.1.toInt ≤ 1152921504606846976) : rowB RA RS RN s38 v1 n c 0 a b d i z = z := by
  unfold rowB
  rw [if_pos (L32_0 n c a b d), if_pos (lgc.mpr (by rw [big60]; exact hz))]
theorem rowB_0 {s38 : Int32} {v1 c : Nat} {a b d : Nat → Int32} {i : Nat} {z : Int64 × Int32} : rowB RA RS RN s38 v1 0 c 1 a b d i z = bF RA (va_up RS 38 s38) RN 0 c i a b d z := by
  unfold rowB bF
  rw [m_bestRow_L32.eq_1]
  dsimp only
  rw [if_neg (show ¬ (1 : Int32) = 0 by decide)]
theorem rowB_1 {s38 : Int32} {v1 n c k : Nat} {a b d : Nat → Int32} {i : Nat} {z : Int64 × Int32} (hz : z.1.toInt ≤ 1152921504606846976) (hk : (i / m_power 17 (v1 - 1 - c)) % 17 = k) : rowB RA RS RN s38 v1 (n + 1) c 1 a b d i z =
    if okS (va_up RS 38 s38) RN k then rowB RA RS RN s38 v1 n (c + 1) 1 (m_goHour (nR RA a b d) (va_up RS 38 s38) RN 0 ((RA 31 c).toNatClampNeg) (RS 15) (nI k)).1 (m_goHour (nR RA a b d) (va_up RS 38 s38) RN 0 ((RA 31 c).toNatClampNeg) (RS 15) (nI k)).2.1 (m_goHour (nR RA a b d) (va_up RS 38 s38) RN 0 ((RA 31 c).toNatClampNeg) (RS 15) (nI k)).2.2 i z else z := by
  have hk17 : k < 17 := by rw [← hk]; exact Nat.mod_lt _ (by omega)
  have no : ∀ a b d, rowB RA RS RN s38 v1 n (c + 1) 0 a b d i z = z := fun a b d => rowB_no hz
  have no2 := no a b d
  unfold rowB at no2 ⊢
  rw [m_bestRow_L32.eq_2, if_neg (show ¬ (1 : Int32) = 0 by decide), hk]
  by_cases c1 : k = 16
  · subst c1
    rw [if_pos (show nI 16 = 16 from rfl), if_pos (show okS (va_up RS 38 s38) RN 16 = true from okS_i.mpr (Or.inl rfl))]
    rfl
  · rw [if_neg (show ¬ nI k = 16 from fun q => c1 ((nI_eq (a := k) (b := 16) (by omega) (by omega)).mp q))]
    by_cases c2 : nI (RN 4) ≤ nI (k / 2)
    · rw [if_pos c2, if_neg (show ¬ okS (va_up RS 38 s38) RN k = true from fun q => by rcases okS_i.mp q with q | q; exact c1 q; exact q.1 c2)]
      exact no2
    · rw [if_neg c2]
      by_cases c3 : m_has (RS 26) (nI (k / 2)) = 0
      · rw [if_pos c3, if_neg (show ¬ okS (va_up RS 38 s38) RN k = true from fun q => by rcases okS_i.mp q with q | q; exact c1 q; exact q.2 c3)]
        exact no2
      · rw [if_neg c3, if_pos (show okS (va_up RS 38 s38) RN k = true from okS_i.mpr (Or.inr ⟨c2, c3⟩))]
        rfl
theorem en_B (s38 : Int32) : ∀ (n c v1 q : Nat) (a b d : Nat → Int32) (z : Int64 × Int32), c + n = v1 → z.1.toInt ≤ 1152921504606846976 → oF (rowB RA RS RN s38 v1 n c 1 a b d) (17 ^ n) (q * 17 ^ n) z = bF RA (va_up RS 38 s38) RN n c q a b d z := by
  intro n
  induction n with
  | zero =>
    intro c v1 q a b d z _ _
    show rowB RA RS RN s38 v1 0 c 1 a b d (q * 17 ^ 0) z = _
    rw [rowB_0, Nat.pow_zero, Nat.mul_one]
  | succ n ih =>
    intro c v1 q a b d z hc hz
    have pos : 0 < 17 ^ n := Nat.pow_pos (by omega)
    have piece : ∀ k z, k < 17 → z.1.toInt ≤ 1152921504606846976 → oF (rowB RA RS RN s38 v1 (n + 1) c 1 a b d) (17 ^ n) ((17 * q + k) * 17 ^ n) z = if okS (va_up RS 38 s38) RN k then bF RA (va_up RS 38 s38) RN n (c + 1) (17 * q + k) (m_goHour (nR RA a b d) (va_up RS 38 s38) RN 0 ((RA 31 c).toNatClampNeg) (RS 15) (nI k)).1 (m_goHour (nR RA a b d) (va_up RS 38 s38) RN 0 ((RA 31 c).toNatClampNeg) (RS 15) (nI k)).2.1 (m_goHour (nR RA a b d) (va_up RS 38 s38) RN 0 ((RA 31 c).toNatClampNeg) (RS 15) (nI k)).2.2 z else z := by
      intro k z hk hz
      have dig : ∀ j, (17 * q + k) * 17 ^ n ≤ j → j < (17 * q + k) * 17 ^ n + 17 ^ n → (j / m_power 17 (v1 - 1 - c)) % 17 = k := by
        intro j h1 h2
        rw [pow_eq, show v1 - 1 - c = n by omega]
        have h3 : j / 17 ^ n = 17 * q + k := by
          have e : (17 * q + k) * 17 ^ n + 17 ^ n = (17 * q + k + 1) * 17 ^ n := by rw [Nat.add_mul (17 * q + k) 1, Nat.one_mul]
          rw [e] at h2
          exact Nat.div_eq_of_lt_le h1 h2
        rw [h3]; omega
      by_cases c1 : okS (va_up RS 38 s38) RN k = true
      · rw [if_pos c1, ← ih (c + 1) v1 (17 * q + k) _ _ _ z (by omega) hz]
        refine (oF_congr (fun z => z.1.toInt ≤ 1152921504606846976) _ _ _ (fun j y h1 h2 hy => ?_) hz).1
        rw [rowB_1 hy (dig j h1 h2), if_pos c1]
        refine ⟨rfl, ?_⟩
        unfold rowB
        split
        · split
          · exact hy
          · exact Int.le_of_eq big60
        · split
          · exact hy
          · rename_i _ h9; rw [lgc] at h9; dsimp only; omega
      · rw [if_neg c1]
        refine ((oF_congr (g := fun _ z => z) (fun z => z.1.toInt ≤ 1152921504606846976) _ _ _ (fun j y h1 h2 hy => ?_) hz).1).trans ?_
        · rw [rowB_1 hy (dig j h1 h2), if_neg c1]
          exact ⟨rfl, hy⟩
        · have : ∀ (m i : Nat) (z : Int64 × Int32), oF (fun (_ : Nat) (z : Int64 × Int32) => z) m i z = z := by
            intro m
            induction m with
            | zero => intro i z; rfl
            | succ m im => intro i z; exact im (i + 1) z
          exact this _ _ _
    have L : ∀ (m i : Nat) (z : Int64 × Int32), i + m ≤ 17 → z.1.toInt ≤ 1152921504606846976 → oF (rowB RA RS RN s38 v1 (n + 1) c 1 a b d) (m * 17 ^ n) ((17 * q + i) * 17 ^ n) z = oF (fun k z => if okS (va_up RS 38 s38) RN k then bF RA (va_up RS 38 s38) RN n (c + 1) (17 * q + k) (m_goHour (nR RA a b d) (va_up RS 38 s38) RN 0 ((RA 31 c).toNatClampNeg) (RS 15) (nI k)).1 (m_goHour (nR RA a b d) (va_up RS 38 s38) RN 0 ((RA 31 c).toNatClampNeg) (RS 15) (nI k)).2.1 (m_goHour (nR RA a b d) (va_up RS 38 s38) RN 0 ((RA 31 c).toNatClampNeg) (RS 15) (nI k)).2.2 z else z) m i z := by
      intro m
      induction m with
      | zero => intro i z _ _; rw [Nat.zero_mul]; rfl
      | succ m im =>
        intro i z him hz
        rw [Nat.add_mul m 1, Nat.one_mul, Nat.add_comm (m * 17 ^ n), oF_add, piece i z (by omega) hz, show (17 * q + i) * 17 ^ n + 17 ^ n = (17 * q + (i + 1)) * 17 ^ n by rw [← Nat.add_assoc, Nat.add_mul (17 * q + i) 1, Nat.one_mul]]
        refine im (i + 1) _ (by omega) ?_
        by_cases c1 : okS (va_up RS 38 s38) RN i = true
        · rw [if_pos c1]; exact Int.le_trans (bF_le _ _ _ _ _ _ _) hz
        · rw [if_neg c1]; exact hz
    have e := L 17 0 z (by omega) hz
    rw [show q * 17 ^ (n + 1) = (17 * q + 0) * 17 ^ n by rw [Nat.pow_succ, Nat.mul_comm (17 ^ n), ← Nat.mul_assoc, Nat.mul_comm q]; rfl, Nat.pow_succ, Nat.mul_comm (17 ^ n)]
    exact e
end SBEST
