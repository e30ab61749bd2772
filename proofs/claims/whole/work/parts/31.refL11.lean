/-- how many of the first items are roofs -/
def tR (f : Nat → Int32) : Nat → Nat
  | 0 => 0
  | k + 1 => tR f k + (if f (7 * k) = 114 then 1 else 0)
/-- how many of the first items are B's of the roof a -/
def tB (f : Nat → Int32) (a : Int32) : Nat → Nat
  | 0 => 0
  | k + 1 => tB f a k + (if f (7 * k) = 98 ∧ f (7 * k + 1) = a then 1 else 0)
def vOk1 (f : Nat → Int32) (k : Nat) : Prop := itOk f (7 * k) ∧ (f (7 * k) = 114 → tR f k < 8) ∧ (f (7 * k) = 98 → tB f (f (7 * k + 1)) k < 4 ∧ (f (7 * k + 1)).toInt < tR f k) ∧ (f (7 * k) = 112 → (f (7 * k + 1)).toInt < tR f k) ∧ (f (7 * k) = 99 → f (7 * k + 2) + f (7 * k + 3) + f (7 * k + 4) = 10)
def vOk (f : Nat → Int32) (n : Nat) : Prop := ∀ k, k < n → vOk1 f k
theorem tR_congr {f g : Nat → Int32} {n : Nat} (h : ∀ j, j < 7 * n → f j = g j) : ∀ k, k ≤ n → tR f k = tR g k := by
  intro k
  induction k with
  | zero => intro _; rfl
  | succ k ih => intro hk; rw [tR, tR, ih (by omega), h (7 * k) (by omega)]
theorem tB_congr {f g : Nat → Int32} {n : Nat} (h : ∀ j, j < 7 * n → f j = g j) (a : Int32) : ∀ k, k ≤ n → tB f a k = tB g a k := by
  intro k
  induction k with
  | zero => intro _; rfl
  | succ k ih => intro hk; rw [tB, tB, ih (by omega), h (7 * k) (by omega), h (7 * k + 1) (by omega)]
theorem numbersOf_le (c : Int32) : (m_numbersOf c).toInt ≤ 6 := by
  unfold m_numbersOf
  repeat' split
  all_goals decide
theorem itOk_congr {f g : Nat → Int32} {b : Nat} (h : ∀ j, j ≤ 6 → f (b + j) = g (b + j)) (hf : itOk f b) : itOk g b := by
  have h0 : f b = g b := h 0 (by omega)
  refine ⟨by rw [← h0]; exact hf.1, fun j h1 h2 => ?_⟩
  have h6 := numbersOf_le (g b)
  rw [← h0] at h2 h6
  rw [← h0, ← h j (by omega)]
  exact hf.2 j h1 h2
theorem vOk1_congr {f g : Nat → Int32} {k : Nat} (h : ∀ j, j < 7 * (k + 1) → f j = g j) (hf : vOk1 f k) : vOk1 g k := by
  obtain ⟨h1, h2, h3, h4, h5⟩ := hf
  have e0 := h (7 * k) (by omega)
  have e1 := h (7 * k + 1) (by omega)
  have e2 := h (7 * k + 2) (by omega)
  have e3 := h (7 * k + 3) (by omega)
  have e4 := h (7 * k + 4) (by omega)
  have eR := tR_congr h k (by omega)
  have eB := fun a => tB_congr h a k (by omega)
  refine ⟨itOk_congr (fun j hj => h _ (by omega)) h1, ?_, ?_, ?_, ?_⟩
  · rw [← e0, ← eR]; exact h2
  · rw [← e0, ← e1, ← eR, ← eB]; exact h3
  · rw [← e0, ← e1, ← eR]; exact h4
  · rw [← e0, ← e2, ← e3, ← e4]; exact h5
theorem vOk_congr {f g : Nat → Int32} {n : Nat} (h : ∀ j, j < 7 * n → f j = g j) (hf : vOk f n) : vOk g n := fun k hk => vOk1_congr (fun j hj => h j (by omega)) (hf k hk)
theorem tR_8 {f : Nat → Int32} {n : Nat} (h : vOk f n) : ∀ k, k ≤ n → tR f k ≤ 8 := by
  intro k
  induction k with
  | zero => intro _; exact Nat.zero_le _
  | succ k ih =>
    intro hk
    rw [tR]
    have h1 := ih (by omega)
    have h2 := (h k (by omega)).2.1
    split
    · next e => have := h2 e; omega
    · omega
theorem tB_4 {f : Nat → Int32} {n : Nat} (h : vOk f n) (a : Int32) : ∀ k, k ≤ n → tB f a k ≤ 4 := by
  intro k
  induction k with
  | zero => intro _; exact Nat.zero_le _
  | succ k ih =>
    intro hk
    rw [tB]
    have h1 := ih (by omega)
    have h2 := (h k (by omega)).2.2.1
    split
    · next e => have h3 := (h2 e.1).1; rw [e.2] at h3; omega
    · omega
theorem told_R {RA : Nat → Nat → Int32} : ∀ (n i : Nat), m_told_L5 RA 114 (-4) n i (nI (tR (RA 2) i)) = nI (tR (RA 2) (i + n)) := by
  intro n
  induction n with
  | zero => intro i; rfl
  | succ n ih =>
    intro i
    have e : i + (n + 1) = i + 1 + n := by omega
    rw [m_told_L5.eq_2, e, ← ih (i + 1), tR]
    split
    · rw [if_pos (by decide)]; congr 1
      exact nI_add _ _
    · congr 1
      exact nI_add _ _
theorem told_B {RA : Nat → Nat → Int32} {a : Int32} (ha : 0 ≤ a.toInt) : ∀ (n i : Nat), m_told_L5 RA 98 a n i (nI (tB (RA 2) a i)) = nI (tB (RA 2) a (i + n)) := by
  have hn : ¬ a < 0 := by rw [Int32.lt_iff_toInt_lt, k0I]; omega
  intro n
  induction n with
  | zero => intro i; rfl
  | succ n ih =>
    intro i
    have e : i + (n + 1) = i + 1 + n := by omega
    rw [m_told_L5.eq_2, e, ← ih (i + 1), tB, if_neg hn]
    split
    · next e1 =>
      split
      · next e2 => rw [if_pos ⟨e1, e2⟩]; congr 1; exact nI_add _ _
      · next e2 => rw [if_neg (fun q => e2 q.2)]; congr 1; exact nI_add _ _
    · next e1 => rw [if_neg (fun q => e1 q.1)]; congr 1; exact nI_add _ _
theorem m_told_R (RA : Nat → Nat → Int32) (RN : Nat → Nat) : m_told RA RN 114 (-4) = nI (tR (RA 2) (RN 3)) := by
  have := told_R (RA := RA) (RN 3) 0
  rw [Nat.zero_add] at this
  exact this
theorem m_told_B (RA : Nat → Nat → Int32) (RN : Nat → Nat) {a : Int32} (ha : 0 ≤ a.toInt) : m_told RA RN 98 a = nI (tB (RA 2) a (RN 3)) := by
  have := told_B (RA := RA) ha (RN 3) 0
  rw [Nat.zero_add] at this
  exact this
theorem tR_le (f : Nat → Int32) : ∀ k, tR f k ≤ k := by
  intro k
  induction k with
  | zero => exact Nat.le_refl _
  | succ k ih => rw [tR]; split <;> omega
theorem tB_le (f : Nat → Int32) (a : Int32) : ∀ k, tB f a k ≤ k := by
  intro k
  induction k with
  | zero => exact Nat.le_refl _
  | succ k ih => rw [tB]; split <;> omega
/-- what an item that is read is -/
theorem rd_reads (RA : Nat → Nat → Int32) (RN : Nat → Nat) (i : Nat) : ∃ v, (m_reads RA RN i).2.1 = upd (RA 2) (7 * RN 3 + 1 + i) v := by
  unfold m_reads m_reads_k7
  split <;> exact ⟨_, rfl⟩
/-- the first i numbers of the item at b are in their ranges -/
def itTo (f : Nat → Int32) (b : Nat) (c : Int32) (i : Nat) : Prop := ∀ j : Nat, 1 ≤ j → j ≤ i → (m_leastOf c (nI (j - 1))).toInt ≤ (f (b + j)).toInt ∧ (f (b + j)).toInt ≤ (m_mostOf c (nI (j - 1))).toInt
theorem itTo_next {RA : Nat → Nat → Int32} {RN : Nat → Nat} {a2 : Nat → Int32} {n35 : Nat} {c : Int32} {i : Nat} (h : itTo a2 (7 * RN 3) c i) {r : Int32 × (Nat → Int32) × Nat} (hr : r = m_reads (va_up RA 2 a2) (va_up RN 35 n35) i) (hin : ¬ m_in (r.2.1 (7 * RN 3 + 1 + i)).toInt64 (m_leastOf c (nI i)).toInt64 (m_mostOf c (nI i)).toInt64 = 0) : itTo r.2.1 (7 * RN 3) c (i + 1) := by
  obtain ⟨v, hv⟩ := rd_reads (va_up RA 2 a2) (va_up RN 35 n35) i
  rw [← hr] at hv
  have hv' : r.2.1 = upd a2 (7 * RN 3 + 1 + i) v := hv
  have h2 := m_in_t hin
  rw [ki2l, ki2l] at h2
  intro j h1 hj
  by_cases e : j = i + 1
  · subst e
    have : 7 * RN 3 + (i + 1) = 7 * RN 3 + 1 + i := by omega
    rw [this]
    exact h2
  · have := h j h1 (by omega)
    rw [hv', pk_un (by omega)]
    exact this
theorem rd_frame {RA : Nat → Nat → Int32} {RN : Nat → Nat} {a2 : Nat → Int32} {n35 : Nat} {i : Nat} {r : Int32 × (Nat → Int32) × Nat} (hr : r = m_reads (va_up RA 2 a2) (va_up RN 35 n35) i) {j : Nat} (hj : j ≤ 7 * RN 3) : r.2.1 j = a2 j := by
  obtain ⟨v, hv⟩ := rd_reads (va_up RA 2 a2) (va_up RN 35 n35) i
  rw [← hr] at hv
  have hv' : r.2.1 = upd a2 (7 * RN 3 + 1 + i) v := hv
  rw [hv', pk_un (by omega)]
