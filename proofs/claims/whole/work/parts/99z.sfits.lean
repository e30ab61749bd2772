/-! may a text be laid: both sides ask the same -/
section SFITS
variable {RA : Nat → Nat → Int32} {RS : Nat → Int32} {RN : Nat → Nat} {A : Nat → Nat → Int32} {N : Nat → Nat} {pl : Nat → Nat → Int32} {ps : Nat → Int32} {f : Nat → Int32} {n : Nat}
theorem st_8 (k : Nat) (T : lyT) : (f (7 * k) = 114 → (stT RA RS RN f k T).2.2.2.1 = upd T.2.2.2.1 T.2.2.2.2.2.2.2.2.2.2.2.1 (f (7 * k + 6))) ∧ (¬ f (7 * k) = 114 → (stT RA RS RN f k T).2.2.2.1 = T.2.2.2.1) := by
  unfold stT m_layItem
  have e : nbA RA f T 2 = f := rfl
  rw [e]
  refine ⟨fun h => ?_, fun h => ?_⟩
  · rw [if_neg (show ¬ f (7 * k) = 98 by rw [h]; decide), if_neg (show ¬ f (7 * k) = 99 by rw [h]; decide), if_neg (show ¬ f (7 * k) = 103 by rw [h]; decide), if_neg (show ¬ f (7 * k) = 104 by rw [h]; decide), if_neg (show ¬ f (7 * k) = 107 by rw [h]; decide), if_neg (show ¬ f (7 * k) = 111 by rw [h]; decide), if_neg (show ¬ f (7 * k) = 112 by rw [h]; decide), if_pos h]
    rfl
  · repeat' split
    all_goals first
      | rfl
      | contradiction
theorem tR_mono : ∀ {k m : Nat}, k ≤ m → tR f k ≤ tR f m := by
  intro k m
  induction m with
  | zero => intro h; rw [show k = 0 by omega]; exact Nat.le_refl _
  | succ m ih =>
    intro h
    by_cases c : k = m + 1
    · rw [c]; exact Nat.le_refl _
    · have := ih (by omega)
      rw [tR]; omega
theorem thr_L (hM : mI RA RS RN) (hv : vOk f n) : ∀ k, k ≤ n → (∀ q, q < k → f (7 * q) = 114 → (tK RA RS RN f k).2.2.2.1 (tR f q) = f (7 * q + 6)) ∧ ∀ i, i < tR f k → ∃ q, q < k ∧ f (7 * q) = 114 ∧ tR f q = i := by
  intro k
  induction k with
  | zero => intro _; exact ⟨fun q hq => absurd hq (Nat.not_lt_zero q), fun i hi => absurd hi (Nat.not_lt_zero i)⟩
  | succ k ih =>
    intro hk
    obtain ⟨h1, h2⟩ := ih (by omega)
    have hL := (LI_all (RA := RA) (RS := RS) (RN := RN) hM hv k (by omega)).2.1
    have hL : (tK RA RS RN f k).2.2.2.2.2.2.2.2.2.2.2.1 = tR f k := hL
    have s8 := st_8 (RA := RA) (RS := RS) (RN := RN) (f := f) k (tK RA RS RN f k)
    rw [tK_succ]
    refine ⟨fun q hq hf => ?_, fun i hi => ?_⟩
    · by_cases c : f (7 * k) = 114
      · rw [s8.1 c, hL]
        by_cases e : q = k
        · subst e; rw [pk_us]
        · have l1 : tR f (q + 1) ≤ tR f k := tR_mono (by omega)
          rw [tR, if_pos hf] at l1
          rw [pk_un (by omega)]
          exact h1 q (by omega) hf
      · rw [s8.2 c]
        exact h1 q (by rcases Nat.lt_or_ge q k with z | z; exact z; exact absurd (by rw [show k = q by omega]; exact hf) c) hf
    · rw [tR] at hi
      by_cases c : f (7 * k) = 114
      · rw [if_pos c] at hi
        by_cases e : i = tR f k
        · exact ⟨k, by omega, c, e.symm⟩
        · obtain ⟨q, z1, z2, z3⟩ := h2 i (by omega)
          exact ⟨q, by omega, z2, z3⟩
      · rw [if_neg c] at hi
        obtain ⟨q, z1, z2, z3⟩ := h2 i (by omega)
        exact ⟨q, by omega, z2, z3⟩
def okT (x v j : Int32) : Prop := x = 8 ∨ (¬ v ≤ x ∧ ¬ x = j)
theorem L24_eq (e2 : A 2 = f) (v1 : Int32) : ∀ (n i : Nat) (v2 : Int32), (v2 = 0 ∨ v2 = 1) → ((m_mayBeLaid_L24 A v1 n i v2 (nI (tR f i))).1 = 0 ∨ (m_mayBeLaid_L24 A v1 n i v2 (nI (tR f i))).1 = 1) ∧ ((m_mayBeLaid_L24 A v1 n i v2 (nI (tR f i))).1 = 1 ↔ v2 = 1 ∧ ∀ q, i ≤ q → q < i + n → f (7 * q) = 114 → okT (f (7 * q + 6)) v1 (nI (tR f q))) := by
  intro n
  induction n with
  | zero => intro i v2 h; rw [m_mayBeLaid_L24.eq_1]; exact ⟨h, fun q => ⟨q, fun j h1 h2 => by omega⟩, fun q => q.1⟩
  | succ n ih =>
    intro i v2 h
    rw [m_mayBeLaid_L24.eq_2, e2]
    by_cases c : f (7 * i) = 114
    · have en : nI (tR f i) + 1 = nI (tR f (i + 1)) := by rw [tR, if_pos c, nI_1]
      rw [if_pos c, en]
      have no : ∀ (z : ¬ (v2 = 1 ∧ okT (f (7 * i + 6)) v1 (nI (tR f i)))), ((m_mayBeLaid_L24 A v1 n (i + 1) 0 (nI (tR f (i + 1)))).1 = 0 ∨ (m_mayBeLaid_L24 A v1 n (i + 1) 0 (nI (tR f (i + 1)))).1 = 1) ∧ ((m_mayBeLaid_L24 A v1 n (i + 1) 0 (nI (tR f (i + 1)))).1 = 1 ↔ v2 = 1 ∧ ∀ q, i ≤ q → q < i + (n + 1) → f (7 * q) = 114 → okT (f (7 * q + 6)) v1 (nI (tR f q))) := fun z => by
        obtain ⟨q1, q2⟩ := ih (i + 1) 0 (Or.inl rfl)
        refine ⟨q1, fun w => absurd (q2.mp w).1 (by decide), fun w => absurd ⟨w.1, w.2 i (Nat.le_refl _) (by omega) c⟩ z⟩
      have yes : ∀ (z : v2 = 1 ∧ okT (f (7 * i + 6)) v1 (nI (tR f i))), ((m_mayBeLaid_L24 A v1 n (i + 1) 1 (nI (tR f (i + 1)))).1 = 0 ∨ (m_mayBeLaid_L24 A v1 n (i + 1) 1 (nI (tR f (i + 1)))).1 = 1) ∧ ((m_mayBeLaid_L24 A v1 n (i + 1) 1 (nI (tR f (i + 1)))).1 = 1 ↔ v2 = 1 ∧ ∀ q, i ≤ q → q < i + (n + 1) → f (7 * q) = 114 → okT (f (7 * q + 6)) v1 (nI (tR f q))) := fun z => by
        obtain ⟨q1, q2⟩ := ih (i + 1) 1 (Or.inr rfl)
        refine ⟨q1, fun w => ⟨z.1, fun q h1 h2 h3 => ?_⟩, fun w => q2.mpr ⟨rfl, fun q h1 h2 h3 => w.2 q (by omega) (by omega) h3⟩⟩
        by_cases e : q = i
        · rw [e]; exact z.2
        · exact (q2.mp w).2 q (by omega) (by omega) h3
      by_cases c0 : v2 = 0
      · rw [if_pos c0]; exact no (fun z => by rw [c0] at z; exact absurd z.1 (by decide))
      · have c1 : v2 = 1 := by rcases h with h | h; exact absurd h c0; exact h
        rw [if_neg c0]
        by_cases d1 : f (7 * i + 6) = 8
        · rw [if_pos d1]; exact yes ⟨c1, Or.inl d1⟩
        · rw [if_neg d1]
          by_cases d2 : v1 ≤ f (7 * i + 6)
          · rw [if_pos d2]; exact no (fun z => by rcases z.2 with z | z; exact d1 z; exact z.1 d2)
          · rw [if_neg d2]
            by_cases d3 : f (7 * i + 6) = nI (tR f i)
            · rw [if_pos d3]; exact no (fun z => by rcases z.2 with z | z; exact d1 z; exact z.2 d3)
            · rw [if_neg d3]; exact yes ⟨c1, Or.inr ⟨d2, d3⟩⟩
    · have en : nI (tR f i) = nI (tR f (i + 1)) := by rw [tR, if_neg c]; rfl
      rw [if_neg c, en]
      obtain ⟨q1, q2⟩ := ih (i + 1) v2 h
      refine ⟨q1, fun w => ⟨(q2.mp w).1, fun q h1 h2 h3 => ?_⟩, fun w => q2.mpr ⟨w.1, fun q h1 h2 h3 => w.2 q (by omega) (by omega) h3⟩⟩
      exact (q2.mp w).2 q (by rcases Nat.lt_or_ge i q with z | z; omega; exact absurd (by rw [show i = q by omega]; exact h3) c) (by omega) h3
theorem L133_eq (e2 : A 2 = f) (r : Nat) : ∀ (n i : Nat) (v : Int32), (∀ q, i ≤ q → q < i + n → f (7 * q) = 98 → 0 ≤ (f (7 * q + 3)).toInt ∧ (f (7 * q + 3)).toInt ≤ 10) → 0 ≤ v.toInt → v.toInt + 10 * n ≤ 1000000 → (m_mayBeLaid_L133 A r n i v).toInt = v.toInt + (sB f (nI r) (i + n) - sB f (nI r) i) := by
  intro n
  induction n with
  | zero => intro i v _ _ _; rw [m_mayBeLaid_L133.eq_1, Nat.add_zero]; omega
  | succ n ih =>
    intro i v hb h0 h1
    rw [m_mayBeLaid_L133.eq_2, e2, show i + (n + 1) = i + 1 + n by omega]
    have hb2 : ∀ q, i + 1 ≤ q → q < i + 1 + n → f (7 * q) = 98 → 0 ≤ (f (7 * q + 3)).toInt ∧ (f (7 * q + 3)).toInt ≤ 10 := fun q h2 h3 => hb q (by omega) (by omega)
    have es : sB f (nI r) (i + 1) = sB f (nI r) i + (if f (7 * i) = 98 ∧ f (7 * i + 1) = nI r then (f (7 * i + 3)).toInt else 0) := rfl
    have z : (v + 0).toInt = v.toInt := by rw [Int32.add_zero]
    by_cases c : f (7 * i) = 98
    · rw [if_pos c]
      by_cases d : f (7 * i + 1) = nI r
      · have hb3 := hb i (Nat.le_refl _) (by omega) c
        have a : (v + f (7 * i + 3)).toInt = v.toInt + (f (7 * i + 3)).toInt := ti_add (by omega) (by omega)
        rw [if_pos ⟨c, d⟩] at es
        rw [if_pos d, ih (i + 1) _ hb2 (by omega) (by omega), a]
        omega
      · rw [if_neg (fun q => d q.2)] at es
        rw [if_neg d, ih (i + 1) _ hb2 (by omega) (by omega), z]
        omega
    · rw [if_neg (fun q => c q.1)] at es
      rw [if_neg c, ih (i + 1) _ hb2 (by omega) (by omega), z]
      omega
theorem tB_0 (a : Int32) : ∀ k, tB f a k = 0 → sB f a k = 0 := by
  intro k
  induction k with
  | zero => intro _; rfl
  | succ k ih =>
    intro h
    rw [tB] at h
    rw [sB]
    by_cases c : f (7 * k) = 98 ∧ f (7 * k + 1) = a
    · rw [if_pos c] at h; omega
    · rw [if_neg c] at h; rw [if_neg c, ih (by omega)]; rfl
theorem tB_far (hv : vOk f n) {r : Nat} (hr : tR f n ≤ r) (h31 : r < 2 ^ 31) : ∀ k, k ≤ n → tB f (nI r) k = 0 := by
  intro k
  induction k with
  | zero => intro _; rfl
  | succ k ih =>
    intro hk
    rw [tB, ih (by omega)]
    by_cases c : f (7 * k) = 98 ∧ f (7 * k + 1) = nI r
    · have h1 := ((hv k (by omega)).2.2.1 c.1).2
      rw [c.2, nI_toInt h31] at h1
      have := tR_mono (f := f) (k := k) (m := n) (by omega)
      omega
    · rw [if_neg c]
theorem b104_eq (e2 : A 2 = f) (e3 : N 3 = n) (hn : n ≤ 170) (hv : vOk f n) {r : Nat} (hr : r < 8) {v2 : Int32} : (m_mayBeLaid_b104 A N r v2 = 0 ∨ m_mayBeLaid_b104 A N r v2 = 1) ∧ (m_mayBeLaid_b104 A N r v2 = 1 ↔ ¬ v2 = 0 ∧ (tB f (nI r) n = 0 ∨ sB f (nI r) n = 10)) := by
  have hb : ∀ q, 0 ≤ q → q < 0 + n → f (7 * q) = 98 → 0 ≤ (f (7 * q + 3)).toInt ∧ (f (7 * q + 3)).toInt ≤ 10 := fun q _ hq c => itOk_at (hv q (by omega)).1 c 3 0 10
  have t4 := tB_4 hv (nI r) n (Nat.le_refl _)
  have hr0 : 0 ≤ (nI r).toInt := by rw [nI_toInt (by omega)]; omega
  have i10 : (10 : Int32).toInt = 10 := by decide
  have fin : ∀ v5 : Int32, (m_mayBeLaid_b104_k133 v2 v5 = 0 ∨ m_mayBeLaid_b104_k133 v2 v5 = 1) ∧ (m_mayBeLaid_b104_k133 v2 v5 = 1 ↔ ¬ v2 = 0 ∧ v5.toInt = 10) := fun v5 => by
    unfold m_mayBeLaid_b104_k133
    by_cases c : v2 = 0
    · rw [if_pos c]; exact ⟨Or.inl rfl, fun q => absurd q (by decide), fun q => absurd c q.1⟩
    · rw [if_neg c]
      by_cases d : v5 = 10
      · rw [if_pos d]; exact ⟨Or.inr rfl, fun _ => ⟨c, by rw [d]; decide⟩, fun _ => rfl⟩
      · rw [if_neg d]; exact ⟨Or.inl rfl, fun q => absurd q (by decide), fun q => absurd (Int32.toInt_inj.mp (by rw [i10]; exact q.2)) d⟩
  unfold m_mayBeLaid_b104
  rw [m_told_B _ _ hr0, e2, e3]
  have s0 : sB f (nI r) 0 = 0 := rfl
  by_cases c : tB f (nI r) n = 0
  · rw [if_pos (show nI (tB f (nI r) n) = 0 by rw [c]; rfl)]
    have q := L133_eq e2 r n 0 10 hb (by decide) (by rw [i10]; omega)
    rw [Nat.zero_add, tB_0 _ _ c, i10, s0] at q
    refine ⟨(fin _).1, (fin _).2.trans ⟨fun w => ⟨w.1, Or.inl c⟩, fun w => ⟨w.1, by rw [q]; decide⟩⟩⟩
  · rw [if_neg (show ¬ nI (tB f (nI r) n) = 0 from fun q => c ((nI_eq (a := tB f (nI r) n) (b := 0) (by omega) (by omega)).mp q))]
    have q := L133_eq e2 r n 0 0 hb (by decide) (by rw [ti_0]; omega)
    rw [Nat.zero_add, ti_0, s0] at q
    refine ⟨(fin _).1, (fin _).2.trans ⟨fun w => ⟨w.1, Or.inr (by rw [q] at w; omega)⟩, fun w => ⟨w.1, by rcases w.2 with z | z; exact absurd z c; rw [q]; omega⟩⟩⟩
theorem L104_eq (e2 : A 2 = f) (e3 : N 3 = n) (hn : n ≤ 170) (hv : vOk f n) : ∀ (m i : Nat) (v2 : Int32), i + m ≤ 8 → (v2 = 0 ∨ v2 = 1) → (m_mayBeLaid_L104 A N m i v2 = 0 ∨ m_mayBeLaid_L104 A N m i v2 = 1) ∧ (m_mayBeLaid_L104 A N m i v2 = 1 ↔ v2 = 1 ∧ ∀ r, i ≤ r → r < i + m → (tB f (nI r) n = 0 ∨ sB f (nI r) n = 10)) := by
  intro m
  induction m with
  | zero => intro i v2 _ h; rw [m_mayBeLaid_L104.eq_1]; exact ⟨h, fun q => ⟨q, fun j h1 h2 => by omega⟩, fun q => q.1⟩
  | succ m ih =>
    intro i v2 hi h
    rw [m_mayBeLaid_L104.eq_2]
    obtain ⟨b1, b2⟩ := b104_eq (A := A) (N := N) e2 e3 hn hv (r := i) (by omega) (v2 := v2)
    obtain ⟨q1, q2⟩ := ih (i + 1) _ (by omega) b1
    have hz : ¬ v2 = 0 ↔ v2 = 1 := by rcases h with h | h <;> subst h <;> decide
    refine ⟨q1, fun w => ?_, fun w => q2.mpr ⟨b2.mpr ⟨hz.mpr w.1, w.2 i (Nat.le_refl _) (by omega)⟩, fun r h1 h2 => w.2 r (by omega) (by omega)⟩⟩
    have w2 := q2.mp w
    have w3 := b2.mp w2.1
    refine ⟨hz.mp w3.1, fun r h1 h2 => ?_⟩
    by_cases e : r = i
    · rw [e]; exact w3.2
    · exact w2.2 r (by omega) (by omega)
theorem may_eq (e2 : A 2 = f) (e3 : N 3 = n) (hn : n ≤ 170) (hv : vOk f n) : ¬ m_mayBeLaid A N = 0 ↔ 0 < tR f n ∧ (∀ q, q < n → f (7 * q) = 114 → okT (f (7 * q + 6)) (nI (tR f n)) (nI (tR f q))) ∧ ∀ r, r < 8 → (tB f (nI r) n = 0 ∨ sB f (nI r) n = 10) := by
  have t8 := tR_8 hv n (Nat.le_refl _)
  unfold m_mayBeLaid m_mayBeLaid_k24 m_mayBeLaid_k104
  rw [m_told_R, e2, e3]
  have z01 : ∀ x : Int32, (x = 0 ∨ x = 1) → (¬ x = 0 ↔ x = 1) := fun x h => by rcases h with h | h <;> subst h <;> decide
  by_cases c : nI (tR f n) ≤ 0
  · rw [if_pos c]
    rw [ti_le, ti_0, nI_toInt (by omega)] at c
    obtain ⟨a1, a2⟩ := L24_eq (A := A) e2 (nI (tR f n)) n 0 0 (Or.inl rfl)
    obtain ⟨b1, b2⟩ := L104_eq (A := A) (N := N) e2 e3 hn hv 8 0 _ (by omega) a1
    rw [show nI (tR f 0) = 0 from rfl] at a2 b1 b2
    rw [z01 _ b1, b2, a2]
    exact ⟨fun w => absurd w.1.1 (by decide), fun w => by omega⟩
  · rw [if_neg c]
    rw [ti_le, ti_0, nI_toInt (by omega)] at c
    obtain ⟨a1, a2⟩ := L24_eq (A := A) e2 (nI (tR f n)) n 0 1 (Or.inr rfl)
    obtain ⟨b1, b2⟩ := L104_eq (A := A) (N := N) e2 e3 hn hv 8 0 _ (by omega) a1
    rw [show nI (tR f 0) = 0 from rfl] at a2 b1 b2
    rw [z01 _ b1, b2, a2]
    exact ⟨fun w => ⟨by omega, fun q hq => w.1.2 q (by omega) (by omega), fun r hr => w.2 r (by omega) (by omega)⟩, fun w => ⟨⟨rfl, fun q _ hq => w.2.1 q (by omega)⟩, fun r _ hr => w.2.2 r (by omega)⟩⟩
end SFITS
