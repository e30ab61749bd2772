/-! keep, back -/
section SIM6
variable {ML : Nat → Nat → Int32} {MS : Nat → Int32} {PL : Nat → Nat → Nat → Int32} {PS : Nat → Nat → Int32} {VL VL' : Nat → Nat → Nat → Int32} {VS VS' : Nat → Nat → Int32} {RA RA' : Nat → Nat → Int32} {RS RS' : Nat → Int32} {RN RN' : Nat → Nat} {b : Nat}
theorem if_cg {α : Type} {p q : Prop} [Decidable p] [Decidable q] {x y : α} (h : p ↔ q) : (if p then x else y) = if q then x else y := by
  by_cases c : p
  · rw [if_pos c, if_pos (h.mp c)]
  · rw [if_neg c, if_neg (fun d => c (h.mpr d))]
theorem st_L2 : ∀ (n i : Nat) (f : Nat → Int32), i + n ≤ 24 → (∀ j, j < 24 → m_store_L2 RA b n i f (b + j) = if i ≤ j ∧ j < i + n then RA 24 j else f (b + j)) ∧ (∀ j, j < 16 → (f (b + 24 + j) = RA 21 j ∨ (i ≤ j ∧ j < i + n)) → m_store_L2 RA b n i f (b + 24 + j) = RA 21 j) ∧ (∀ q, (q < b ∨ b + 40 ≤ q) → m_store_L2 RA b n i f q = f q) := by
  intro n
  induction n with
  | zero =>
    intro i f _
    rw [m_store_L2.eq_1]
    exact ⟨fun j hj => by rw [if_neg (by omega)], fun j hj h => by rcases h with h | h; exact h; omega, fun q _ => rfl⟩
  | succ n ih =>
    intro i f h
    rw [m_store_L2.eq_2]
    obtain ⟨h1, h2, h3⟩ := ih (i + 1) (upd (upd f (b + i) (RA 24 i)) ((b + 24) + (i % 16)) (RA 21 (i % 16))) (by omega)
    refine ⟨fun j hj => ?_, fun j hj q => ?_, fun q hq => ?_⟩
    · rw [h1 j hj, pk_un (by omega)]
      by_cases e : j = i
      · subst e; rw [if_neg (by omega), pk_us, if_pos (by omega)]
      · rw [pk_un (by omega)]
        by_cases c : i + 1 ≤ j ∧ j < i + 1 + n
        · rw [if_pos c, if_pos (by omega)]
        · rw [if_neg c, if_neg (by omega)]
    · refine h2 j hj ?_
      by_cases e : j = i % 16
      · subst e; exact Or.inl pk_us
      · rw [pk_un (by omega), pk_un (by omega)]
        rcases q with q | q
        · exact Or.inl q
        · exact Or.inr ⟨by omega, by omega⟩
    · rw [h3 q hq, pk_un (by omega), pk_un (by omega)]
theorem st_L53 : ∀ (n i : Nat) (f : Nat → Int32), i + n ≤ 8 → (∀ j, j < 8 → (m_store_L53 RA b n i f (b + 40 + j) = if i ≤ j ∧ j < i + n then RA 22 j else f (b + 40 + j)) ∧ (m_store_L53 RA b n i f (b + 48 + j) = if i ≤ j ∧ j < i + n then RA 23 j else f (b + 48 + j)) ∧ (m_store_L53 RA b n i f (b + 56 + j) = if i ≤ j ∧ j < i + n then RA 25 j else f (b + 56 + j))) ∧ (∀ q, (q < b + 40 ∨ b + 64 ≤ q) → m_store_L53 RA b n i f q = f q) := by
  intro n
  induction n with
  | zero =>
    intro i f _
    rw [m_store_L53.eq_1]
    exact ⟨fun j hj => ⟨by rw [if_neg (by omega)], by rw [if_neg (by omega)], by rw [if_neg (by omega)]⟩, fun q _ => rfl⟩
  | succ n ih =>
    intro i f h
    rw [m_store_L53.eq_2]
    obtain ⟨h1, h3⟩ := ih (i + 1) (upd (upd (upd f ((b + 40) + i) (RA 22 i)) ((b + 48) + i) (RA 23 i)) ((b + 56) + i) (RA 25 i)) (by omega)
    refine ⟨fun j hj => ?_, fun q hq => ?_⟩
    · obtain ⟨q1, q2, q3⟩ := h1 j hj
      by_cases e : j = i
      · subst e
        refine ⟨?_, ?_, ?_⟩
        · rw [q1, if_neg (by omega), pk_un (by omega), pk_un (by omega), pk_us, if_pos (by omega)]
        · rw [q2, if_neg (by omega), pk_un (by omega), pk_us, if_pos (by omega)]
        · rw [q3, if_neg (by omega), pk_us, if_pos (by omega)]
      · have cc : (i + 1 ≤ j ∧ j < i + 1 + n) ↔ (i ≤ j ∧ j < i + (n + 1)) := by omega
        refine ⟨?_, ?_, ?_⟩
        · rw [q1, pk_un (by omega), pk_un (by omega), pk_un (by omega), if_cg cc]
        · rw [q2, pk_un (by omega), pk_un (by omega), pk_un (by omega), if_cg cc]
        · rw [q3, pk_un (by omega), pk_un (by omega), pk_un (by omega), if_cg cc]
    · rw [h3 q hq, pk_un (by omega), pk_un (by omega), pk_un (by omega)]
theorem st_eq9 : ((∀ j, j < 24 → m_store RA RS RN b (b + j) = RA 24 j) ∧ (∀ j, j < 16 → m_store RA RS RN b (b + 24 + j) = RA 21 j) ∧ (∀ j, j < 8 → m_store RA RS RN b (b + 40 + j) = RA 22 j) ∧ (∀ j, j < 8 → m_store RA RS RN b (b + 48 + j) = RA 23 j) ∧ ∀ j, j < 8 → m_store RA RS RN b (b + 56 + j) = RA 25 j) ∧
    ((m_store RA RS RN b (b + 64) = RS 26 ∧ m_store RA RS RN b (b + 65) = RS 27 ∧ m_store RA RS RN b (b + 68) = RS 30) ∧ m_store RA RS RN b (b + 66) = nI (RN 28) ∧ m_store RA RS RN b (b + 67) = nI (RN 29)) ∧ ∀ q, (q < b ∨ b + 69 ≤ q) → m_store RA RS RN b q = RA 33 q := by
  obtain ⟨a1, a2, a3⟩ := st_L2 (RA := RA) (b := b) 24 0 (RA 33) (by omega)
  obtain ⟨b1, b2⟩ := st_L53 (RA := RA) (b := b) 8 0 (m_store_L2 RA b 24 0 (RA 33)) (by omega)
  unfold m_store m_store_k2 m_store_k53
  have lo : ∀ q, (q < b + 64 ∨ b + 69 ≤ q) → (upd (upd (upd (upd (upd (m_store_L53 RA b 8 0 (m_store_L2 RA b 24 0 (RA 33))) (b + 64) (RS 26)) (b + 65) (RS 27)) (b + 66) (nI (RN 28))) (b + 67) (nI (RN 29))) (b + 68) (RS 30)) q = m_store_L53 RA b 8 0 (m_store_L2 RA b 24 0 (RA 33)) q := fun q hq => by rw [pk_un (by omega), pk_un (by omega), pk_un (by omega), pk_un (by omega), pk_un (by omega)]
  refine ⟨⟨fun j hj => ?_, fun j hj => ?_, fun j hj => ?_, fun j hj => ?_, fun j hj => ?_⟩, ⟨⟨?_, ?_, pk_us⟩, ?_, ?_⟩, fun q hq => ?_⟩
  · rw [lo _ (by omega), b2 _ (by omega), a1 j hj, if_pos (by omega)]
  · rw [lo _ (by omega), b2 _ (by omega), a2 j hj (Or.inr (by omega))]
  · rw [lo _ (by omega), (b1 j hj).1, if_pos (by omega)]
  · rw [lo _ (by omega), (b1 j hj).2.1, if_pos (by omega)]
  · rw [lo _ (by omega), (b1 j hj).2.2, if_pos (by omega)]
  · rw [pk_un (by omega), pk_un (by omega), pk_un (by omega), pk_un (by omega), pk_us]
  · rw [pk_un (by omega), pk_un (by omega), pk_un (by omega), pk_us]
  · rw [pk_un (by omega), pk_un (by omega), pk_us]
  · rw [pk_un (by omega), pk_us]
  · rw [lo _ (by omega), b2 _ (by omega), a3 q (by omega)]
theorem fe_L2 : ∀ (n i : Nat) (f g : Nat → Int32), i + n ≤ 24 → (∀ j, j < 24 → (m_fetch_L2 RA b n i f g).2 j = if i ≤ j ∧ j < i + n then RA 33 (b + j) else g j) ∧ ∀ j, j < 16 → (f j = RA 33 (b + 24 + j) ∨ (i ≤ j ∧ j < i + n)) → (m_fetch_L2 RA b n i f g).1 j = RA 33 (b + 24 + j) := by
  intro n
  induction n with
  | zero =>
    intro i f g _
    rw [m_fetch_L2.eq_1]
    exact ⟨fun j hj => by rw [if_neg (by omega)], fun j hj h => by rcases h with h | h; exact h; omega⟩
  | succ n ih =>
    intro i f g h
    rw [m_fetch_L2.eq_2]
    obtain ⟨h1, h2⟩ := ih (i + 1) (upd f (i % 16) (RA 33 ((b + 24) + (i % 16)))) (upd g i (RA 33 (b + i))) (by omega)
    refine ⟨fun j hj => ?_, fun j hj q => ?_⟩
    · rw [h1 j hj]
      by_cases e : j = i
      · subst e; rw [if_neg (by omega), pk_us, if_pos (by omega)]
      · rw [pk_un e]
        by_cases c : i + 1 ≤ j ∧ j < i + 1 + n
        · rw [if_pos c, if_pos (by omega)]
        · rw [if_neg c, if_neg (by omega)]
    · refine h2 j hj ?_
      by_cases e : j = i % 16
      · subst e; exact Or.inl pk_us
      · rw [pk_un e]
        rcases q with q | q
        · exact Or.inl q
        · exact Or.inr ⟨by omega, by omega⟩
theorem fe_L53 : ∀ (n i : Nat) (f g k : Nat → Int32), i + n ≤ 8 → ∀ j, j < 8 → ((m_fetch_L53 RA b n i f g k).1 j = if i ≤ j ∧ j < i + n then RA 33 (b + 40 + j) else f j) ∧ ((m_fetch_L53 RA b n i f g k).2.1 j = if i ≤ j ∧ j < i + n then RA 33 (b + 48 + j) else g j) ∧ ((m_fetch_L53 RA b n i f g k).2.2 j = if i ≤ j ∧ j < i + n then RA 33 (b + 56 + j) else k j) := by
  intro n
  induction n with
  | zero =>
    intro i f g k _ j hj
    rw [m_fetch_L53.eq_1]
    exact ⟨by rw [if_neg (by omega)], by rw [if_neg (by omega)], by rw [if_neg (by omega)]⟩
  | succ n ih =>
    intro i f g k h j hj
    rw [m_fetch_L53.eq_2]
    obtain ⟨q1, q2, q3⟩ := ih (i + 1) (upd f i (RA 33 ((b + 40) + i))) (upd g i (RA 33 ((b + 48) + i))) (upd k i (RA 33 ((b + 56) + i))) (by omega) j hj
    by_cases e : j = i
    · subst e
      refine ⟨?_, ?_, ?_⟩
      · rw [q1, if_neg (by omega), pk_us, if_pos (by omega)]
      · rw [q2, if_neg (by omega), pk_us, if_pos (by omega)]
      · rw [q3, if_neg (by omega), pk_us, if_pos (by omega)]
    · have cc : (i + 1 ≤ j ∧ j < i + 1 + n) ↔ (i ≤ j ∧ j < i + (n + 1)) := by omega
      refine ⟨?_, ?_, ?_⟩
      · rw [q1, pk_un e, if_cg cc]
      · rw [q2, pk_un e, if_cg cc]
      · rw [q3, pk_un e, if_cg cc]
theorem sim_back (h : sX ML MS PL PS VL VS RA RS RN) : (o_back MS VL VS).1 = (m_back RA RS RN).1 ∧ sX ML (va_up MS 0 ((o_back MS VL VS).2.1)) PL PS (va_up VL 0 (va_up (va_up (va_up (va_up (va_up (va_up (VL 0) 1 ((o_back MS VL VS).2.2.1)) 2 ((o_back MS VL VS).2.2.2.1)) 3 ((o_back MS VL VS).2.2.2.2.1)) 4 ((o_back MS VL VS).2.2.2.2.2.1)) 5 ((o_back MS VL VS).2.2.2.2.2.2.1)) 6 ((o_back MS VL VS).2.2.2.2.2.2.2.1))) (va_up VS 0 (va_up (va_up (va_up (va_up (va_up (VS 0) 8 ((o_back MS VL VS).2.2.2.2.2.2.2.2.1)) 9 ((o_back MS VL VS).2.2.2.2.2.2.2.2.2.1)) 10 ((o_back MS VL VS).2.2.2.2.2.2.2.2.2.2.1)) 11 ((o_back MS VL VS).2.2.2.2.2.2.2.2.2.2.2.1)) 12 ((o_back MS VL VS).2.2.2.2.2.2.2.2.2.2.2.2))) (va_up (va_up (va_up (va_up (va_up RA 21 ((m_back RA RS RN).2.1)) 22 ((m_back RA RS RN).2.2.1)) 23 ((m_back RA RS RN).2.2.2.1)) 24 ((m_back RA RS RN).2.2.2.2.1)) 25 ((m_back RA RS RN).2.2.2.2.2.1)) (va_up (va_up (va_up RS 26 ((m_back RA RS RN).2.2.2.2.2.2.2.2.2.1)) 27 ((m_back RA RS RN).2.2.2.2.2.2.2.2.2.2.1)) 30 ((m_back RA RS RN).2.2.2.2.2.2.2.2.2.2.2)) (va_up (va_up (va_up RN 28 ((m_back RA RS RN).2.2.2.2.2.2.1)) 29 ((m_back RA RS RN).2.2.2.2.2.2.2.1)) 34 ((m_back RA RS RN).2.2.2.2.2.2.2.2.1)) := by
  have h34 := mI_kept h.D.M
  have hm0 := h.2.2.2.1
  by_cases c : RN 34 = 0
  · have e1 : o_back MS VL VS = ((-2), (MS 0), (VL 0 1), (VL 0 2), (VL 0 3), (VL 0 4), (VL 0 5), (VL 0 6), (VS 0 8), (VS 0 9), (VS 0 10), (VS 0 11), (VS 0 12)) := by
      unfold o_back; rw [if_neg (show ¬ 0 < MS 0 by rw [hm0, c]; decide)]
    have e2 : m_back RA RS RN = ((-2), (RA 21), (RA 22), (RA 23), (RA 24), (RA 25), (RN 28), (RN 29), (RN 34), (RS 26), (RS 27), (RS 30)) := by
      unfold m_back; rw [if_pos (show nI (RN 34) = 0 by rw [c]; rfl)]
    rw [e1, e2]
    simp only [va_eta]
    exact ⟨trivial, h⟩
  · obtain ⟨k, hk⟩ : ∃ k, RN 34 = k + 1 := ⟨RN 34 - 1, by omega⟩
    have hpos : (0 : Int32) < MS 0 := by rw [hm0]; exact nI_lt (a := 0) (by omega) (by omega)
    have hpr : MS 0 - 1 = nI k := by rw [hm0, hk]; exact nI_pred k
    have e2 : m_back RA RS RN = ((nI k), (m_fetch RA (100 * k)).1, (m_fetch RA (100 * k)).2.1, (m_fetch RA (100 * k)).2.2.1, (m_fetch RA (100 * k)).2.2.2.1, (m_fetch RA (100 * k)).2.2.2.2.1, (m_fetch RA (100 * k)).2.2.2.2.2.1, (m_fetch RA (100 * k)).2.2.2.2.2.2.1, k, (m_fetch RA (100 * k)).2.2.2.2.2.2.2.1, (m_fetch RA (100 * k)).2.2.2.2.2.2.2.2.1, (m_fetch RA (100 * k)).2.2.2.2.2.2.2.2.2) := by
      unfold m_back
      rw [if_neg (show ¬ nI (RN 34) = 0 from fun q => c ((nI_eq (a := RN 34) (b := 0) (by omega) (by omega)).mp q)), show RN 34 - 1 = k by omega]
    have f2 := fe_L2 (RA := RA) (b := 100 * k) 24 0 (RA 21) (RA 24) (by omega)
    have f53 := fe_L53 (RA := RA) (b := 100 * k) 8 0 (RA 22) (RA 23) (RA 25) (by omega)
    obtain ⟨g1, g2, g3, g4⟩ := mG_of h.D.M
    have hK := h.2.2.2.2.2 k (by omega)
    have d := hK (va_up (va_up (va_up (va_up (va_up RA 21 (m_fetch RA (100 * k)).1) 22 (m_fetch RA (100 * k)).2.1) 23 (m_fetch RA (100 * k)).2.2.1) 24 (m_fetch RA (100 * k)).2.2.2.1) 25 (m_fetch RA (100 * k)).2.2.2.2.1) (va_up (va_up (va_up RS 26 (m_fetch RA (100 * k)).2.2.2.2.2.2.2.1) 27 (m_fetch RA (100 * k)).2.2.2.2.2.2.2.2.1) 30 (m_fetch RA (100 * k)).2.2.2.2.2.2.2.2.2) (va_up (va_up (va_up RN 28 (m_fetch RA (100 * k)).2.2.2.2.2.1) 29 (m_fetch RA (100 * k)).2.2.2.2.2.2.1) 34 k) ⟨⟨⟨rfl, rfl⟩, ⟨rfl, rfl⟩, ⟨rfl, rfl⟩, ⟨rfl, rfl⟩, rfl, rfl⟩, ⟨⟨rfl, rfl⟩, ⟨rfl, rfl⟩, rfl, rfl⟩, rfl⟩ ⟨g1, g2, show k ≤ 2 by omega, g4⟩
      ⟨fun j hj => f2.2 j hj (Or.inr (by omega)), fun j hj => ((f53 j hj).1).trans (if_pos (by omega)), fun j hj => ((f53 j hj).2.1).trans (if_pos (by omega)), fun j hj => (f2.1 j hj).trans (if_pos (by omega)), fun j hj => ((f53 j hj).2.2).trans (if_pos (by omega))⟩ ⟨rfl, rfl, rfl⟩ ⟨rfl, rfl⟩
    have kept : ∀ j, j < k → sK (VL (1 + j)) (VS (1 + j)) (PL 0) (PS 0) (va_up (va_up (va_up (va_up (va_up RA 21 (m_fetch RA (100 * k)).1) 22 (m_fetch RA (100 * k)).2.1) 23 (m_fetch RA (100 * k)).2.2.1) 24 (m_fetch RA (100 * k)).2.2.2.1) 25 (m_fetch RA (100 * k)).2.2.2.2.1) (va_up (va_up (va_up RS 26 (m_fetch RA (100 * k)).2.2.2.2.2.2.2.1) 27 (m_fetch RA (100 * k)).2.2.2.2.2.2.2.2.1) 30 (m_fetch RA (100 * k)).2.2.2.2.2.2.2.2.2) (va_up (va_up (va_up RN 28 (m_fetch RA (100 * k)).2.2.2.2.2.1) 29 (m_fetch RA (100 * k)).2.2.2.2.2.2.1) 34 k) j := fun j hj => (h.2.2.2.2.2 j (by omega)).cg ⟨⟨⟨rfl, rfl⟩, ⟨rfl, rfl⟩, ⟨rfl, rfl⟩, ⟨rfl, rfl⟩, rfl, rfl⟩, ⟨⟨rfl, rfl⟩, ⟨rfl, rfl⟩, rfl, rfl⟩, rfl⟩ rfl
    have hmk : mK RA (va_up RN 34 k) := fun j hj => h.2.2.2.2.1 j (by have hj : j < k := hj; omega)
    rcases (show k = 0 ∨ k = 1 by omega) with e | e
    · have e1 : o_back MS VL VS = ((MS 0 - 1), (MS 0 - 1), (v_copyFrom (VL 0) (VL 1) (VS 1)).1, (v_copyFrom (VL 0) (VL 1) (VS 1)).2.1, (v_copyFrom (VL 0) (VL 1) (VS 1)).2.2.1, (v_copyFrom (VL 0) (VL 1) (VS 1)).2.2.2.1, (v_copyFrom (VL 0) (VL 1) (VS 1)).2.2.2.2.1, (v_copyFrom (VL 0) (VL 1) (VS 1)).2.2.2.2.2.1, (v_copyFrom (VL 0) (VL 1) (VS 1)).2.2.2.2.2.2.1, (v_copyFrom (VL 0) (VL 1) (VS 1)).2.2.2.2.2.2.2.1, (v_copyFrom (VL 0) (VL 1) (VS 1)).2.2.2.2.2.2.2.2.1, (v_copyFrom (VL 0) (VL 1) (VS 1)).2.2.2.2.2.2.2.2.2.1, (v_copyFrom (VL 0) (VL 1) (VS 1)).2.2.2.2.2.2.2.2.2.2) := by
        unfold o_back
        rw [if_pos hpos, if_pos (show MS 0 - 1 = 0 by rw [hpr, e]; rfl)]
      rw [e1, e2, hpr]
      subst e
      exact ⟨rfl, d.cg eP.rf eV.rf ⟨⟨fun _ hj => rc_in hj, fun _ hj => rc_in hj, fun _ hj => rc_in hj, fun _ hj => rc_in hj, fun _ hj => rc_in hj⟩, ⟨rfl, rfl⟩, ⟨rfl, rfl⟩, rfl⟩ (mG_of (RS := RS) d.M), h.2.1, h.2.2.1, rfl, hmk, fun j hj => absurd hj (Nat.not_lt_zero j)⟩
    · have e1 : o_back MS VL VS = ((MS 0 - 1), (MS 0 - 1), (v_copyFrom (VL 0) (VL 2) (VS 2)).1, (v_copyFrom (VL 0) (VL 2) (VS 2)).2.1, (v_copyFrom (VL 0) (VL 2) (VS 2)).2.2.1, (v_copyFrom (VL 0) (VL 2) (VS 2)).2.2.2.1, (v_copyFrom (VL 0) (VL 2) (VS 2)).2.2.2.2.1, (v_copyFrom (VL 0) (VL 2) (VS 2)).2.2.2.2.2.1, (v_copyFrom (VL 0) (VL 2) (VS 2)).2.2.2.2.2.2.1, (v_copyFrom (VL 0) (VL 2) (VS 2)).2.2.2.2.2.2.2.1, (v_copyFrom (VL 0) (VL 2) (VS 2)).2.2.2.2.2.2.2.2.1, (v_copyFrom (VL 0) (VL 2) (VS 2)).2.2.2.2.2.2.2.2.2.1, (v_copyFrom (VL 0) (VL 2) (VS 2)).2.2.2.2.2.2.2.2.2.2) := by
        unfold o_back
        rw [if_pos hpos, if_neg (show ¬ MS 0 - 1 = 0 by rw [hpr, e]; decide)]
      rw [e1, e2, hpr]
      subst e
      refine ⟨rfl, d.cg eP.rf eV.rf ⟨⟨fun _ hj => rc_in hj, fun _ hj => rc_in hj, fun _ hj => rc_in hj, fun _ hj => rc_in hj, fun _ hj => rc_in hj⟩, ⟨rfl, rfl⟩, ⟨rfl, rfl⟩, rfl⟩ (mG_of (RS := RS) d.M), h.2.1, h.2.2.1, rfl, hmk, fun j hj => ?_⟩
      have hj : j < 1 := hj
      have e0 : j = 0 := by omega
      subst e0
      exact kept 0 (by omega)
end SIM6
