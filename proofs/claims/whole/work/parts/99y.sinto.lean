/-! the laid plan, item by item, and the class's reader beside it -/
abbrev lyT := (Nat → Int32) × (Nat → Int32) × (Nat → Int32) × (Nat → Int32) × (Nat → Int32) × (Nat → Int32) × (Nat → Int32) × (Nat → Int32) × (Nat → Int32) × (Nat → Int32) × (Nat → Int32) × Nat × Nat × Int32 × Int32 × Int32 × Int32 × Int32 × Int32
def nbA (RA : Nat → Nat → Int32) (f : Nat → Int32) (T : lyT) : Nat → Nat → Int32 := va_up (va_up (va_up (va_up (va_up (va_up (va_up (va_up (va_up (va_up (va_up (va_up RA 5 (T.1)) 6 (T.2.1)) 7 (T.2.2.1)) 8 (T.2.2.2.1)) 9 (T.2.2.2.2.1)) 10 (T.2.2.2.2.2.1)) 11 (T.2.2.2.2.2.2.1)) 12 (T.2.2.2.2.2.2.2.1)) 13 (T.2.2.2.2.2.2.2.2.1)) 14 (T.2.2.2.2.2.2.2.2.2.1)) 21 (T.2.2.2.2.2.2.2.2.2.2.1)) 2 f
def nbS (RS : Nat → Int32) (T : lyT) : Nat → Int32 := (va_up (va_up (va_up (va_up (va_up (va_up RS 15 (T.2.2.2.2.2.2.2.2.2.2.2.2.2.1)) 16 (T.2.2.2.2.2.2.2.2.2.2.2.2.2.2.1)) 17 (T.2.2.2.2.2.2.2.2.2.2.2.2.2.2.2.1)) 18 (T.2.2.2.2.2.2.2.2.2.2.2.2.2.2.2.2.1)) 19 (T.2.2.2.2.2.2.2.2.2.2.2.2.2.2.2.2.2.1)) 20 (T.2.2.2.2.2.2.2.2.2.2.2.2.2.2.2.2.2.2))
def nbN (RN : Nat → Nat) (k : Nat) (T : lyT) : Nat → Nat := (va_up (va_up (va_up RN 3 k) 4 (T.2.2.2.2.2.2.2.2.2.2.2.1)) 28 (T.2.2.2.2.2.2.2.2.2.2.2.2.1))
def stT (RA : Nat → Nat → Int32) (RS : Nat → Int32) (RN : Nat → Nat) (f : Nat → Int32) (k : Nat) (T : lyT) : lyT := m_layItem (nbA RA f T) (nbS RS T) (nbN RN k T) (7 * k)
def tZ (RA : Nat → Nat → Int32) : lyT := ((RA 5), (RA 6), (RA 7), (RA 8), (m_reset RA).1, (RA 10), (RA 11), (m_reset RA).2.1, (m_reset RA).2.2.1, (m_reset RA).2.2.2.1, (RA 21), (m_reset RA).2.2.2.2.1, (m_reset RA).2.2.2.2.2.1, (m_reset RA).2.2.2.2.2.2.1, (m_reset RA).2.2.2.2.2.2.2.1, (m_reset RA).2.2.2.2.2.2.2.2.1, (m_reset RA).2.2.2.2.2.2.2.2.2.1, (m_reset RA).2.2.2.2.2.2.2.2.2.2.1, (m_reset RA).2.2.2.2.2.2.2.2.2.2.2)
def tK (RA : Nat → Nat → Int32) (RS : Nat → Int32) (RN : Nat → Nat) (f : Nat → Int32) (k : Nat) : lyT := oF (stT RA RS RN f) k 0 (tZ RA)
section SLAID
variable {RA : Nat → Nat → Int32} {RS : Nat → Int32} {RN : Nat → Nat} {ML : Nat → Nat → Int32} {MS : Nat → Int32} {pl : Nat → Nat → Int32} {ps : Nat → Int32}
theorem tK_succ (f : Nat → Int32) (k : Nat) : tK RA RS RN f (k + 1) = stT RA RS RN f k (tK RA RS RN f k) := by
  unfold tK
  rw [oF_add, Nat.zero_add]
  rfl
theorem lay_cg {A : Nat → Nat → Int32} {S : Nat → Int32} {N : Nat → Nat} {g : Nat → Int32} {v : Nat} (h : ∀ j, j < 7 → g (v + j) = A 2 (v + j)) : m_layItem (va_up A 2 g) S N v = m_layItem A S N v := by
  have h0 : g v = A 2 v := h 0 (by omega)
  have h1 := h 1 (by omega)
  have h2 := h 2 (by omega)
  have h3 := h 3 (by omega)
  have h4 := h 4 (by omega)
  have h5 := h 5 (by omega)
  have h6 := h 6 (by omega)
  unfold m_layItem m_roofBy
  simp only [show va_up A 2 g 2 = g from rfl, show va_up A 2 g 5 = A 5 from rfl, show va_up A 2 g 6 = A 6 from rfl, show va_up A 2 g 7 = A 7 from rfl, show va_up A 2 g 8 = A 8 from rfl, show va_up A 2 g 9 = A 9 from rfl, show va_up A 2 g 10 = A 10 from rfl, show va_up A 2 g 11 = A 11 from rfl, show va_up A 2 g 12 = A 12 from rfl, show va_up A 2 g 13 = A 13 from rfl, show va_up A 2 g 14 = A 14 from rfl, show va_up A 2 g 21 = A 21 from rfl, h0, h1, h2, h3, h4, h5, h6]
theorem st_cg {f g : Nat → Int32} {k : Nat} (h : ∀ j, j < 7 → g (7 * k + j) = f (7 * k + j)) (T : lyT) : stT RA RS RN g k T = stT RA RS RN f k T := by
  unfold stT
  have e : nbA RA g T = va_up (nbA RA f T) 2 g := by unfold nbA; rw [va_uu]
  rw [e]
  exact lay_cg h
theorem tK_cg {f g : Nat → Int32} {k : Nat} (h : ∀ j, j < 7 * k → g j = f j) : tK RA RS RN g k = tK RA RS RN f k :=
  (oF_congr (fun _ => True) k 0 (tZ RA) (fun i z _ hi _ => ⟨st_cg (fun j hj => h _ (by omega)) z, trivial⟩) trivial).1
theorem LI_all (hM : mI RA RS RN) {f : Nat → Int32} {n : Nat} (hv : vOk f n) : ∀ k, k ≤ n → LI f (nbA RA f (tK RA RS RN f k)) (nbS RS (tK RA RS RN f k)) (nbN RN k (tK RA RS RN f k)) k := by
  intro k
  induction k with
  | zero => intro _; exact LI_reset hM rfl rfl rfl rfl rfl rfl rfl rfl rfl rfl rfl rfl
  | succ k ih => intro hk; exact LI_step (ih (by omega)) rfl hv (by omega) (tK_succ f k) rfl rfl rfl rfl rfl rfl rfl rfl rfl rfl rfl rfl
/-! cleared plans are alike -/
theorem L46_9 : ∀ (n i : Nat) (a9 a12 : Nat → Int32) (j : Nat), (j < i → (m_reset_L46 n i a9 a12).1 j = a9 j) ∧ (i ≤ j → j < i + n → (m_reset_L46 n i a9 a12).1 j = 0) := by
  intro n
  induction n with
  | zero => intro i a9 a12 j; rw [m_reset_L46.eq_1]; exact ⟨fun _ => rfl, fun h1 h2 => by omega⟩
  | succ n ih =>
    intro i a9 a12 j
    rw [m_reset_L46.eq_2]
    obtain ⟨q1, q2⟩ := ih (i + 1) (upd a9 i 0) (upd a12 i 0) j
    refine ⟨fun h => by rw [q1 (by omega), pk_un (by omega)], fun h1 h2 => ?_⟩
    by_cases c : j = i
    · subst c; rw [q1 (by omega), pk_us]
    · exact q2 (by omega) (by omega)
theorem L74_13 : ∀ (n i : Nat) (a13 a14 : Nat → Int32) (j : Nat), (j < i → (m_reset_L74 n i a13 a14).1 j = a13 j ∧ (m_reset_L74 n i a13 a14).2 j = a14 j) ∧ (i ≤ j → j < i + n → i + n < 100 → (m_reset_L74 n i a13 a14).1 j = 0 ∧ (m_reset_L74 n i a13 a14).2 j = if j % 3 = 0 then 4 else 3) := by
  intro n
  induction n with
  | zero => intro i a13 a14 j; rw [m_reset_L74.eq_1]; exact ⟨fun _ => ⟨rfl, rfl⟩, fun h1 h2 => by omega⟩
  | succ n ih =>
    intro i a13 a14 j
    rw [m_reset_L74.eq_2]
    by_cases d : i % 3 = 0
    · rw [if_pos (show nI (i % 3) = 0 by rw [d]; rfl)]
      obtain ⟨q1, q2⟩ := ih (i + 1) (upd a13 i 0) (upd a14 i 4) j
      refine ⟨fun h => by rw [(q1 (by omega)).1, (q1 (by omega)).2, pk_un (by omega), pk_un (by omega)]; exact ⟨rfl, rfl⟩, fun h1 h2 h3 => ?_⟩
      by_cases c : j = i
      · subst c; rw [(q1 (by omega)).1, (q1 (by omega)).2, pk_us, pk_us, if_pos d]; exact ⟨rfl, rfl⟩
      · exact q2 (by omega) (by omega) (by omega)
    · rw [if_neg (show ¬ nI (i % 3) = 0 from fun q => d ((nI_eq (a := i % 3) (b := 0) (by omega) (by omega)).mp q))]
      obtain ⟨q1, q2⟩ := ih (i + 1) (upd a13 i 0) (upd a14 i 3) j
      refine ⟨fun h => by rw [(q1 (by omega)).1, (q1 (by omega)).2, pk_un (by omega), pk_un (by omega)]; exact ⟨rfl, rfl⟩, fun h1 h2 h3 => ?_⟩
      by_cases c : j = i
      · subst c; rw [(q1 (by omega)).1, (q1 (by omega)).2, pk_us, pk_us, if_neg d]; exact ⟨rfl, rfl⟩
      · exact q2 (by omega) (by omega) (by omega)
theorem cl_step {pl p6 : Nat → Nat → Int32} {f a b c d e g : Nat → Int32} {n i : Nat} (hi : i < 3) : p_clear_L55 pl a b c d e g (n + 1) i f = p_clear_L55 pl a b c d e g n (i + 1) (upd (upd (upd f (3 * i) 4) (3 * i + 1) 3) (3 * i + 2) 3) := by
  rw [p_clear_L55.eq_2]
  unfold p_setChain
  have e0 : 3 * nI i = nI (3 * i) := by rw [show (3 : Int32) = nI 3 from rfl, nI_mul]
  have e2 : nI (3 * i) + 2 = nI (3 * i + 2) := nI_add (3 * i) 2
  rw [e0, nI_1, e2, rs_in (by omega) (by omega), rs_in (by omega) (by omega), rs_in (by omega) (by omega)]
  rfl
theorem cl_12 {pl : Nat → Nat → Int32} {f a b c d e g : Nat → Int32} {j : Nat} (hj : j < 9) : p_clear_L55 pl a b c d e g 3 0 f j = if j % 3 = 0 then 4 else 3 := by
  rw [cl_step (p6 := pl) (by omega), cl_step (p6 := pl) (by omega), cl_step (p6 := pl) (by omega), p_clear_L55.eq_1]
  rcases (show j = 0 ∨ j = 1 ∨ j = 2 ∨ j = 3 ∨ j = 4 ∨ j = 5 ∨ j = 6 ∨ j = 7 ∨ j = 8 by omega) with h | h | h | h | h | h | h | h | h <;> subst h <;> rfl
theorem sQ_0 (f : Nat → Int32) : sQ (va_up (va_up (va_up (va_up (va_up (va_up (va_up (va_up (va_up (va_up (va_up (va_up pl 1 (pl 1)) 2 (pl 2)) 3 (pl 3)) 4 (pl 4)) 5 (pl 5)) 6 ((p_clear pl).1)) 7 ((p_clear pl).2.1)) 8 ((p_clear pl).2.2.1)) 9 ((p_clear pl).2.2.2.1)) 10 ((p_clear pl).2.2.2.2.1)) 11 ((p_clear pl).2.2.2.2.2.1)) 12 ((p_clear pl).2.2.2.2.2.2.1)) (va_up (va_up (va_up (va_up (va_up (va_up (va_up (va_up ps 0 ((p_clear pl).2.2.2.2.2.2.2.1)) 13 ((p_clear pl).2.2.2.2.2.2.2.2.1)) 14 ((p_clear pl).2.2.2.2.2.2.2.2.2.1)) 15 ((p_clear pl).2.2.2.2.2.2.2.2.2.2.1)) 16 ((p_clear pl).2.2.2.2.2.2.2.2.2.2.2.1)) 17 ((p_clear pl).2.2.2.2.2.2.2.2.2.2.2.2.1)) 18 ((p_clear pl).2.2.2.2.2.2.2.2.2.2.2.2.2.1)) 19 ((p_clear pl).2.2.2.2.2.2.2.2.2.2.2.2.2.2)) (nbA RA f (tZ RA)) (nbS RS (tZ RA)) (nbN RN 0 (tZ RA)) := by
  refine ⟨⟨⟨⟨rfl, Nat.zero_le _⟩, fun i hi => absurd hi (Nat.not_lt_zero i), fun j hj => absurd hj (Nat.not_lt_zero j)⟩, fun i hi => ?_, fun i hi => ?_⟩, ⟨⟨fun k hk => ?_, fun j hj => ?_⟩, fun j hj => ?_⟩, ⟨⟨⟨rfl, (show (0 : Int) ≤ (1 : Int32).toInt ∧ (1 : Int32).toInt ≤ 9 by decide)⟩, ⟨rfl, (show (1 : Int) ≤ (10 : Int32).toInt ∧ (10 : Int32).toInt ≤ 50 by decide)⟩, rfl, (show (0 : Int) ≤ (10 : Int32).toInt ∧ (10 : Int32).toInt ≤ 99 by decide)⟩, ⟨rfl, (show (0 : Int) ≤ (50 : Int32).toInt ∧ (50 : Int32).toInt ≤ 200 by decide)⟩, ⟨rfl, (show (1 : Int) ≤ (3 : Int32).toInt ∧ (3 : Int32).toInt ≤ 20 by decide)⟩, rfl, (show (0 : Int) ≤ (100 : Int32).toInt ∧ (100 : Int32).toInt ≤ 999 by decide)⟩, rfl, show (0 : Nat) < 3 by omega⟩
  · have e : (m_reset_L46 8 0 (RA 9) (RA 12)).1 i = 0 := (L46_9 8 0 (RA 9) (RA 12) i).2 (by omega) (by omega)
    have e2 : rc 8 (fun _ => 0) (pl 6) i = 0 := rc_in (n := 8) (g := fun _ => 0) hi
    exact ⟨e2.trans e.symm, by show 0 ≤ ((m_reset_L46 8 0 (RA 9) (RA 12)).1 i).toInt ∧ ((m_reset_L46 8 0 (RA 9) (RA 12)).1 i).toInt ≤ 99; rw [e]; decide⟩
  · have e : (m_reset_L46 8 0 (RA 9) (RA 12)).2 i = 0 := (reset_L 0 (RA 9) (RA 12) i).2 (by omega) (by omega)
    have e2 : rc 8 (fun _ => 0) (pl 7) i = 0 := rc_in (n := 8) (g := fun _ => 0) hi
    refine ⟨⟨e2.trans e.symm, by show 0 ≤ ((m_reset_L46 8 0 (RA 9) (RA 12)).2 i).toInt ∧ ((m_reset_L46 8 0 (RA 9) (RA 12)).2 i).toInt ≤ 4; rw [e]; decide⟩, fun k hk => ?_⟩
    have hk : k < ((m_reset_L46 8 0 (RA 9) (RA 12)).2 i).toNatClampNeg := hk
    rw [e] at hk
    exact absurd hk (by rw [show (0 : Int32).toNatClampNeg = 0 from rfl]; omega)
  · have e : ∀ j, j < 9 → (m_reset_L74 9 0 (RA 13) (RA 14)).1 j = 0 := fun j hj => ((L74_13 9 0 (RA 13) (RA 14) j).2 (by omega) (by omega) (by omega)).1
    have e2 : ∀ j, j < 6 → rc 6 (fun _ => 0) (pl 10) j = 0 := fun j hj => rc_in (n := 6) (g := fun _ => 0) hj
    have e3 : rc 3 (fun _ => 0) (pl 11) k = 0 := rc_in (n := 3) (g := fun _ => 0) hk
    exact ⟨(e2 _ (by omega)).trans (e _ (by omega)).symm, (e2 _ (by omega)).trans (e _ (by omega)).symm, e3.trans (e _ (by omega)).symm⟩
  · have e : (m_reset_L74 9 0 (RA 13) (RA 14)).1 j = 0 := ((L74_13 9 0 (RA 13) (RA 14) j).2 (by omega) (by omega) (by omega)).1
    show 0 ≤ ((m_reset_L74 9 0 (RA 13) (RA 14)).1 j).toInt ∧ ((m_reset_L74 9 0 (RA 13) (RA 14)).1 j).toInt ≤ 60
    rw [e]; decide
  · have e : (m_reset_L74 9 0 (RA 13) (RA 14)).2 j = if j % 3 = 0 then 4 else 3 := ((L74_13 9 0 (RA 13) (RA 14) j).2 (by omega) (by omega) (by omega)).2
    refine ⟨(cl_12 hj).trans e.symm, ?_⟩
    show 0 ≤ ((m_reset_L74 9 0 (RA 13) (RA 14)).2 j).toInt ∧ ((m_reset_L74 9 0 (RA 13) (RA 14)).2 j).toInt ≤ 10
    rw [e]
    by_cases c : j % 3 = 0
    · rw [if_pos c]; decide
    · rw [if_neg c]; decide
/-! the reader's whole loop -/
theorem rl_2 (n i : Nat) (ml1 : Nat → Int32) (ms3 : Int32) (pl1 pl2 pl3 pl4 pl5 pl6 pl7 pl8 pl9 pl10 pl11 pl12 : Nat → Int32) (ps0 ps13 ps14 ps15 ps16 ps17 ps18 ps19 : Int32) (R : Int32 × (Nat → Int32) × Int32 × (Nat → Int32) × (Nat → Int32) × (Nat → Int32) × (Nat → Int32) × (Nat → Int32) × (Nat → Int32) × (Nat → Int32) × (Nat → Int32) × (Nat → Int32) × (Nat → Int32) × (Nat → Int32) × (Nat → Int32) × Int32 × Int32 × Int32 × Int32 × Int32 × Int32 × Int32 × Int32) (hR : R = r_readItem (va_up (va_up (va_up (va_up (va_up (va_up (va_up (va_up (va_up (va_up (va_up (va_up pl 1 pl1) 2 pl2) 3 pl3) 4 pl4) 5 pl5) 6 pl6) 7 pl7) 8 pl8) 9 pl9) 10 pl10) 11 pl11) 12 pl12) (va_up (va_up (va_up (va_up (va_up (va_up (va_up (va_up ps 0 ps0) 13 ps13) 14 ps14) 15 ps15) 16 ps16) 17 ps17) 18 ps18) 19 ps19) (va_up ML 1 ml1) (va_up MS 3 ms3)) :
    r_readInto_L11 pl ps ML MS (n + 1) i ml1 ms3 pl1 pl2 pl3 pl4 pl5 pl6 pl7 pl8 pl9 pl10 pl11 pl12 ps0 ps13 ps14 ps15 ps16 ps17 ps18 ps19 = if MS 2 ≤ ms3 then (r_readInto_k11 ml1 ms3 pl1 pl2 pl3 pl4 pl5 pl6 pl7 pl8 pl9 pl10 pl11 pl12 ps0 ps13 ps14 ps15 ps16 ps17 ps18 ps19) else if R.1 = 0 then (ms3, R.2.1, R.2.2.1, R.2.2.2.1, R.2.2.2.2.1, R.2.2.2.2.2.1, R.2.2.2.2.2.2.1, R.2.2.2.2.2.2.2.1, R.2.2.2.2.2.2.2.2.1, R.2.2.2.2.2.2.2.2.2.1, R.2.2.2.2.2.2.2.2.2.2.1, R.2.2.2.2.2.2.2.2.2.2.2.1, R.2.2.2.2.2.2.2.2.2.2.2.2.1, R.2.2.2.2.2.2.2.2.2.2.2.2.2.1, R.2.2.2.2.2.2.2.2.2.2.2.2.2.2.1, R.2.2.2.2.2.2.2.2.2.2.2.2.2.2.2.1, R.2.2.2.2.2.2.2.2.2.2.2.2.2.2.2.2.1, R.2.2.2.2.2.2.2.2.2.2.2.2.2.2.2.2.2.1, R.2.2.2.2.2.2.2.2.2.2.2.2.2.2.2.2.2.2.1, R.2.2.2.2.2.2.2.2.2.2.2.2.2.2.2.2.2.2.2.1, R.2.2.2.2.2.2.2.2.2.2.2.2.2.2.2.2.2.2.2.2.1, R.2.2.2.2.2.2.2.2.2.2.2.2.2.2.2.2.2.2.2.2.2.1, R.2.2.2.2.2.2.2.2.2.2.2.2.2.2.2.2.2.2.2.2.2.2) else r_readInto_L11 pl ps ML MS n (i + 1) (R.2.1) (R.2.2.1) (R.2.2.2.1) (R.2.2.2.2.1) (R.2.2.2.2.2.1) (R.2.2.2.2.2.2.1) (R.2.2.2.2.2.2.2.1) (R.2.2.2.2.2.2.2.2.1) (R.2.2.2.2.2.2.2.2.2.1) (R.2.2.2.2.2.2.2.2.2.2.1) (R.2.2.2.2.2.2.2.2.2.2.2.1) (R.2.2.2.2.2.2.2.2.2.2.2.2.1) (R.2.2.2.2.2.2.2.2.2.2.2.2.2.1) (R.2.2.2.2.2.2.2.2.2.2.2.2.2.2.1) (R.2.2.2.2.2.2.2.2.2.2.2.2.2.2.2.1) (R.2.2.2.2.2.2.2.2.2.2.2.2.2.2.2.2.1) (R.2.2.2.2.2.2.2.2.2.2.2.2.2.2.2.2.2.1) (R.2.2.2.2.2.2.2.2.2.2.2.2.2.2.2.2.2.2.1) (R.2.2.2.2.2.2.2.2.2.2.2.2.2.2.2.2.2.2.2.1) (R.2.2.2.2.2.2.2.2.2.2.2.2.2.2.2.2.2.2.2.2.1) (R.2.2.2.2.2.2.2.2.2.2.2.2.2.2.2.2.2.2.2.2.2.1) (R.2.2.2.2.2.2.2.2.2.2.2.2.2.2.2.2.2.2.2.2.2.2) := by
  subst hR
  exact r_readInto_L11.eq_2 ..
theorem told_cg {A A' : Nat → Nat → Int32} (h : A' 2 = A 2) (v1 v2 : Int32) : ∀ (n i : Nat) (v : Int32), m_told_L5 A' v1 v2 n i v = m_told_L5 A v1 v2 n i v := by
  intro n
  induction n with
  | zero => intro i v; rw [m_told_L5.eq_1, m_told_L5.eq_1]
  | succ n ih => intro i v; rw [m_told_L5.eq_2, m_told_L5.eq_2, h]; simp only [ih]
theorem fits_cg {A A' : Nat → Nat → Int32} {N N' : Nat → Nat} (h : A' 2 = A 2) (hn : N' 3 = N 3) : m_fits A' N' = m_fits A N := by
  unfold m_fits m_told m_told_k5
  simp only [h, hn, told_cg h]
theorem rI_L (hx : txt ML MS RA RN) (hM : mI RA RS RN) : ∀ (n i : Nat) (ml1 : Nat → Int32) (t : Nat) (pl1 pl2 pl3 pl4 pl5 pl6 pl7 pl8 pl9 pl10 pl11 pl12 : Nat → Int32) (ps0 ps13 ps14 ps15 ps16 ps17 ps18 ps19 : Int32) (n' i' : Nat) (a2 : Nat → Int32) (k : Nat), i + n = 500 → i ≤ t → t ≤ RN 1 → RN 1 ≤ n' + t → 3 * k ≤ t → vOk a2 k → sQ (va_up (va_up (va_up (va_up (va_up (va_up (va_up (va_up (va_up (va_up (va_up (va_up pl 1 pl1) 2 pl2) 3 pl3) 4 pl4) 5 pl5) 6 pl6) 7 pl7) 8 pl8) 9 pl9) 10 pl10) 11 pl11) 12 pl12) (va_up (va_up (va_up (va_up (va_up (va_up (va_up (va_up ps 0 ps0) 13 ps13) 14 ps14) 15 ps15) 16 ps16) 17 ps17) 18 ps18) 19 ps19) (nbA RA a2 (tK RA RS RN a2 k)) (nbS RS (tK RA RS RN a2 k)) (nbN RN k (tK RA RS RN a2 k)) →
    ∀ (C : Int32 × (Nat → Int32) × Int32 × (Nat → Int32) × (Nat → Int32) × (Nat → Int32) × (Nat → Int32) × (Nat → Int32) × (Nat → Int32) × (Nat → Int32) × (Nat → Int32) × (Nat → Int32) × (Nat → Int32) × (Nat → Int32) × (Nat → Int32) × Int32 × Int32 × Int32 × Int32 × Int32 × Int32 × Int32 × Int32) (M : Int32 × (Nat → Int32) × Nat × Nat), C = r_readInto_L11 pl ps ML MS n i ml1 (nI t) pl1 pl2 pl3 pl4 pl5 pl6 pl7 pl8 pl9 pl10 pl11 pl12 ps0 ps13 ps14 ps15 ps16 ps17 ps18 ps19 → M = m_fault_L10 RA RN n' i' a2 k t →
    C.1 = M.1 ∧ (M.1 = -4 → sQ (va_up (va_up (va_up (va_up (va_up (va_up (va_up (va_up (va_up (va_up (va_up (va_up pl 1 (C.2.2.2.1)) 2 (C.2.2.2.2.1)) 3 (C.2.2.2.2.2.1)) 4 (C.2.2.2.2.2.2.1)) 5 (C.2.2.2.2.2.2.2.1)) 6 (C.2.2.2.2.2.2.2.2.1)) 7 (C.2.2.2.2.2.2.2.2.2.1)) 8 (C.2.2.2.2.2.2.2.2.2.2.1)) 9 (C.2.2.2.2.2.2.2.2.2.2.2.1)) 10 (C.2.2.2.2.2.2.2.2.2.2.2.2.1)) 11 (C.2.2.2.2.2.2.2.2.2.2.2.2.2.1)) 12 (C.2.2.2.2.2.2.2.2.2.2.2.2.2.2.1)) (va_up (va_up (va_up (va_up (va_up (va_up (va_up (va_up ps 0 (C.2.2.2.2.2.2.2.2.2.2.2.2.2.2.2.1)) 13 (C.2.2.2.2.2.2.2.2.2.2.2.2.2.2.2.2.1)) 14 (C.2.2.2.2.2.2.2.2.2.2.2.2.2.2.2.2.2.1)) 15 (C.2.2.2.2.2.2.2.2.2.2.2.2.2.2.2.2.2.2.1)) 16 (C.2.2.2.2.2.2.2.2.2.2.2.2.2.2.2.2.2.2.2.1)) 17 (C.2.2.2.2.2.2.2.2.2.2.2.2.2.2.2.2.2.2.2.2.1)) 18 (C.2.2.2.2.2.2.2.2.2.2.2.2.2.2.2.2.2.2.2.2.2.1)) 19 (C.2.2.2.2.2.2.2.2.2.2.2.2.2.2.2.2.2.2.2.2.2.2)) (nbA RA M.2.1 (tK RA RS RN M.2.1 M.2.2.1)) (nbS RS (tK RA RS RN M.2.1 M.2.2.1)) (nbN RN M.2.2.1 (tK RA RS RN M.2.1 M.2.2.1))) := by
  have hl := hx.2.1
  intro n
  induction n with
  | zero =>
    intro i ml1 t pl1 pl2 pl3 pl4 pl5 pl6 pl7 pl8 pl9 pl10 pl11 pl12 ps0 ps13 ps14 ps15 ps16 ps17 ps18 ps19 n' i' a2 k hi hit ht hn' hk hv hQ C M hC hM9
    have hM8 : M = m_fault_k10 a2 k t := by
      rw [hM9]
      cases n' with
      | zero => rw [m_fault_L10.eq_1]
      | succ n' => rw [m_fault_L10.eq_2, if_pos (nI_le (by omega) (by omega))]
    rw [hC, hM8, r_readInto_L11.eq_1]
    exact ⟨rfl, fun _ => hQ⟩
  | succ n ih =>
    intro i ml1 t pl1 pl2 pl3 pl4 pl5 pl6 pl7 pl8 pl9 pl10 pl11 pl12 ps0 ps13 ps14 ps15 ps16 ps17 ps18 ps19 n' i' a2 k hi hit ht hn' hk hv hQ C M hC hM9
    obtain ⟨R, hR⟩ : ∃ R, R = r_readItem (va_up (va_up (va_up (va_up (va_up (va_up (va_up (va_up (va_up (va_up (va_up (va_up pl 1 pl1) 2 pl2) 3 pl3) 4 pl4) 5 pl5) 6 pl6) 7 pl7) 8 pl8) 9 pl9) 10 pl10) 11 pl11) 12 pl12) (va_up (va_up (va_up (va_up (va_up (va_up (va_up (va_up ps 0 ps0) 13 ps13) 14 ps14) 15 ps15) 16 ps16) 17 ps17) 18 ps18) 19 ps19) (va_up ML 1 ml1) (va_up MS 3 (nI t)) := ⟨_, rfl⟩
    rw [rl_2 n i ml1 (nI t) pl1 pl2 pl3 pl4 pl5 pl6 pl7 pl8 pl9 pl10 pl11 pl12 ps0 ps13 ps14 ps15 ps16 ps17 ps18 ps19 R hR, hx.1] at hC
    by_cases c : RN 1 ≤ t
    · have hM8 : M = m_fault_k10 a2 k t := by
        rw [hM9]
        cases n' with
        | zero => rw [m_fault_L10.eq_1]
        | succ n' => rw [m_fault_L10.eq_2, if_pos (nI_le (by omega) (by omega))]
      rw [if_pos (nI_le c (by omega))] at hC
      rw [hC, hM8]
      exact ⟨rfl, fun _ => hQ⟩
    · rw [if_neg (nI_ge (by omega) (by omega))] at hC
      obtain ⟨m, rfl⟩ : ∃ m, n' = m + 1 := ⟨n' - 1, by omega⟩
      have ne : ¬ nI t = -4 := fun q => by
        have := congrArg Int32.toInt q
        rw [nI_toInt (by omega)] at this
        have e : (-4 : Int32).toInt = -4 := rfl
        omega
      have hx2 : txt (va_up ML 1 ml1) (va_up MS 3 (nI t)) (va_up RA 2 a2) (va_up (va_up RN 3 k) 35 t) := hx
      obtain ⟨K, hK⟩ : ∃ K, K = m_readsItem (va_up RA 2 a2) (va_up (va_up RN 3 k) 35 t) := ⟨_, rfl⟩
      rw [m_fault_L10.eq_2, if_neg (nI_ge (by omega) (by omega)), ← hK] at hM9
      have kd := rd_item (va_up RA 2 a2) (va_up (va_up RN 3 k) 35 t) hK
      have k3 := m_readsItem_3 (RA := va_up RA 2 a2) (RN := va_up (va_up RN 3 k) 35 t) hl (show t < RN 1 by omega)
      rw [← hK] at k3
      rcases item_eq (pl := (va_up (va_up (va_up (va_up (va_up (va_up (va_up (va_up (va_up (va_up (va_up (va_up pl 1 pl1) 2 pl2) 3 pl3) 4 pl4) 5 pl5) 6 pl6) 7 pl7) 8 pl8) 9 pl9) 10 pl10) 11 pl11) 12 pl12)) (ps := (va_up (va_up (va_up (va_up (va_up (va_up (va_up (va_up ps 0 ps0) 13 ps13) 14 ps14) 15 ps15) 16 ps16) 17 ps17) 18 ps18) 19 ps19)) hx2 (t := t) (show t < RN 1 by omega) rfl rfl hK with ⟨z1, z2⟩ | ⟨z1, z2, z3, κ, ml, hκ, z4, z5, z6⟩
      · rw [← hR] at z2
        rw [if_pos z2] at hC
        rw [if_pos z1] at hM9
        rw [hC, hM9]
        exact ⟨rfl, fun q => absurd q ne⟩
      · rw [← hR] at z5
        have z1' : ¬ K.1 = 0 := by rw [z1]; decide
        rw [if_neg z1'] at hM9
        have hv2 : vOk K.2.1 k := vOk_congr (fun j hj => (kd.1 j hj).symm) hv
        have hit6 : itOk K.2.1 (7 * k) := kd.2 z1'
        have k3 : t + 3 ≤ K.2.2 := k3 z1'
        have hKl : K.2.2 ≤ RN 1 := z3
        have ek : tK RA RS RN K.2.1 k = tK RA RS RN a2 k := tK_cg (fun j hj => kd.1 j hj)
        have hLI := LI_all (RA := RA) (RS := RS) (RN := RN) hM hv2 k (Nat.le_refl _)
        have hQ2 : sQ (va_up (va_up (va_up (va_up (va_up (va_up (va_up (va_up (va_up (va_up (va_up (va_up pl 1 pl1) 2 pl2) 3 pl3) 4 pl4) 5 pl5) 6 pl6) 7 pl7) 8 pl8) 9 pl9) 10 pl10) 11 pl11) 12 pl12) (va_up (va_up (va_up (va_up (va_up (va_up (va_up (va_up ps 0 ps0) 13 ps13) 14 ps14) 15 ps15) 16 ps16) 17 ps17) 18 ps18) 19 ps19) (nbA RA K.2.1 (tK RA RS RN K.2.1 k)) (nbS RS (tK RA RS RN K.2.1 k)) (nbN RN k (tK RA RS RN K.2.1 k)) := by
          rw [ek]; exact hQ
        obtain ⟨P, hP⟩ : ∃ P, P = p_take (va_up (va_up (va_up (va_up (va_up (va_up (va_up (va_up (va_up (va_up (va_up (va_up pl 1 pl1) 2 pl2) 3 pl3) 4 pl4) 5 pl5) 6 pl6) 7 pl7) 8 pl8) 9 pl9) 10 pl10) 11 pl11) 12 pl12) (va_up (va_up (va_up (va_up (va_up (va_up (va_up (va_up ps 0 ps0) 13 ps13) 14 ps14) 15 ps15) 16 ps16) 17 ps17) 18 ps18) 19 ps19) (va_up (va_up ML 1 ml1) 1 ml) (nI κ) := ⟨_, rfl⟩
        have tk := take_eq (ML := va_up (va_up ML 1 ml1) 1 ml) (A := nbA RA K.2.1 (tK RA RS RN K.2.1 k)) (S := nbS RS (tK RA RS RN K.2.1 k)) (N := nbN RN k (tK RA RS RN K.2.1 k)) hQ2 (show k ≤ 170 by omega) hit6 hLI.2.1 (fun a ha => (hLI.2.2 a ha).1) hκ (fun q hq => z6 q hq) z4 hP (tK_succ K.2.1 k)
        have ef : m_fits (va_up RA 2 K.2.1) (va_up (va_up RN 3 k) 35 K.2.2) = m_fits (nbA RA K.2.1 (tK RA RS RN K.2.1 k)) (nbN RN k (tK RA RS RN K.2.1 k)) := fits_cg rfl rfl
        rw [ef] at hM9
        rcases tk with ⟨w1, w2⟩ | ⟨w1, w2, w3⟩
        · have e1 : R.1 = 0 := by rw [z5]; unfold r_readItem_k62; rw [← hP]; exact w1
          rw [if_pos e1] at hC
          rw [if_pos w2] at hM9
          rw [hC, hM9]
          exact ⟨rfl, fun q => absurd q ne⟩
        · have e0 : R = (P.1, ml, nI K.2.2, P.2.1, P.2.2.1, P.2.2.2.1, P.2.2.2.2.1, P.2.2.2.2.2.1, P.2.2.2.2.2.2.1, P.2.2.2.2.2.2.2.1, P.2.2.2.2.2.2.2.2.1, P.2.2.2.2.2.2.2.2.2.1, P.2.2.2.2.2.2.2.2.2.2.1, P.2.2.2.2.2.2.2.2.2.2.2.1, P.2.2.2.2.2.2.2.2.2.2.2.2.1, P.2.2.2.2.2.2.2.2.2.2.2.2.2.1, P.2.2.2.2.2.2.2.2.2.2.2.2.2.2.1, P.2.2.2.2.2.2.2.2.2.2.2.2.2.2.2.1, P.2.2.2.2.2.2.2.2.2.2.2.2.2.2.2.2.1, P.2.2.2.2.2.2.2.2.2.2.2.2.2.2.2.2.2.1, P.2.2.2.2.2.2.2.2.2.2.2.2.2.2.2.2.2.2.1, P.2.2.2.2.2.2.2.2.2.2.2.2.2.2.2.2.2.2.2.1, P.2.2.2.2.2.2.2.2.2.2.2.2.2.2.2.2.2.2.2.2) := by rw [z5]; unfold r_readItem_k62; rw [← hP]
          rw [if_neg (show ¬ R.1 = 0 by rw [e0]; dsimp only; rw [w1]; decide), e0] at hC
          have w2' : ¬ m_fits (nbA RA K.2.1 (tK RA RS RN K.2.1 k)) (nbN RN k (tK RA RS RN K.2.1 k)) = 0 := by rw [w2]; decide
          rw [if_neg w2'] at hM9
          have h8 := fits_ok (RA := nbA RA K.2.1 (tK RA RS RN K.2.1 k)) (RN := nbN RN k (tK RA RS RN K.2.1 k)) (show k ≤ 170 by omega) hit6 (tR_8 hv2 k (Nat.le_refl _)) (fun a => tB_4 hv2 a k (Nat.le_refl _)) w2'
          have hv3 : vOk K.2.1 (k + 1) := fun q hq => by
            by_cases e : q = k
            · subst e; exact h8
            · exact hv2 q (by omega)
          exact ih (i + 1) ml K.2.2 (P.2.1) (P.2.2.1) (P.2.2.2.1) (P.2.2.2.2.1) (P.2.2.2.2.2.1) (P.2.2.2.2.2.2.1) (P.2.2.2.2.2.2.2.1) (P.2.2.2.2.2.2.2.2.1) (P.2.2.2.2.2.2.2.2.2.1) (P.2.2.2.2.2.2.2.2.2.2.1) (P.2.2.2.2.2.2.2.2.2.2.2.1) (P.2.2.2.2.2.2.2.2.2.2.2.2.1) (P.2.2.2.2.2.2.2.2.2.2.2.2.2.1) (P.2.2.2.2.2.2.2.2.2.2.2.2.2.2.1) (P.2.2.2.2.2.2.2.2.2.2.2.2.2.2.2.1) (P.2.2.2.2.2.2.2.2.2.2.2.2.2.2.2.2.1) (P.2.2.2.2.2.2.2.2.2.2.2.2.2.2.2.2.2.1) (P.2.2.2.2.2.2.2.2.2.2.2.2.2.2.2.2.2.2.1) (P.2.2.2.2.2.2.2.2.2.2.2.2.2.2.2.2.2.2.2.1) (P.2.2.2.2.2.2.2.2.2.2.2.2.2.2.2.2.2.2.2.2) m (i' + 1) K.2.1 (k + 1) (by omega) (by omega) hKl (by omega) (by omega) hv3 w3 C M hC hM9
theorem rI_eq (hx : txt ML MS RA RN) (hM : mI RA RS RN) (C : Int32 × (Nat → Int32) × Int32 × (Nat → Int32) × (Nat → Int32) × (Nat → Int32) × (Nat → Int32) × (Nat → Int32) × (Nat → Int32) × (Nat → Int32) × (Nat → Int32) × (Nat → Int32) × (Nat → Int32) × (Nat → Int32) × (Nat → Int32) × Int32 × Int32 × Int32 × Int32 × Int32 × Int32 × Int32 × Int32) (M : Int32 × (Nat → Int32) × Nat × Nat) (hC : C = r_readInto pl ps ML MS) (hM9 : M = m_fault RA RN) :
    C.1 = M.1 ∧ (M.1 = -4 → sQ (va_up (va_up (va_up (va_up (va_up (va_up (va_up (va_up (va_up (va_up (va_up (va_up pl 1 (C.2.2.2.1)) 2 (C.2.2.2.2.1)) 3 (C.2.2.2.2.2.1)) 4 (C.2.2.2.2.2.2.1)) 5 (C.2.2.2.2.2.2.2.1)) 6 (C.2.2.2.2.2.2.2.2.1)) 7 (C.2.2.2.2.2.2.2.2.2.1)) 8 (C.2.2.2.2.2.2.2.2.2.2.1)) 9 (C.2.2.2.2.2.2.2.2.2.2.2.1)) 10 (C.2.2.2.2.2.2.2.2.2.2.2.2.1)) 11 (C.2.2.2.2.2.2.2.2.2.2.2.2.2.1)) 12 (C.2.2.2.2.2.2.2.2.2.2.2.2.2.2.1)) (va_up (va_up (va_up (va_up (va_up (va_up (va_up (va_up ps 0 (C.2.2.2.2.2.2.2.2.2.2.2.2.2.2.2.1)) 13 (C.2.2.2.2.2.2.2.2.2.2.2.2.2.2.2.2.1)) 14 (C.2.2.2.2.2.2.2.2.2.2.2.2.2.2.2.2.2.1)) 15 (C.2.2.2.2.2.2.2.2.2.2.2.2.2.2.2.2.2.2.1)) 16 (C.2.2.2.2.2.2.2.2.2.2.2.2.2.2.2.2.2.2.2.1)) 17 (C.2.2.2.2.2.2.2.2.2.2.2.2.2.2.2.2.2.2.2.2.1)) 18 (C.2.2.2.2.2.2.2.2.2.2.2.2.2.2.2.2.2.2.2.2.2.1)) 19 (C.2.2.2.2.2.2.2.2.2.2.2.2.2.2.2.2.2.2.2.2.2.2)) (nbA RA M.2.1 (tK RA RS RN M.2.1 M.2.2.1)) (nbS RS (tK RA RS RN M.2.1 M.2.2.1)) (nbN RN M.2.2.1 (tK RA RS RN M.2.1 M.2.2.1))) :=
  rI_L hx hM 500 0 (ML 1) 0 (pl 1) (pl 2) (pl 3) (pl 4) (pl 5) ((p_clear pl).1) ((p_clear pl).2.1) ((p_clear pl).2.2.1) ((p_clear pl).2.2.2.1) ((p_clear pl).2.2.2.2.1) ((p_clear pl).2.2.2.2.2.1) ((p_clear pl).2.2.2.2.2.2.1) ((p_clear pl).2.2.2.2.2.2.2.1) ((p_clear pl).2.2.2.2.2.2.2.2.1) ((p_clear pl).2.2.2.2.2.2.2.2.2.1) ((p_clear pl).2.2.2.2.2.2.2.2.2.2.1) ((p_clear pl).2.2.2.2.2.2.2.2.2.2.2.1) ((p_clear pl).2.2.2.2.2.2.2.2.2.2.2.2.1) ((p_clear pl).2.2.2.2.2.2.2.2.2.2.2.2.2.1) ((p_clear pl).2.2.2.2.2.2.2.2.2.2.2.2.2.2) (RN 1 + 1) 0 (RA 2) 0 (by omega) (by omega) (by omega) (by omega) (by omega) (fun k hk => absurd hk (Nat.not_lt_zero k)) (sQ_0 (RA 2)) C M hC hM9
end SLAID
