/-! what roofs feel -/
theorem ld_36 {RA : Nat → Nat → Int32} : ∀ (n i : Nat) (f : Nat → Int32) (j : Nat), i + n ≤ 16 → m_load_L2 RA n i f j = if i ≤ j ∧ j < i + n then RA 21 j else f j :=
  fun n i f j h => upL (L := m_load_L2 RA) 16 (fun i _ => RA 21 i) (fun i f => by rw [m_load_L2.eq_1]) (fun n i f _ => by rw [m_load_L2.eq_2]) n i f j h
theorem ld_37 {RA : Nat → Nat → Int32} : ∀ (n i : Nat) (f : Nat → Int32) (j : Nat), i + n ≤ 24 → m_load_L28 RA n i f j = if i ≤ j ∧ j < i + n then RA 24 j else f j :=
  fun n i f j h => upL (L := m_load_L28 RA) 24 (fun i _ => RA 24 i) (fun i f => by rw [m_load_L28.eq_1]) (fun n i f _ => by rw [m_load_L28.eq_2]) n i f j h
theorem ld_39 : ∀ (n i : Nat) (f : Nat → Int32) (j : Nat), i + n ≤ 8 → m_load_L54 n i f j = if i ≤ j ∧ j < i + n then (-268435456) else f j :=
  fun n i f j h => upL (L := m_load_L54) 8 (fun _ _ => -268435456) (fun i f => by rw [m_load_L54.eq_1]) (fun n i f _ => by rw [m_load_L54.eq_2]) n i f j h
theorem load_eq (RA : Nat → Nat → Int32) (RS : Nat → Int32) : (∀ j, j < 16 → (m_load RA RS).1 j = RA 21 j) ∧ (∀ j, j < 24 → (m_load RA RS).2.1 j = RA 24 j) ∧ (∀ j, j < 8 → (m_load RA RS).2.2.1 j = -268435456) ∧ (m_load RA RS).2.2.2 = RS 26 := by
  unfold m_load m_load_k2 m_load_k28 m_load_k54
  refine ⟨fun j hj => ?_, fun j hj => ?_, fun j hj => ?_, rfl⟩
  · show m_load_L2 RA 16 0 (RA 36) j = _
    rw [ld_36 16 0 _ j (by omega), if_pos (by omega)]
  · show m_load_L28 RA 24 0 (RA 37) j = _
    rw [ld_37 24 0 _ j (by omega), if_pos (by omega)]
  · show m_load_L54 8 0 (RA 39) j = _
    rw [ld_39 8 0 _ j (by omega), if_pos (by omega)]
theorem i_cancel {b x : Int32} : b = b + x ↔ x = 0 := by
  constructor
  · intro h
    have h2 := congrArg (fun z => z - b) h
    simp only [Int32.add_comm b x, Int32.add_sub_cancel, Int32.sub_self] at h2
    exact h2.symm
  · intro h; rw [h, Int32.add_zero]
section SFEEL
variable {vl pl : Nat → Nat → Int32} {vs ps : Nat → Int32} {RA : Nat → Nat → Int32} {RS : Nat → Int32} {RN : Nat → Nat} {i : Nat}
theorem sf_bt (hi : i < 8) (e : Int32) {j : Nat} (hj : j < 32) : bt (v_staysFrom vl pl (nI i) e) j = (bt (vl 2 i) j && !(decide (j < 4) && !decide (e ≤ pl 8 (4 * i + j)))) := by
  unfold v_staysFrom
  rw [b_and, rg_in (by omega) (by omega), bt_not _ hj, sb_bt hi e hj]
  cases bt (vl 2 i) j <;> simp
theorem L137_bt (p : Int32) : ∀ (n k : Nat) (f : Nat → Int32), k + n ≤ 32 → (∀ j, j < 32 → bt (m_feel_L137 RA i p n k f i) j = (bt (f i) j && !(decide (k ≤ j ∧ j < k + n) && !decide (p ≤ RA 10 (4 * i + j))))) ∧ ∀ q, q ≠ i → m_feel_L137 RA i p n k f q = f q := by
  intro n
  induction n with
  | zero =>
    intro k f _
    rw [m_feel_L137.eq_1]
    exact ⟨fun j hj => by rw [decide_eq_false (by omega)]; simp, fun _ _ => rfl⟩
  | succ n ih =>
    intro k f h
    rw [m_feel_L137.eq_2]
    by_cases c : p ≤ RA 10 (4 * i + k)
    · rw [if_pos c]
      obtain ⟨h1, h2⟩ := ih (k + 1) (upd f i ((f i) &&& (-1))) (by omega)
      refine ⟨fun j hj => ?_, fun q hq => by rw [h2 q hq, pk_un hq]⟩
      rw [h1 j hj, pk_us, b_and, b_m1 j hj, Bool.and_true]
      by_cases e1 : j = k
      · subst e1; rw [decide_eq_true c, decide_eq_false (by omega)]; simp
      · rw [show decide (k + 1 ≤ j ∧ j < k + 1 + n) = decide (k ≤ j ∧ j < k + (n + 1)) from decide_eq_decide.mpr (by omega)]
    · rw [if_neg c]
      obtain ⟨h1, h2⟩ := ih (k + 1) (upd f i ((f i) &&& ((1 <<< ((nI k) &&& 31)) ^^^ (-1)))) (by omega)
      refine ⟨fun j hj => ?_, fun q hq => by rw [h2 q hq, pk_un hq]⟩
      rw [h1 j hj, pk_us, b_and, bt_not _ hj, bt_one (by omega) hj]
      by_cases e1 : j = k
      · subst e1; rw [decide_eq_false c, decide_eq_true (show j ≤ j ∧ j < j + (n + 1) by omega)]; simp
      · rw [show decide (k + 1 ≤ j ∧ j < k + 1 + n) = decide (k ≤ j ∧ j < k + (n + 1)) from decide_eq_decide.mpr (by omega), decide_eq_false (show ¬ k = j by omega)]; simp
/-- chances are those below and those that stay -/
theorem ch_split (hP : sP pl ps RA RS RN) (hM : mI RA RS RN) (hi : i < RN 4) (hz : ∀ k, k < 32 → (RA 12 i).toNatClampNeg ≤ k → bt (RA 22 i) k = false) (hs : vl 2 i = RA 22 i) (e : Int32) : m_chances RA i = m_below RA i e + p_tenthsOf pl (nI i) (v_staysFrom vl pl (nI i) e) := by
  have h8 := mI_many hM
  have hb := mI_bm hM i (by omega)
  unfold m_chances
  rw [tn_cut hP hM hi _ (fun k h1 h2 => by rw [sf_bt (by omega) e h1, hs, hz k h1 h2, Bool.false_and]), be_eq hM (by omega), be_eq hM (by omega)]
  refine sm_plus _ _ (fun k h1 h2 => ?_)
  have h9 := mI_bears hM (4 * i + k) (by omega)
  have h10 : ¬ (1000000 : Int32) ≤ RA 10 (4 * i + k) := by
    rw [Int32.le_iff_toInt_le]
    have : (1000000 : Int32).toInt = 1000000 := by decide
    omega
  rw [sf_bt (by omega) e (by omega), hs, (hP.2.2.1 i k hi (by omega)).1, decide_eq_true (show k < 4 by omega)]
  by_cases c : bt (RA 22 i) k = true
  · by_cases c2 : e ≤ RA 10 (4 * i + k)
    · simp [c, c2, h10]
    · simp [c, c2, h10]
  · simp [c]
end SFEEL
/-- the reference's state while it feels -/
def nF (RA : Nat → Nat → Int32) (g1 g2 g3 a36 a37 a39 : Nat → Int32) : Nat → Nat → Int32 := va_up (va_up (va_up (va_up (va_up (va_up RA 21 g1) 22 g2) 23 g3) 36 a36) 37 a37) 39 a39
def nG (vl : Nat → Nat → Int32) (f1 f2 f3 : Nat → Int32) : Nat → Nat → Int32 := va_up (va_up (va_up vl 1 f1) 2 f2) 3 f3
/-- what holds ahead of the i-th roof, on both sides -/
def fI (RA : Nat → Nat → Int32) (RN : Nat → Nat) (S0 : Int32) (a36 : Nat → Int32) (i : Nat) (v1 : Int32) (f1 f2 f3 g1 g2 g3 : Nat → Int32) (S : Int32) : Prop :=
  (eqF (2 * RN 4) f1 g1 ∧ (∀ j, 2 * i ≤ j → j < 2 * RN 4 → g1 j = a36 j) ∧ eqF (RN 4) f2 g2 ∧ eqF (RN 4) f3 g3) ∧
  ((∀ k, k < 32 → bt v1 k = (bt S0 k && !bt S k)) ∧ zB S (RN 4) ∧ ∀ k, k < 32 → bt S k = true → bt S0 k = true) ∧
  (∀ j, j < RN 4 → ∀ k, k < 32 → (RA 12 j).toNatClampNeg ≤ k → bt (g2 j) k = false) ∧
  (∀ j, j < 2 * RN 4 → 0 ≤ (g1 j).toInt ∧ (g1 j).toInt ≤ 999) ∧ (∀ j, j < RN 4 → bt S j = false → g1 (2 * j) = 0 ∧ g1 (2 * j + 1) = 0) ∧
  (∀ j, j < i → j < RN 4 → bt S j = true → ¬ m_chances (va_up RA 22 g2) j = 0)
section SFEEL2
variable {vl pl : Nat → Nat → Int32} {vs ps : Nat → Int32} {RA : Nat → Nat → Int32} {RS : Nat → Int32} {RN : Nat → Nat}
theorem be_cg {RA RA' : Nat → Nat → Int32} {i : Nat} (h22 : RA 22 i = RA' 22 i) (h10 : RA 10 = RA' 10) (h11 : RA 11 = RA' 11) (h12 : RA 12 = RA' 12) (e : Int32) : m_below RA i e = m_below RA' i e := by
  have key : ∀ (n k : Nat) (acc : Int32), m_below_L5 RA i e n k acc = m_below_L5 RA' i e n k acc := by
    intro n
    induction n with
    | zero => intro k acc; rw [m_below_L5.eq_1, m_below_L5.eq_1]
    | succ n ih => intro k acc; rw [m_below_L5.eq_2, m_below_L5.eq_2, h22, h10, h11]; simp only [ih]
  unfold m_below m_below_k5
  rw [h12, key]
theorem fe_L (hP : sP pl ps RA RS RN) (hM : mI RA RS RN) {S0 : Int32} {a36 a37 a39 : Nat → Int32} {s38 : Int32} (h4 : ∀ i, i < RN 4 → vl 4 i = RA 25 i) (h5 : ∀ i k, i < RN 4 → k < (RA 25 i).toNatClampNeg → vl 5 (3 * i + k) = a37 (3 * i + k)) (hB : ∀ j, j < 2 * RN 4 → 0 ≤ (a36 j).toInt ∧ (a36 j).toInt ≤ 999) :
    ∀ (n i : Nat) (v1 : Int32) (f1 f2 f3 g1 g2 g3 : Nat → Int32) (S : Int32), i + n ≤ RN 4 → fI RA RN S0 a36 i v1 f1 f2 f3 g1 g2 g3 S →
    fI RA RN S0 a36 (i + n) (v_feelAll_L4 vl vs pl ps n i v1 f1 f2 f3 S).1 (v_feelAll_L4 vl vs pl ps n i v1 f1 f2 f3 S).2.1 (v_feelAll_L4 vl vs pl ps n i v1 f1 f2 f3 S).2.2.1 (v_feelAll_L4 vl vs pl ps n i v1 f1 f2 f3 S).2.2.2.1 (m_feel_L6 RA RS a36 a37 a39 s38 n i g1 g2 g3 S).1 (m_feel_L6 RA RS a36 a37 a39 s38 n i g1 g2 g3 S).2.1 (m_feel_L6 RA RS a36 a37 a39 s38 n i g1 g2 g3 S).2.2.1 (m_feel_L6 RA RS a36 a37 a39 s38 n i g1 g2 g3 S).2.2.2 ∧ (v_feelAll_L4 vl vs pl ps n i v1 f1 f2 f3 S).2.2.2.2 = (m_feel_L6 RA RS a36 a37 a39 s38 n i g1 g2 g3 S).2.2.2 := by
  have h8 := mI_many hM
  intro n
  induction n with
  | zero => intro i v1 f1 f2 f3 g1 g2 g3 S _ h; rw [v_feelAll_L4.eq_1, m_feel_L6.eq_1]; exact ⟨h, rfl⟩
  | succ n ih =>
    intro i v1 f1 f2 f3 g1 g2 g3 S hin h
    have hi : i < RN 4 := by omega
    obtain ⟨⟨a1, a2, a3, a4⟩, ⟨b1, b2, b3⟩, c1, c2, c3, c4⟩ := h
    rw [v_feelAll_L4.eq_2, m_feel_L6.eq_2, show i + (n + 1) = i + 1 + n by omega]
    have hst : v_stands (va_up vs 8 S) ps (nI i) = 0 ↔ bt S i = false := st_bt (vs := va_up vs 8 S) hP.1 h8 b2 (by omega)
    by_cases s0 : bt S i = true
    · have ns : ¬ v_stands (va_up vs 8 S) ps (nI i) = 0 := fun q => by rw [hst, s0] at q; cases q
      have nm : ¬ m_has S (nI i) = 0 := fun q => by rw [bt_has0 _ (by omega), s0] at q; cases q
      rw [if_neg ns]
      -- the load
      have g2i : g1 (2 * i) = a36 (2 * i) := a2 _ (by omega) (by omega)
      have g2j : g1 (2 * i + 1) = a36 (2 * i + 1) := a2 _ (by omega) (by omega)
      have sm1 : smal (a36 (2 * i)) := smal_of (by have := hB (2 * i) (by omega); omega) (by have := hB (2 * i) (by omega); omega)
      have sm2 : smal (a36 (2 * i + 1)) := smal_of (by have := hB (2 * i + 1) (by omega); omega) (by have := hB (2 * i + 1) (by omega); omega)
      have hl : v_load (nG vl f1 f2 f3) pl ps (nI i) = m_felt (nF RA g1 g2 g3 a36 a37 a39) (va_up (va_up RS 26 S) 38 s38) i 0 0 :=
        ld0_eq (RA := nF RA g1 g2 g3 a36 a37 a39) (RS := va_up (va_up RS 26 S) 38 s38) (RN := RN) hM hP.2.2.2.2.2.2.1 (by omega) (hP.2.1 i hi).1.1 ((a1 _ (by omega)).trans g2i) ((a1 _ (by omega)).trans g2j) (h4 i hi) (fun k hk => h5 i k hi hk) sm1 sm2
      obtain ⟨p, hp⟩ : ∃ p, p = m_felt (nF RA g1 g2 g3 a36 a37 a39) (va_up (va_up RS 26 S) 38 s38) i 0 0 := ⟨_, rfl⟩
      rw [← hp] at hl
      obtain ⟨lf, hlf⟩ : ∃ z, z = v_staysFrom (nG vl f1 f2 f3) pl (nI i) p := ⟨_, rfl⟩
      have hsp := ch_split (vl := nG vl f1 f2 f3) (RA := nF RA g1 g2 g3 a36 a37 a39) (RS := va_up (va_up RS 26 S) 38 s38) (RN := RN) (pl := pl) (ps := ps) ⟨hP.1, hP.2.1, hP.2.2.1, hP.2.2.2.1, hP.2.2.2.2.1, hP.2.2.2.2.2.1, hP.2.2.2.2.2.2⟩ hM hi (c1 i hi) (a3 i hi) p
      rw [← hlf] at hsp
      have hlb : ∀ k, k < 32 → bt lf k = (bt (g2 i) k && !(decide (k < 4) && !decide (p ≤ pl 8 (4 * i + k)))) := fun k hk => by
        rw [hlf, sf_bt (by omega) p hk]
        show (bt (f2 i) k && _) = _
        rw [a3 i hi]
      have hfe : v_feel (nG vl f1 f2 f3) pl ps (nI i) = if p_tenthsOf pl (nI i) lf = 0 then (0, f2, f3) else (1, rs 8 f2 (nI i) lf, rs 8 f3 (nI i) (jmax (rg 8 f3 (nI i)) (v_pressWith (va_up (nG vl f1 f2 f3) 2 (rs 8 f2 (nI i) lf)) pl (nI i) 0 0))) := by
        unfold v_feel
        rw [hl, ← hlf]
        rfl
      have hb6 : m_feel_b6 RA RS a36 a37 a39 s38 i g1 g2 g3 S = if m_below (nF RA g1 g2 g3 a36 a37 a39) i p = m_chances (nF RA g1 g2 g3 a36 a37 a39) i then ((upd (upd g1 (2 * i) 0) ((2 * i) + 1) 0), g2, g3, (S &&& ((1 <<< ((nI i) &&& 31)) ^^^ (-1)))) else (if (m_pressOf (nF RA g1 g2 g3 a36 a37 a39) i (g1 (2 * i)) (g1 ((2 * i) + 1))) ≤ (g3 i) then (g1, (m_feel_L137 RA i p ((RA 12 i).toNatClampNeg) 0 g2), (upd g3 i (g3 i)), S) else (g1, (m_feel_L137 RA i p ((RA 12 i).toNatClampNeg) 0 g2), (upd g3 i (m_pressOf (nF RA g1 g2 g3 a36 a37 a39) i (g1 (2 * i)) (g1 ((2 * i) + 1)))), S)) := by
        unfold m_feel_b6 m_feel_b6_k137
        rw [if_neg nm]
        show (if m_below (nF RA g1 g2 g3 a36 a37 a39) i (m_felt (nF RA g1 g2 g3 a36 a37 a39) (va_up (va_up RS 26 S) 38 s38) i 0 0) = m_chances (nF RA g1 g2 g3 a36 a37 a39) i then _ else if m_pressOf (nF RA g1 g2 g3 a36 a37 a39) i (g1 (2 * i)) (g1 ((2 * i) + 1)) ≤ g3 i then (g1, m_feel_L137 RA i (m_felt (nF RA g1 g2 g3 a36 a37 a39) (va_up (va_up RS 26 S) 38 s38) i 0 0) _ 0 g2, _, S) else (g1, m_feel_L137 RA i (m_felt (nF RA g1 g2 g3 a36 a37 a39) (va_up (va_up RS 26 S) 38 s38) i 0 0) _ 0 g2, _, S)) = _
        rw [← hp]
        rfl
      rw [show va_up (va_up (va_up vl 1 f1) 2 f2) 3 f3 = nG vl f1 f2 f3 from rfl]
      by_cases gone : p_tenthsOf pl (nI i) lf = 0
      · have e1 : m_below (nF RA g1 g2 g3 a36 a37 a39) i p = m_chances (nF RA g1 g2 g3 a36 a37 a39) i := by rw [hsp, gone, Int32.add_zero]
        rw [if_pos gone] at hfe
        rw [if_pos e1] at hb6
        have ed : v_drop (va_up (va_up (va_up vl 1 f1) 2 (v_feel (nG vl f1 f2 f3) pl ps (nI i)).2.1) 3 (v_feel (nG vl f1 f2 f3) pl ps (nI i)).2.2) (va_up vs 8 S) (nI i) = (upd (upd f1 (2 * i) 0) (2 * i + 1) 0, S &&& ((1 <<< ((nI i) &&& 31)) ^^^ (-1))) := by
          unfold v_drop
          rw [nx21, nx2]
          show (rs 16 (rs 16 f1 (nI (2 * i)) 0) (nI (2 * i + 1)) 0, S &&& ((1 <<< ((nI i) &&& 31)) ^^^ (-1))) = _
          rw [rs_in (by omega) (by omega), rs_in (by omega) (by omega)]
        rw [if_pos (show (v_feel (nG vl f1 f2 f3) pl ps (nI i)).1 = 0 by rw [hfe])]
        have q := ih (i + 1) (v1 ||| (1 <<< ((nI i) &&& 31))) (upd (upd f1 (2 * i) 0) (2 * i + 1) 0) f2 f3 (upd (upd g1 (2 * i) 0) (2 * i + 1) 0) g2 g3 (S &&& ((1 <<< ((nI i) &&& 31)) ^^^ (-1))) (by omega) ?_
        · rw [hb6]
          rw [ed, hfe]
          exact q
        · have bs : ∀ k, k < 32 → bt (S &&& ((1 <<< ((nI i) &&& 31)) ^^^ (-1))) k = (bt S k && !decide (i = k)) := fun k hk => by rw [b_and, bt_not _ hk, bt_one (by omega) hk]
          refine ⟨⟨(a1.upd rfl).upd rfl, fun j h1 h2 => by rw [pk_un (by omega), pk_un (by omega)]; exact a2 j (by omega) h2, a3, a4⟩, ⟨fun k hk => ?_, fun k hk h1 => by rw [bs k hk, b2 k hk h1, Bool.false_and], fun k hk h1 => ?_⟩, c1, fun j hj => ?_, fun j hj h1 => ?_, fun j h1 h2 h3 => ?_⟩
          · rw [b_or, bt_one (by omega) hk, b1 k hk, bs k hk]
            by_cases e9 : i = k
            · subst e9; rw [s0, b3 i hk s0]; simp
            · simp [e9]
          · rw [bs k hk] at h1
            exact b3 k hk (by cases h9 : bt S k <;> simp_all)
          · by_cases z1 : j = 2 * i + 1
            · subst z1; rw [pk_us]; decide
            · rw [pk_un z1]
              by_cases z2 : j = 2 * i
              · subst z2; rw [pk_us]; decide
              · rw [pk_un z2]; exact c2 j hj
          · by_cases z : j = i
            · subst z
              refine ⟨?_, pk_us⟩
              rw [pk_un (by omega), pk_us]
            · rw [pk_un (k := 2 * i + 1) (j := 2 * j) (by omega), pk_un (k := 2 * i) (j := 2 * j) (by omega), pk_un (k := 2 * i + 1) (j := 2 * j + 1) (by omega), pk_un (k := 2 * i) (j := 2 * j + 1) (by omega)]
              refine c3 j hj ?_
              rw [bs j (by omega), decide_eq_false (Ne.symm z)] at h1
              simpa using h1
          · have hne : j ≠ i := fun q => by rw [bs j (by omega), q, decide_eq_true rfl] at h3; simp at h3
            rw [bs j (by omega)] at h3
            exact c4 j (by omega) h2 (by cases h9 : bt S j <;> simp_all)
      · have e1 : ¬ m_below (nF RA g1 g2 g3 a36 a37 a39) i p = m_chances (nF RA g1 g2 g3 a36 a37 a39) i := fun q => gone (by rw [hsp] at q; exact i_cancel.mp q)
        rw [if_neg gone] at hfe
        rw [if_neg e1] at hb6
        rw [if_neg (show ¬ (v_feel (nG vl f1 f2 f3) pl ps (nI i)).1 = 0 by rw [hfe]; exact (by decide : ¬ (1 : Int32) = 0))]
        have hpw : v_pressWith (va_up (nG vl f1 f2 f3) 2 (rs 8 f2 (nI i) lf)) pl (nI i) 0 0 = m_pressOf (nF RA g1 g2 g3 a36 a37 a39) i (g1 (2 * i)) (g1 (2 * i + 1)) := by
          have z := pw_eq (vl := va_up (nG vl f1 f2 f3) 2 (rs 8 f2 (nI i) lf)) (pl := pl) (RA := nF RA g1 g2 g3 a36 a37 a39) (i := i) (by omega) (hP.2.1 i hi).1.1 (l := g1 (2 * i)) (r := g1 (2 * i + 1)) (a1 _ (by omega)) (a1 _ (by omega)) (x := 0) (y := 0) (by rw [Int32.add_zero, g2i]; exact sm1) (by rw [Int32.add_zero, g2j]; exact sm2)
          rw [Int32.add_zero, Int32.add_zero] at z
          exact z
        obtain ⟨pr, hpr⟩ : ∃ z, z = m_pressOf (nF RA g1 g2 g3 a36 a37 a39) i (g1 (2 * i)) (g1 (2 * i + 1)) := ⟨_, rfl⟩
        rw [← hpr] at hpw hb6
        rw [hpw, rs_in (by omega) (by omega), rs_in (by omega) (by omega), rg_in (by omega) (by omega)] at hfe
        have hb9 : m_feel_b6 RA RS a36 a37 a39 s38 i g1 g2 g3 S = (g1, m_feel_L137 RA i p ((RA 12 i).toNatClampNeg) 0 g2, upd g3 i (jmax (g3 i) pr), S) := by
          rw [hb6]
          unfold jmax
          by_cases z : pr ≤ g3 i
          · rw [if_pos z, if_neg (Int32.not_lt.mpr z)]
          · rw [if_neg z, if_pos (Int32.not_le.mp z)]
        have hbm := mI_bm hM i (by omega)
        obtain ⟨k1, k2⟩ := L137_bt (RA := RA) (i := i) p ((RA 12 i).toNatClampNeg) 0 g2 (by omega)
        have hbi : m_feel_L137 RA i p ((RA 12 i).toNatClampNeg) 0 g2 i = lf := by
          apply b_ext
          intro k hk
          rw [k1 k hk, hlb k hk]
          by_cases z : k < (RA 12 i).toNatClampNeg
          · rw [(hP.2.2.1 i k hi z).1, decide_eq_true (show 0 ≤ k ∧ k < 0 + (RA 12 i).toNatClampNeg by omega), decide_eq_true (show k < 4 by omega)]
          · rw [c1 i hi k hk (by omega), Bool.false_and, Bool.false_and]
        rw [hb9, hfe]
        have q := ih (i + 1) v1 f1 (upd f2 i lf) (upd f3 i (jmax (f3 i) pr)) g1 (m_feel_L137 RA i p ((RA 12 i).toNatClampNeg) 0 g2) (upd g3 i (jmax (g3 i) pr)) S (by omega) ?_
        · exact q
        · refine ⟨⟨a1, fun j h1 h2 => a2 j (by omega) h2, fun j hj => ?_, a4.upd (by rw [a4 i hi])⟩, ⟨b1, b2, b3⟩, fun j hj k hk h1 => ?_, c2, c3, fun j h1 h2 h3 => ?_⟩
          · by_cases z : j = i
            · subst z; rw [pk_us, hbi]
            · rw [pk_un z, k2 j z]; exact a3 j hj
          · by_cases z : j = i
            · subst z; rw [k1 k hk, c1 j hj k hk h1, Bool.false_and]
            · rw [k2 j z]; exact c1 j hj k hk h1
          · by_cases z : j = i
            · subst z
              intro q9
              have hz9 := tn_cut hP hM hi lf (fun k h1 h2 => by rw [hlb k h1, c1 j hi k h1 h2, Bool.false_and])
              have hc9 : m_chances (va_up RA 22 (m_feel_L137 RA j p ((RA 12 j).toNatClampNeg) 0 g2)) j = p_tenthsOf pl (nI j) lf := by
                rw [hz9]
                unfold m_chances
                rw [be_eq (RA := va_up RA 22 (m_feel_L137 RA j p ((RA 12 j).toNatClampNeg) 0 g2)) (RS := RS) (RN := RN) hM (by omega)]
                refine sm_congr _ _ (fun k h4 h5 => ?_)
                have h5 : k < 0 + (RA 12 j).toNatClampNeg := h5
                have h9 := mI_bears hM (4 * j + k) (by omega)
                have h10 : ¬ (1000000 : Int32) ≤ RA 10 (4 * j + k) := by
                  rw [Int32.le_iff_toInt_le]
                  have : (1000000 : Int32).toInt = 1000000 := by decide
                  omega
                show (if bt (m_feel_L137 RA j p ((RA 12 j).toNatClampNeg) 0 g2 j) k = true ∧ ¬ 1000000 ≤ RA 10 (4 * j + k) then RA 11 (4 * j + k) else 0) = _
                rw [hbi]
                by_cases z9 : bt lf k = true
                · rw [if_pos ⟨z9, h10⟩, if_pos z9]
                · rw [if_neg (fun q => z9 q.1), if_neg z9]
              rw [hc9] at q9
              exact gone q9
            · have := c4 j (by omega) h2 h3
              unfold m_chances at this ⊢
              rw [be_cg (RA := va_up RA 22 (m_feel_L137 RA i p ((RA 12 i).toNatClampNeg) 0 g2)) (RA' := va_up RA 22 g2) (i := j) (by show m_feel_L137 RA i p ((RA 12 i).toNatClampNeg) 0 g2 j = g2 j; exact k2 j z) rfl rfl rfl]
              exact this
    · have s1 : bt S i = false := by cases h9 : bt S i <;> first | rfl | exact absurd h9 s0
      rw [if_pos (hst.mpr s1)]
      have hb6 : m_feel_b6 RA RS a36 a37 a39 s38 i g1 g2 g3 S = (g1, g2, g3, S) := by
        unfold m_feel_b6
        rw [if_pos ((bt_has0 _ (by omega)).mpr s1)]
      rw [hb6]
      exact ih (i + 1) v1 f1 f2 f3 g1 g2 g3 S (by omega) ⟨⟨a1, fun j h1 h2 => a2 j (by omega) h2, a3, a4⟩, ⟨b1, b2, b3⟩, c1, c2, c3, fun j h1 h2 h3 => by
        by_cases z : j = i
        · subst z; rw [s1] at h3; cases h3
        · exact c4 j (by omega) h2 h3⟩
end SFEEL2
