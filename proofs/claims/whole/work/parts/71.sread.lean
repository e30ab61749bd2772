/-! the class's plan is the reference's -/
def sP (pl : Nat → Nat → Int32) (ps : Nat → Int32) (RA : Nat → Nat → Int32) (RS : Nat → Int32) (RN : Nat → Nat) : Prop :=
  ps 0 = nI (RN 4) ∧
  (∀ i, i < RN 4 → (pl 2 i = RA 5 i ∧ pl 3 i = RA 6 i) ∧ (pl 4 i = RA 7 i ∧ pl 5 i = RA 8 i) ∧ pl 6 i = RA 9 i ∧ pl 7 i = RA 12 i) ∧
  (∀ i k, i < RN 4 → k < (RA 12 i).toNatClampNeg → pl 8 (4 * i + k) = RA 10 (4 * i + k) ∧ pl 9 (4 * i + k) = RA 11 (4 * i + k)) ∧
  (∀ k, k < 3 → pl 10 (2 * k) = RA 13 (3 * k) ∧ pl 10 (2 * k + 1) = RA 13 (3 * k + 1) ∧ pl 11 k = RA 13 (3 * k + 2)) ∧
  (∀ j, j < 9 → pl 12 j = RA 14 j) ∧
  (ps 14 = RS 15 ∧ ps 15 = RS 16 ∧ ps 16 = RS 17) ∧ ps 17 = RS 18 ∧ ps 18 = RS 19 ∧ ps 19 = RS 20
/-- B that are not told stay not -/
def rS (RA : Nat → Nat → Int32) (RN : Nat → Nat) : Prop := ∀ i, i < RN 4 → ∀ k, k < 32 → (RA 12 i).toNatClampNeg ≤ k → bt (RA 22 i) k = false
/-- a village of the class is the reference's view: its snow ahead, its props -/
def sV (vl : Nat → Nat → Int32) (vs : Nat → Int32) (RA : Nat → Nat → Int32) (RS : Nat → Int32) (RN : Nat → Nat) : Prop :=
  (∀ j, j < 2 * RN 4 → vl 1 j = RA 36 j) ∧ (∀ i, i < RN 4 → vl 2 i = RA 22 i ∧ vl 4 i = RA 25 i) ∧
  (∀ i k, i < RN 4 → k < (RA 25 i).toNatClampNeg → vl 5 (3 * i + k) = RA 37 (3 * i + k)) ∧ vs 8 = RS 38
/-- a number that may be added to and taken from without a thought -/
def smal (x : Int32) : Prop := -1000000 ≤ x.toInt ∧ x.toInt ≤ 1000000
section SREAD
variable {vl pl : Nat → Nat → Int32} {vs ps : Nat → Int32} {RA : Nat → Nat → Int32} {RS : Nat → Int32} {RN : Nat → Nat} {i : Nat}
theorem tn_L (hi : i < 8) (S : Int32) : ∀ (n k : Nat) (acc : Int32), k + n ≤ 4 → p_tenthsOf_L5 pl (nI i) S n k acc = acc + sm (fun k => if bt S k = true then pl 9 (4 * i + k) else 0) n k := by
  intro n
  induction n with
  | zero => intro k acc _; rw [p_tenthsOf_L5.eq_1]; exact (Int32.add_zero acc).symm
  | succ n ih =>
    intro k acc h
    rw [p_tenthsOf_L5.eq_2]
    show _ = acc + ((if bt S k = true then pl 9 (4 * i + k) else 0) + sm _ n (k + 1))
    by_cases c : bt S k = true
    · rw [if_pos ((bt_c S (by omega)).mpr c), ih (k + 1) _ (by omega), if_pos c, nx4, rg_in (by omega) (by omega), Int32.add_assoc]
    · rw [if_neg (fun q => c ((bt_c S (by omega)).mp q)), ih (k + 1) _ (by omega), if_neg c, Int32.zero_add]
theorem tn_eq (hi : i < 8) (S : Int32) : p_tenthsOf pl (nI i) S = sm (fun k => if bt S k = true then pl 9 (4 * i + k) else 0) 4 0 := by
  unfold p_tenthsOf p_tenthsOf_k5
  rw [tn_L hi S 4 0 0 (by omega), Int32.zero_add]
theorem be_L (e : Int32) : ∀ (n k : Nat) (acc : Int32), k + n ≤ 32 → m_below_L5 RA i e n k acc = acc + sm (fun k => if bt (RA 22 i) k = true ∧ ¬ e ≤ RA 10 (4 * i + k) then RA 11 (4 * i + k) else 0) n k := by
  intro n
  induction n with
  | zero => intro k acc _; rw [m_below_L5.eq_1]; exact (Int32.add_zero acc).symm
  | succ n ih =>
    intro k acc h
    rw [m_below_L5.eq_2]
    show _ = acc + ((if bt (RA 22 i) k = true ∧ ¬ e ≤ RA 10 (4 * i + k) then RA 11 (4 * i + k) else 0) + sm _ n (k + 1))
    by_cases c : bt (RA 22 i) k = true
    · rw [if_neg (fun q => by rw [bt_has0 _ (by omega), c] at q; cases q)]
      by_cases c2 : e ≤ RA 10 (4 * i + k)
      · rw [if_pos c2, ih (k + 1) _ (by omega), if_neg (fun q => q.2 c2), Int32.add_zero, Int32.zero_add]
      · rw [if_neg c2, ih (k + 1) _ (by omega), if_pos ⟨c, c2⟩, Int32.add_assoc]
    · rw [if_pos ((bt_has0 _ (by omega)).mpr (by cases h9 : bt (RA 22 i) k <;> first | rfl | exact absurd h9 c)), ih (k + 1) _ (by omega), if_neg (fun q => c q.1), Int32.add_zero, Int32.zero_add]
theorem be_eq (hM : mI RA RS RN) (hi : i < 8) (e : Int32) : m_below RA i e = sm (fun k => if bt (RA 22 i) k = true ∧ ¬ e ≤ RA 10 (4 * i + k) then RA 11 (4 * i + k) else 0) (RA 12 i).toNatClampNeg 0 := by
  unfold m_below m_below_k5
  rw [be_L e _ 0 0 (by have := mI_bm hM i hi; omega), Int32.zero_add]
theorem sb_L (hi : i < 8) (e : Int32) : ∀ (n k : Nat) (acc : Int32) (j : Nat), k + n ≤ 4 → j < 32 → bt (v_staysBelow_L5 pl (nI i) e n k acc) j = (bt acc j || (decide (k ≤ j ∧ j < k + n) && !decide (e ≤ pl 8 (4 * i + j)))) := by
  intro n
  induction n with
  | zero => intro k acc j _ hj; rw [v_staysBelow_L5.eq_1, decide_eq_false (by omega), Bool.false_and, Bool.or_false]
  | succ n ih =>
    intro k acc j h hj
    rw [v_staysBelow_L5.eq_2, nx4, rg_in (by omega) (by omega)]
    by_cases c : e ≤ pl 8 (4 * i + k)
    · rw [if_pos c, ih (k + 1) _ j (by omega) hj]
      by_cases e1 : j = k
      · subst e1
        rw [decide_eq_true c, decide_eq_false (by omega)]
        simp
      · rw [show decide (k + 1 ≤ j ∧ j < k + 1 + n) = decide (k ≤ j ∧ j < k + (n + 1)) from decide_eq_decide.mpr (by omega)]
    · rw [if_neg c, ih (k + 1) _ j (by omega) hj, b_or, bt_one (by omega) hj]
      by_cases e1 : j = k
      · subst e1
        rw [decide_eq_false c, decide_eq_true (show j ≤ j ∧ j < j + (n + 1) by omega)]
        simp
      · rw [show decide (k + 1 ≤ j ∧ j < k + 1 + n) = decide (k ≤ j ∧ j < k + (n + 1)) from decide_eq_decide.mpr (by omega), decide_eq_false (show ¬ k = j by omega), Bool.or_false]
theorem sb_bt (hi : i < 8) (e : Int32) {j : Nat} (hj : j < 32) : bt (v_staysBelow vl pl (nI i) e) j = (bt (vl 2 i) j && (decide (j < 4) && !decide (e ≤ pl 8 (4 * i + j)))) := by
  unfold v_staysBelow v_staysBelow_k5
  rw [b_and, rg_in (by omega) (by omega), sb_L hi e 4 0 0 j (by omega) hj, b_0, Bool.false_or]
  rw [show decide (0 ≤ j ∧ j < 0 + 4) = decide (j < 4) from decide_eq_decide.mpr (by omega)]
theorem tn_cut (hP : sP pl ps RA RS RN) (hM : mI RA RS RN) (hi : i < RN 4) (S : Int32) (hz : ∀ k, k < 32 → (RA 12 i).toNatClampNeg ≤ k → bt S k = false) : p_tenthsOf pl (nI i) S = sm (fun k => if bt S k = true then RA 11 (4 * i + k) else 0) (RA 12 i).toNatClampNeg 0 := by
  have h8 := mI_many hM
  have hb := mI_bm hM i (by omega)
  rw [tn_eq (by omega) S, show (4 : Nat) = (RA 12 i).toNatClampNeg + (4 - (RA 12 i).toNatClampNeg) by omega, sm_add]
  rw [show (RA 12 i).toNatClampNeg + (4 - (RA 12 i).toNatClampNeg) = 4 by omega]
  rw [sm_zero (4 - (RA 12 i).toNatClampNeg) (0 + (RA 12 i).toNatClampNeg) (fun k h1 h2 => by rw [hz k (by omega) (by omega)]; rfl), Int32.add_zero]
  exact sm_congr _ _ (fun k h1 h2 => by rw [(hP.2.2.1 i k hi (by omega)).2])
theorem cb_eq (hP : sP pl ps RA RS RN) (hM : mI RA RS RN) (hz : rS RA RN) (hi : i < RN 4) (hs : vl 2 i = RA 22 i) (e : Int32) : v_chancesBelow vl pl (nI i) e = m_below RA i e := by
  have h8 := mI_many hM
  have hb := mI_bm hM i (by omega)
  unfold v_chancesBelow
  rw [tn_cut hP hM hi _ (fun k h1 h2 => by rw [sb_bt (by omega) e h1, hs, hz i hi k h1 h2, Bool.false_and]), be_eq hM (by omega)]
  refine sm_congr _ _ (fun k h1 h2 => ?_)
  rw [sb_bt (by omega) e (by omega), hs, decide_eq_true (show k < 4 by omega), (hP.2.2.1 i k hi (by omega)).1]
  by_cases c : bt (RA 22 i) k = true
  · by_cases c2 : e ≤ RA 10 (4 * i + k)
    · simp [c, c2]
    · simp [c, c2]
  · simp [c]
theorem ch_eq (hP : sP pl ps RA RS RN) (hM : mI RA RS RN) (hz : rS RA RN) (hi : i < RN 4) (hs : vl 2 i = RA 22 i) : v_chances vl pl (nI i) = m_chances RA i := by
  have h8 := mI_many hM
  have hb := mI_bm hM i (by omega)
  unfold v_chances m_chances
  rw [rg_in (by omega) (by omega), hs, tn_cut hP hM hi _ (fun k h1 h2 => hz i hi k h1 h2), be_eq hM (by omega)]
  refine sm_congr _ _ (fun k h1 h2 => ?_)
  have h9 := mI_bears hM (4 * i + k) (by omega)
  have h10 : ¬ (1000000 : Int32) ≤ RA 10 (4 * i + k) := by
    rw [Int32.le_iff_toInt_le]
    have : (1000000 : Int32).toInt = 1000000 := by decide
    omega
  by_cases c : bt (RA 22 i) k = true
  · simp [c, h10]
  · simp [c]
theorem sm_one {f : Nat → Int32} {j : Nat} : ∀ (n i : Nat), i ≤ j → j < i + n → (∀ k, i ≤ k → k < i + n → k ≠ j → f k = 0) → sm f n i = f j := by
  intro n
  induction n with
  | zero => intro i h1 h2; omega
  | succ n ih =>
    intro i h1 h2 h
    show f i + sm f n (i + 1) = f j
    by_cases e : i = j
    · subst e
      rw [sm_zero n (i + 1) (fun k q1 q2 => h k (by omega) (by omega) (by omega)), Int32.add_zero]
    · rw [h i (by omega) (by omega) e, ih (i + 1) (by omega) (by omega) (fun k q1 q2 q3 => h k (by omega) (by omega) q3), Int32.zero_add]
theorem co_eq (hP : sP pl ps RA RS RN) (hM : mI RA RS RN) (hz : rS RA RN) (hi : i < RN 4) (hs : vl 2 i = RA 22 i) {k : Nat} (hk : k < 4) : v_chanceOf vl pl (nI i) (nI k) = if bt (RA 22 i) k = true then RA 11 (4 * i + k) else 0 := by
  have h8 := mI_many hM
  have hb := mI_bm hM i (by omega)
  unfold v_chanceOf
  have hbt : ∀ j, j < 32 → bt ((rg 8 (vl 2) (nI i)) &&& (1 <<< ((nI k) &&& 31))) j = (bt (RA 22 i) j && decide (k = j)) := fun j hj => by
    rw [b_and, rg_in (by omega) (by omega), hs, bt_one (by omega) hj]
  rw [tn_cut hP hM hi _ (fun j h1 h2 => by rw [hbt j h1, hz i hi j h1 h2, Bool.false_and])]
  by_cases c : k < (RA 12 i).toNatClampNeg
  · rw [sm_one (j := k) _ 0 (by omega) (by omega) (fun j h1 h2 h3 => by rw [hbt j (by omega), decide_eq_false (Ne.symm h3), Bool.and_false]; rfl)]
    rw [hbt k (by omega), decide_eq_true rfl, Bool.and_true]
  · rw [hz i hi k (by omega) (by omega), sm_zero _ 0 (fun j h1 h2 => by rw [hbt j (by omega), decide_eq_false (by omega), Bool.and_false]; rfl)]
    rfl
end SREAD
