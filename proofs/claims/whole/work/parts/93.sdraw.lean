/-! what is drawn -/
theorem draw_eq (a b c : Int32) : o_draw a b c = m_draw a b c := rfl
theorem ti_rest {d c : Int32} (hc : 0 < c.toInt) : (d - d / c * c).toInt = d.toInt.tmod c.toInt ∧ (d.toInt.tmod c.toInt) < c.toInt ∧ -c.toInt < d.toInt.tmod c.toInt := by
  have h1 := Int.tmod_lt_of_pos d.toInt hc
  have h2 := Int.lt_tmod_of_pos d.toInt hc
  have h3 := Int.mul_tdiv_add_tmod d.toInt c.toInt
  have b1 := Int32.toInt_lt d
  have b2 := Int32.le_toInt d
  have b3 := Int32.toInt_lt c
  have n1 : (d.toInt.tdiv c.toInt).natAbs ≤ d.toInt.natAbs := Int.natAbs_tdiv_le_natAbs _ _
  refine ⟨?_, h1, h2⟩
  have hq : -2147483648 ≤ d.toInt.tdiv c.toInt ∧ d.toInt.tdiv c.toInt < 2147483648 := by
    constructor
    · omega
    · rcases Int.lt_or_le d.toInt 0 with q | q
      · have z : d.toInt.tdiv c.toInt ≤ 0 := by
          have := Int.tdiv_nonneg (a := -d.toInt) (b := c.toInt) (by omega) (by omega)
          rw [Int.neg_tdiv] at this; omega
        omega
      · omega
  have e1 : (d / c).toInt = d.toInt.tdiv c.toInt := by
    rw [Int32.toInt_div]
    exact Int.bmod_eq_of_le (by omega) (by omega)
  have e2 : d.toInt.tdiv c.toInt * c.toInt = d.toInt - d.toInt.tmod c.toInt := by rw [Int.mul_comm]; omega
  have hs : -2147483648 ≤ d.toInt - d.toInt.tmod c.toInt ∧ d.toInt - d.toInt.tmod c.toInt < 2147483648 := by
    rcases Int.lt_or_le d.toInt 0 with q | q
    · have t1 : d.toInt.tmod c.toInt ≤ 0 := by
        have := Int.tmod_nonneg c.toInt (a := -d.toInt) (by omega)
        rw [Int.neg_tmod] at this; omega
      have t2 : d.toInt ≤ d.toInt.tmod c.toInt := by
        have z := Int.tdiv_nonneg (a := -d.toInt) (b := c.toInt) (by omega) (by omega)
        rw [Int.neg_tdiv] at z
        have : 0 ≤ -(d.toInt.tdiv c.toInt) * c.toInt := Int.mul_nonneg z (by omega)
        rw [Int.neg_mul] at this; omega
      omega
    · have t1 := Int.tmod_nonneg c.toInt (a := d.toInt) q
      have t2 : d.toInt.tmod c.toInt ≤ d.toInt := by
        have z := Int.tdiv_nonneg (a := d.toInt) (b := c.toInt) q (by omega)
        have : 0 ≤ d.toInt.tdiv c.toInt * c.toInt := Int.mul_nonneg z (by omega)
        omega
      omega
  have e3 : (d / c * c).toInt = d.toInt - d.toInt.tmod c.toInt := by
    rw [ti_mul (by rw [e1, e2]; omega) (by rw [e1, e2]; omega), e1, e2]
  rw [ti_sub (by rw [e3]; omega) (by rw [e3]; omega), e3]
  omega
theorem sm_bd {f : Nat → Int32} : ∀ (n i : Nat), n ≤ 100 → (∀ k, i ≤ k → k < i + n → 0 ≤ (f k).toInt ∧ (f k).toInt ≤ 10) → 0 ≤ (sm f n i).toInt ∧ (sm f n i).toInt ≤ 10 * n := by
  intro n
  induction n with
  | zero => intro i _ _; rw [show sm f 0 i = 0 from rfl]; exact ⟨by decide, by decide⟩
  | succ n ih =>
    intro i hn h
    have q := ih (i + 1) (by omega) (fun k h1 h2 => h k (by omega) (by omega))
    have r := h i (by omega) (by omega)
    show 0 ≤ (f i + sm f n (i + 1)).toInt ∧ (f i + sm f n (i + 1)).toInt ≤ _
    rw [ti_add (by omega) (by omega)]
    omega
section SDRAW
variable {vl pl : Nat → Nat → Int32} {vs ps : Nat → Int32} {RA : Nat → Nat → Int32} {RS : Nat → Int32} {RN : Nat → Nat}
/-- a strength's tenths, where it may still be -/
def tT (RA : Nat → Nat → Int32) (i k : Nat) : Int32 := if bt (RA 22 i) k = true then RA 11 (4 * i + k) else 0
theorem L42_s {i n k : Nat} {v3 : Int32} (hk : k < 32) : m_drawBears_L42 RA i (n + 1) k v3 (-4) = if tT RA i k ≤ v3 then m_drawBears_L42 RA i n (k + 1) (v3 - tT RA i k) (-4) else m_drawBears_L42 RA i n (k + 1) (v3 - tT RA i k) (nI k) := by
  rw [m_drawBears_L42.eq_2, if_pos rfl]
  unfold tT
  by_cases c : bt (RA 22 i) k = true
  · rw [if_neg (show ¬ m_has (RA 22 i) (nI k) = 0 from fun q => by rw [bt_has0 _ hk, c] at q; exact absurd q (by decide)), if_pos c]
  · rw [if_pos (show m_has (RA 22 i) (nI k) = 0 from (bt_has0 _ hk).mpr (by simpa using c)), if_neg c]
theorem L42_k {i n k : Nat} {v3 v4 : Int32} (h : ¬ v4 = -4) : (m_drawBears_L42 RA i n k v3 v4).2 = v4 := by
  cases n with
  | zero => rw [m_drawBears_L42.eq_1]
  | succ n => rw [m_drawBears_L42.eq_2, if_neg h]
theorem dr_L (hP : sP pl ps RA RS RN) (hM : mI RA RS RN) (hz : rS RA RN) {i : Nat} (hi : i < RN 4) (hs : vl 2 i = RA 22 i) {v2 : Int32} (w1 : -100 ≤ v2.toInt) (w2 : v2.toInt ≤ 100) :
    ∀ (n k : Nat) (acc v3 : Int32), k + n = (RA 12 i).toNatClampNeg → 0 ≤ acc.toInt → acc.toInt ≤ 10 * k → v3.toInt + acc.toInt = v2.toInt → v3.toInt < (sm (tT RA i) n k).toInt → (n = 0 → 0 ≤ v3.toInt) →
    v_bearingAt_L5 vl pl (nI i) v2 (n + (4 - (RA 12 i).toNatClampNeg)) k acc = RA 10 (4 * i + (m_drawBears_L42 RA i n k v3 (-4)).2.toNatClampNeg) := by
  have h8 := mI_many hM
  have hb := mI_bm hM i (by omega)
  intro n
  induction n with
  | zero =>
    intro k acc v3 _ _ _ _ h5 h6
    have h5 : v3.toInt < 0 := h5
    have := h6 rfl
    omega
  | succ n ih =>
    intro k acc v3 h1 h2 h3 h4 h5 _
    have hT : ∀ j, j < 4 → 0 ≤ (tT RA i j).toInt ∧ (tT RA i j).toInt ≤ 10 := fun j hj => by
      unfold tT
      by_cases c : bt (RA 22 i) j = true
      · rw [if_pos c]; exact mI_ten hM _ (by omega)
      · rw [if_neg c]; decide
    have ht := hT k (by omega)
    have hb2 := sm_bd (f := tT RA i) n (k + 1) (by omega) (fun j _ hj => hT j (by omega))
    have h5 : v3.toInt < (tT RA i k + sm (tT RA i) n (k + 1)).toInt := h5
    rw [ti_add (by omega) (by omega)] at h5
    rw [show n + 1 + (4 - (RA 12 i).toNatClampNeg) = (n + (4 - (RA 12 i).toNatClampNeg)) + 1 by omega, v_bearingAt_L5.eq_2, L42_s (by omega), co_eq hP hM hz hi hs (k := k) (by omega)]
    show (if acc + tT RA i k ≤ v2 then v_bearingAt_L5 vl pl (nI i) v2 _ (k + 1) (acc + tT RA i k) else _) = _
    have ea : (acc + tT RA i k).toInt = acc.toInt + (tT RA i k).toInt := ti_add (by omega) (by omega)
    by_cases c : tT RA i k ≤ v3
    · rw [if_pos c]
      rw [ti_le] at c
      have es : (v3 - tT RA i k).toInt = v3.toInt - (tT RA i k).toInt := ti_sub (by omega) (by omega)
      rw [if_pos (show acc + tT RA i k ≤ v2 by rw [ti_le, ea]; omega)]
      exact ih (k + 1) _ _ (by omega) (by omega) (by omega) (by omega) (by omega) (fun _ => by omega)
    · rw [if_neg c]
      rw [ti_le] at c
      have hne : ¬ nI k = -4 := fun e => by
        have e := congrArg Int32.toInt e
        rw [nI_toInt (by omega), show (-4 : Int32).toInt = -4 by decide] at e
        omega
      rw [if_neg (show ¬ acc + tT RA i k ≤ v2 by rw [ti_le, ea]; omega), L42_k hne, nI_clamp (by omega), nx4, rg_in (by omega) (by omega)]
      exact (hP.2.2.1 i k hi (by omega)).1
end SDRAW
