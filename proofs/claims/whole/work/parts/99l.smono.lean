/-! what is lost never gets less by an hour more -/
theorem sm_mono {f g : Nat → Int32} : ∀ (n i : Nat), n ≤ 100 → (∀ k, i ≤ k → k < i + n → 0 ≤ (f k).toInt ∧ (f k).toInt ≤ (g k).toInt ∧ (g k).toInt ≤ 10) → (sm f n i).toInt ≤ (sm g n i).toInt := by
  intro n
  induction n with
  | zero => intro i _ _; exact Int.le_refl _
  | succ n ih =>
    intro i hn h
    have q := ih (i + 1) (by omega) (fun k h1 h2 => h k (by omega) (by omega))
    have b1 := sm_bd (f := f) n (i + 1) (by omega) (fun k h1 h2 => ⟨(h k (by omega) (by omega)).1, by have := h k (by omega) (by omega); omega⟩)
    have b2 := sm_bd (f := g) n (i + 1) (by omega) (fun k h1 h2 => ⟨by have := h k (by omega) (by omega); omega, (h k (by omega) (by omega)).2.2⟩)
    have h0 := h i (by omega) (by omega)
    show (f i + sm f n (i + 1)).toInt ≤ (g i + sm g n (i + 1)).toInt
    rw [ti_add (by omega) (by omega), ti_add (by omega) (by omega)]
    omega
section SMONO
variable {RA RA' : Nat → Nat → Int32} {RS : Nat → Int32} {RN : Nat → Nat}
theorem be_mono (hM : mI RA RS RN) {i : Nat} (hi : i < 8) {e e' : Int32} (h : e.toInt ≤ e'.toInt) : (m_below RA i e).toInt ≤ (m_below RA i e').toInt := by
  have hb := mI_bm hM i hi
  rw [be_eq hM hi, be_eq hM hi]
  refine sm_mono _ _ (by omega) (fun k h1 h2 => ?_)
  have ht := mI_ten hM (4 * i + k) (by omega)
  by_cases c : bt (RA 22 i) k = true
  · by_cases c1 : e ≤ RA 10 (4 * i + k)
    · rw [if_neg (fun q => q.2 c1), ti_0]
      by_cases c2 : e' ≤ RA 10 (4 * i + k)
      · rw [if_neg (fun q => q.2 c2), ti_0]; exact ⟨by omega, by omega, by omega⟩
      · rw [if_pos ⟨c, c2⟩]; exact ⟨by omega, by omega, by omega⟩
    · have c2 : ¬ e' ≤ RA 10 (4 * i + k) := by rw [ti_le] at c1 ⊢; omega
      rw [if_pos ⟨c, c1⟩, if_pos ⟨c, c2⟩]; exact ⟨by omega, by omega, by omega⟩
  · rw [if_neg (fun q => c q.1), if_neg (fun q => c q.1), ti_0]; exact ⟨by omega, by omega, by omega⟩
/-- one roof's share -/
theorem lost_1 {w : Int64} {b c : Int32} (h1 : 0 ≤ w.toInt) (h2 : w.toInt ≤ 200000) (h3 : 0 ≤ b.toInt) (h4 : b.toInt ≤ 40) (h5 : 0 < c.toInt) : (w * 1000000 * b.toInt64 / c.toInt64).toInt = w.toInt * 1000000 * b.toInt / c.toInt ∧ 0 ≤ w.toInt * 1000000 * b.toInt / c.toInt ∧ w.toInt * 1000000 * b.toInt / c.toInt ≤ 10000000000000 := by
  have e6 : (1000000 : Int64).toInt = 1000000 := by decide
  have m1 : (w * 1000000).toInt = w.toInt * 1000000 := by
    rw [Int64.toInt_mul, e6]; exact Int.bmod_eq_of_le (by omega) (by omega)
  have p1 : w.toInt * 1000000 * b.toInt ≤ w.toInt * 1000000 * 40 := Int.mul_le_mul_of_nonneg_left h4 (by omega)
  have p0 : 0 ≤ w.toInt * 1000000 * b.toInt := Int.mul_nonneg (by omega) h3
  have m2 : (w * 1000000 * b.toInt64).toInt = w.toInt * 1000000 * b.toInt := by
    rw [Int64.toInt_mul, m1, ki2l]; exact Int.bmod_eq_of_le (by omega) (by omega)
  have d := tl_div (a := w * 1000000 * b.toInt64) (b := c.toInt64) (by rw [m2]; exact p0) (by rw [ki2l]; exact h5)
  rw [m2, ki2l] at d
  have q1 := Int.ediv_nonneg p0 (Int.le_of_lt h5)
  have q2 := Int.ediv_le_self c.toInt p0
  exact ⟨d, q1, by omega⟩
theorem lost_L (hM : mI RA RS RN) (hB : rB RA RS RN) (hC : mC RA RS RN) (e7 : RA' 7 = RA 7) (e9 : RA' 9 = RA 9) (e10 : RA' 10 = RA 10) (e11 : RA' 11 = RA 11) (e12 : RA' 12 = RA 12) (e22 : RA' 22 = RA 22) (h39 : ∀ j, j < RN 4 → (RA 39 j).toInt ≤ (RA' 39 j).toInt) :
    ∀ (n i : Nat) (v v' : Int64), i + n ≤ RN 4 → 0 ≤ v.toInt → v.toInt ≤ v'.toInt → v'.toInt ≤ i * 10000000000000 → 0 ≤ (m_lost_L4 RA RS n i v).toInt ∧ (m_lost_L4 RA RS n i v).toInt ≤ (m_lost_L4 RA' RS n i v').toInt ∧ (m_lost_L4 RA' RS n i v').toInt ≤ (i + n : Nat) * 10000000000000 := by
  have h8 := mI_many hM
  intro n
  induction n with
  | zero => intro i v v' _ h1 h2 h3; rw [m_lost_L4.eq_1, m_lost_L4.eq_1]; exact ⟨h1, h2, h3⟩
  | succ n ih =>
    intro i v v' hin h1 h2 h3
    rw [m_lost_L4.eq_2, m_lost_L4.eq_2]
    by_cases c : m_has (RS 26) (nI i) = 0
    · rw [if_pos c, if_pos c]
      have q := ih (i + 1) v v' (by omega) h1 h2 (by omega)
      exact ⟨q.1, q.2.1, by omega⟩
    · rw [if_neg c, if_neg c]
      have hi : i < RN 4 := by omega
      have hne := hC i hi c
      have hnn : 0 ≤ (m_chances RA i).toInt := by refine m_chances_nn hM ?_ ?_ (by omega) <;> rfl
      have hcp : 0 < (m_chances RA i).toInt := by
        rcases Int.lt_or_eq_of_le hnn with q | q
        · exact q
        · exact absurd (Int32.toInt_inj.mp (by rw [ti_0]; exact q.symm)) hne
      have ec : m_chances RA' i = m_chances RA i := by unfold m_chances; exact m_below_congr e10 e11 e12 e22 i _
      have eb : m_below RA' i (RA' 39 i) = m_below RA i (RA' 39 i) := m_below_congr e10 e11 e12 e22 i _
      have b1 := m_below_rng hM (i := i) (by omega) (RA 39 i)
      have b2 := m_below_rng hM (i := i) (by omega) (RA' 39 i)
      have mo := be_mono hM (i := i) (by omega) (h39 i hi)
      have hw := hB.1 i hi
      have hs := hB.2.2.2.2.2.2.2.2.2
      have wm : 0 ≤ (RS 20).toInt * (RA 9 i).toInt ∧ (RS 20).toInt * (RA 9 i).toInt ≤ 999 * 99 := ⟨Int.mul_nonneg hs.1 hw.2.2.2.2.1, Int.mul_le_mul hs.2 hw.2.2.2.2.2 hw.2.2.2.2.1 (by decide)⟩
      have w2 : (RS 20 * RA 9 i).toInt = (RS 20).toInt * (RA 9 i).toInt := ti_mul (by omega) (by omega)
      have w3 : (RA 7 i + RS 20 * RA 9 i).toInt = (RA 7 i).toInt + (RS 20).toInt * (RA 9 i).toInt := by rw [ti_add (by omega) (by omega), w2]
      obtain ⟨w, hw5⟩ : ∃ w, w = (RA 7 i + RS 20 * RA 9 i).toInt64 := ⟨_, rfl⟩
      have w4 : 0 ≤ w.toInt ∧ w.toInt ≤ 200000 := by rw [hw5, ki2l, w3]; omega
      rw [e7, e9, ec, eb, ← hw5]
      obtain ⟨s1, s2, s3⟩ := lost_1 w4.1 w4.2 b1.1 b1.2 hcp
      obtain ⟨t1, t2, t3⟩ := lost_1 w4.1 w4.2 b2.1 b2.2 hcp
      have mm : w.toInt * 1000000 * (m_below RA i (RA 39 i)).toInt / (m_chances RA i).toInt ≤ w.toInt * 1000000 * (m_below RA i (RA' 39 i)).toInt / (m_chances RA i).toInt :=
        Int.ediv_le_ediv hcp (Int.mul_le_mul_of_nonneg_left mo (by omega))
      have a1 : (v + w * 1000000 * (m_below RA i (RA 39 i)).toInt64 / (m_chances RA i).toInt64).toInt = v.toInt + w.toInt * 1000000 * (m_below RA i (RA 39 i)).toInt / (m_chances RA i).toInt := by
        rw [Int64.toInt_add, s1]; exact Int.bmod_eq_of_le (by omega) (by omega)
      have a2 : (v' + w * 1000000 * (m_below RA i (RA' 39 i)).toInt64 / (m_chances RA i).toInt64).toInt = v'.toInt + w.toInt * 1000000 * (m_below RA i (RA' 39 i)).toInt / (m_chances RA i).toInt := by
        rw [Int64.toInt_add, t1]; exact Int.bmod_eq_of_le (by omega) (by omega)
      have q := ih (i + 1) (v + w * 1000000 * (m_below RA i (RA 39 i)).toInt64 / (m_chances RA i).toInt64) (v' + w * 1000000 * (m_below RA i (RA' 39 i)).toInt64 / (m_chances RA i).toInt64) (by omega) (by rw [a1]; omega) (by rw [a1, a2]; omega) (by rw [a2]; omega)
      exact ⟨q.1, q.2.1, by omega⟩
theorem lost_mono (hM : mI RA RS RN) (hB : rB RA RS RN) (hC : mC RA RS RN) (e7 : RA' 7 = RA 7) (e9 : RA' 9 = RA 9) (e10 : RA' 10 = RA 10) (e11 : RA' 11 = RA 11) (e12 : RA' 12 = RA 12) (e22 : RA' 22 = RA 22) (h39 : ∀ j, j < RN 4 → (RA 39 j).toInt ≤ (RA' 39 j).toInt) :
    0 ≤ (m_lost RA RS RN).toInt ∧ (m_lost RA RS RN).toInt ≤ (m_lost RA' RS RN).toInt ∧ (m_lost RA' RS RN).toInt ≤ 80000000000000 := by
  have h8 := mI_many hM
  have z : (0 : Int64).toInt = 0 := rfl
  have q := lost_L hM hB hC e7 e9 e10 e11 e12 e22 h39 (RN 4) 0 0 0 (by omega) (by rw [z]; omega) (Int.le_refl _) (by rw [z]; omega)
  unfold m_lost m_lost_k4
  exact ⟨q.1, q.2.1, by omega⟩
theorem L210_ge {a b : Nat → Int32} : ∀ (n i : Nat) (f : Nat → Int32) (j : Nat), (f j).toInt ≤ (m_goHour_L210 RA RS a b n i f j).toInt := by
  intro n
  induction n with
  | zero => intro i f j; rw [m_goHour_L210.eq_1]; exact Int.le_refl _
  | succ n ih =>
    intro i f j
    rw [m_goHour_L210.eq_2]
    by_cases c : m_felt (va_up (va_up (va_up RA 36 a) 37 b) 39 f) RS i 0 0 ≤ f i
    · rw [if_pos c]
      refine Int.le_trans ?_ (ih (i + 1) _ j)
      by_cases z : j = i
      · subst z; rw [pk_us]; exact Int.le_refl _
      · rw [pk_un z]; exact Int.le_refl _
    · rw [if_neg c]
      refine Int.le_trans ?_ (ih (i + 1) _ j)
      rw [ti_le] at c
      by_cases z : j = i
      · subst z; rw [pk_us]; omega
      · rw [pk_un z]; exact Int.le_refl _
theorem hour_ge {r h side : Int32} {k j : Nat} : (RA 39 j).toInt ≤ ((m_goHour RA RS RN r k h side).2.2 j).toInt := by
  unfold m_goHour m_goHour_k3 m_goHour_k38 m_goHour_k169 m_goHour_k210
  exact L210_ge _ _ _ _
end SMONO
