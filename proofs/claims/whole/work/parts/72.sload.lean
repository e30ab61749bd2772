/-! numbers that don't run over; press, props, load; who stands -/
theorem ti_add {a b : Int32} (h1 : -2147483648 ≤ a.toInt + b.toInt) (h2 : a.toInt + b.toInt < 2147483648) : (a + b).toInt = a.toInt + b.toInt := by
  rw [Int32.toInt_add]
  exact Int.bmod_eq_of_le (by omega) (by omega)
theorem ti_sub {a b : Int32} (h1 : -2147483648 ≤ a.toInt - b.toInt) (h2 : a.toInt - b.toInt < 2147483648) : (a - b).toInt = a.toInt - b.toInt := by
  rw [Int32.toInt_sub]
  exact Int.bmod_eq_of_le (by omega) (by omega)
theorem ti_mul {a b : Int32} (h1 : -2147483648 ≤ a.toInt * b.toInt) (h2 : a.toInt * b.toInt < 2147483648) : (a * b).toInt = a.toInt * b.toInt := by
  rw [Int32.toInt_mul]
  exact Int.bmod_eq_of_le (by omega) (by omega)
theorem ti_le {a b : Int32} : a ≤ b ↔ a.toInt ≤ b.toInt := Int32.le_iff_toInt_le
theorem ti_lt {a b : Int32} : a < b ↔ a.toInt < b.toInt := Int32.lt_iff_toInt_lt
theorem ti_0 : (0 : Int32).toInt = 0 := rfl
theorem ti_neg {x : Int32} (h : -2147483648 < x.toInt) : (-x).toInt = -x.toInt := by
  rw [← Int32.zero_sub, ti_sub (by rw [ti_0]; have := Int32.toInt_lt x; omega) (by rw [ti_0]; omega), ti_0]; omega
section SLOAD
variable {vl pl : Nat → Nat → Int32} {vs ps : Nat → Int32} {RA : Nat → Nat → Int32} {RS : Nat → Int32} {RN : Nat → Nat} {i : Nat}
theorem jabs_sub {l r : Int32} (hl : smal l) (hr : smal r) : jabs (l - r) = if r ≤ l then l - r else r - l := by
  have h := ti_sub (a := l) (b := r) (by unfold smal at hl hr; omega) (by unfold smal at hl hr; omega)
  unfold jabs
  by_cases c : r ≤ l
  · rw [if_pos c, if_pos (by rw [ti_le, h, ti_0]; rw [ti_le] at c; omega)]
  · rw [if_neg c, if_neg (by rw [ti_le, h, ti_0]; rw [ti_le] at c; omega), Int32.zero_sub, Int32.neg_sub]
theorem pr_eq {u l r : Int32} (hu : u = RA 5 i) (hl : smal l) (hr : smal r) : (l + r) + (u * jabs (l - r)) / 10 = m_pressOf RA i l r := by
  rw [jabs_sub hl hr, hu]
  unfold m_pressOf
  by_cases c : r ≤ l
  · rw [if_pos c, if_pos c]
  · rw [if_neg c, if_neg c]
theorem dn_L (hi : i < 8) : ∀ (n k : Nat) (acc : Int32), k + n ≤ 3 → (∀ j, j < k + n → vl 5 (3 * i + j) = RA 37 (3 * i + j)) → v_propped_L4 vl (nI i) n k acc = m_done_L4 RA i n k acc := by
  intro n
  induction n with
  | zero => intro k acc _ _; rw [v_propped_L4.eq_1, m_done_L4.eq_1]
  | succ n ih =>
    intro k acc h q
    rw [v_propped_L4.eq_2, m_done_L4.eq_2, if_neg (show ¬ (3 : Int32) ≤ nI k from nI_ge (b := 3) (by omega) (by omega)), nx3b, rg_in (by omega) (by omega), q k (by omega)]
    by_cases c : RA 37 (3 * i + k) = 0
    · rw [if_pos c, if_pos c]; exact ih (k + 1) _ (by omega) (fun j hj => q j (by omega))
    · rw [if_neg c, if_neg c, Int32.add_zero]; exact ih (k + 1) _ (by omega) (fun j hj => q j (by omega))
theorem dn_eq (hM : mI RA RS RN) (h17 : ps 17 = RS 18) (hi : i < 8) (h4 : vl 4 i = RA 25 i) (h5 : ∀ k, k < (RA 25 i).toNatClampNeg → vl 5 (3 * i + k) = RA 37 (3 * i + k)) : v_propped vl ps (nI i) = m_done RA RS i := by
  unfold v_propped m_done v_propped_k4 m_done_k4
  rw [rg_in hi (by omega), h4, h17, dn_L hi _ 0 0 (by have := mI_pm hM i hi; omega) (fun j hj => h5 j (by omega))]
theorem pw_eq (hi : i < 8) (h2 : pl 2 i = RA 5 i) {l r : Int32} (hl : vl 1 (2 * i) = l) (hr : vl 1 (2 * i + 1) = r) {x y : Int32} (bl : smal (l + x)) (br : smal (r + y)) : v_pressWith vl pl (nI i) x y = m_pressOf RA i (l + x) (r + y) := by
  unfold v_pressWith
  rw [nx21, nx2, rg_in (by omega) (by omega), rg_in (by omega) (by omega), rg_in (by omega) (by omega), hl, hr]
  exact pr_eq h2 bl br
theorem ld_eq (hM : mI RA RS RN) (h17 : ps 17 = RS 18) (hi : i < 8) (h2 : pl 2 i = RA 5 i) (h1 : vl 1 (2 * i) = RA 36 (2 * i)) (h1b : vl 1 (2 * i + 1) = RA 36 (2 * i + 1)) (h4 : vl 4 i = RA 25 i) (h5 : ∀ k, k < (RA 25 i).toNatClampNeg → vl 5 (3 * i + k) = RA 37 (3 * i + k)) {x y : Int32} (bl : smal (RA 36 (2 * i) + x)) (br : smal (RA 36 (2 * i + 1) + y)) : v_loadWith vl pl ps (nI i) x y = m_felt RA RS i x y := by
  unfold v_loadWith m_felt
  rw [dn_eq hM h17 hi h4 h5, pw_eq hi h2 h1 h1b bl br]
theorem ld0_eq (hM : mI RA RS RN) (h17 : ps 17 = RS 18) (hi : i < 8) (h2 : pl 2 i = RA 5 i) (h1 : vl 1 (2 * i) = RA 36 (2 * i)) (h1b : vl 1 (2 * i + 1) = RA 36 (2 * i + 1)) (h4 : vl 4 i = RA 25 i) (h5 : ∀ k, k < (RA 25 i).toNatClampNeg → vl 5 (3 * i + k) = RA 37 (3 * i + k)) (bl : smal (RA 36 (2 * i))) (br : smal (RA 36 (2 * i + 1))) : v_load vl pl ps (nI i) = m_felt RA RS i 0 0 :=
  ld_eq (x := 0) (y := 0) hM h17 hi h2 h1 h1b h4 h5 (by rw [Int32.add_zero]; exact bl) (by rw [Int32.add_zero]; exact br)
/-- bits of roofs that aren't there are not set -/
def zB (S : Int32) (n : Nat) : Prop := ∀ k, k < 32 → n ≤ k → bt S k = false
theorem st_eq {n : Nat} (h0 : ps 0 = nI n) (hn : n ≤ 8) (hz : zB (vs 8) n) {k : Nat} (hk : k < 32) : v_stands vs ps (nI k) = m_has (vs 8) (nI k) := by
  unfold v_stands
  rw [if_neg (nI_pos (by omega)), h0]
  by_cases c : n ≤ k
  · rw [if_pos (nI_le c (by omega)), (bt_has0 _ hk).mpr (hz k hk c)]
  · rw [if_neg (nI_ge (by omega) (by omega))]; rfl
theorem st_bt {n : Nat} (h0 : ps 0 = nI n) (hn : n ≤ 8) (hz : zB (vs 8) n) {k : Nat} (hk : k < 32) : v_stands vs ps (nI k) = 0 ↔ bt (vs 8) k = false := by rw [st_eq h0 hn hz hk, bt_has0 _ hk]
end SLOAD
/-- a loop that writes each place once, by what stood there -/
theorem upL {L : Nat → Nat → (Nat → Int32) → (Nat → Int32)} (N : Nat) (g : Nat → Int32 → Int32) (h0 : ∀ i f, L 0 i f = f) (h1 : ∀ n i f, i < N → L (n + 1) i f = L n (i + 1) (upd f i (g i (f i)))) : ∀ n i f j, i + n ≤ N → L n i f j = if i ≤ j ∧ j < i + n then g j (f j) else f j := by
  intro n
  induction n with
  | zero => intro i f j _; rw [h0, if_neg (by omega)]
  | succ n ih =>
    intro i f j h
    rw [h1 n i f (by omega), ih (i + 1) _ j (by omega)]
    by_cases e : j = i
    · subst e
      rw [if_neg (by omega), if_pos (by omega), pk_us]
    · rw [pk_un e]
      by_cases c : i + 1 ≤ j ∧ j < i + 1 + n
      · rw [if_pos c, if_pos (by omega)]
      · rw [if_neg c, if_neg (by omega)]
theorem upd_id {f : Nat → Int32} {i : Nat} : upd f i (f i) = f := by
  funext j
  unfold upd
  by_cases e : j = i
  · rw [if_pos e, e]
  · rw [if_neg e]
