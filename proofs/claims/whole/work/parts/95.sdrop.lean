/-! roofs that go in the night -/
section SDROP
variable {vl pl : Nat → Nat → Int32} {vs ps : Nat → Int32} {RA : Nat → Nat → Int32} {RS : Nat → Int32} {RN : Nat → Nat} {ML : Nat → Nat → Int32}
theorem bt_off (s : Int32) {i k : Nat} (hi : i < 32) (hk : k < 32) : bt (s &&& ((1 <<< ((nI i) &&& 31)) ^^^ (-1))) k = (bt s k && !decide (i = k)) := by
  rw [b_and, bt_not _ hk, bt_one hi hk]
theorem sF.drop {f g a37 a39 a41 : Nat → Int32} {s : Int32} (h : sF (va_up vl 1 f) (va_up vs 8 s) pl ps (va_up (nR RA g a37 a39) 41 a41) (va_up RS 38 s) RN) {i : Nat} (hi : i < RN 4) :
    sF (va_up vl 1 (upd (upd f (2 * i) 0) (2 * i + 1) 0)) (va_up vs 8 (s &&& ((1 <<< ((nI i) &&& 31)) ^^^ (-1)))) pl ps (va_up (nR RA (upd (upd g (2 * i) 0) (2 * i + 1) 0) a37 a39) 41 a41) (va_up RS 38 (s &&& ((1 <<< ((nI i) &&& 31)) ^^^ (-1)))) RN := by
  have h8 := h.1.many
  obtain ⟨⟨⟨hP, hM⟩, ⟨hz, hb⟩, ⟨e1, e2, e5, e8⟩, ⟨w1, w2, w3⟩⟩, hk, hw⟩ := h
  refine ⟨⟨⟨hP, hM⟩, ⟨hz, hb⟩, ⟨fun j hj => ?_, e2, e5, rfl⟩, ⟨fun j hj => ?_, fun a ha hf => ?_, fun k k1 k2 => ?_⟩⟩, hk, hw⟩
  · show upd (upd f (2 * i) 0) (2 * i + 1) 0 j = upd (upd g (2 * i) 0) (2 * i + 1) 0 j
    have e : f j = g j := e1 j hj
    by_cases c : j = 2 * i + 1
    · rw [c, pk_us, pk_us]
    · rw [pk_un c, pk_un c]
      by_cases d : j = 2 * i
      · rw [d, pk_us, pk_us]
      · rw [pk_un d, pk_un d]; exact e
  · show 0 ≤ (upd (upd g (2 * i) 0) (2 * i + 1) 0 j).toInt ∧ (upd (upd g (2 * i) 0) (2 * i + 1) 0 j).toInt ≤ 999
    have e : 0 ≤ (g j).toInt ∧ (g j).toInt ≤ 999 := w1 j hj
    by_cases c : j = 2 * i + 1
    · rw [c, pk_us]; decide
    · rw [pk_un c]
      by_cases d : j = 2 * i
      · rw [d, pk_us]; decide
      · rw [pk_un d]; exact e
  · show upd (upd g (2 * i) 0) (2 * i + 1) 0 (2 * a) = 0 ∧ upd (upd g (2 * i) 0) (2 * i + 1) 0 (2 * a + 1) = 0
    have hf : bt (s &&& ((1 <<< ((nI i) &&& 31)) ^^^ (-1))) a = false := hf
    rw [bt_off s (by omega) (by omega)] at hf
    by_cases c : i = a
    · subst c
      rw [pk_us, pk_un (by omega), pk_us]
      exact ⟨rfl, rfl⟩
    · rw [decide_eq_false c, Bool.not_false, Bool.and_true] at hf
      rw [pk_un (by omega), pk_un (by omega), pk_un (by omega), pk_un (by omega)]
      exact w2 a ha hf
  · show bt (s &&& ((1 <<< ((nI i) &&& 31)) ^^^ (-1))) k = false
    have : bt s k = false := w3 k k1 k2
    rw [bt_off s (by omega) k1, this, Bool.false_and]
theorem da_L {a37 a39 a41 : Nat → Int32} : ∀ (n i : Nat) (m : Int32) (f : Nat → Int32) (s : Int32) (g : Nat → Int32), i + n ≤ RN 4 → sF (va_up vl 1 f) (va_up vs 8 s) pl ps (va_up (nR RA g a37 a39) 41 a41) (va_up RS 38 s) RN → (∀ j, j < RN 4 → bt s j = true → ML 5 j = a41 j) →
    sF (va_up vl 1 (v_dropAbove_L4 vl vs pl ps ML n i m f s).2.1) (va_up vs 8 (v_dropAbove_L4 vl vs pl ps ML n i m f s).2.2) pl ps (va_up (nR RA (m_night_L157 RA RS a37 a39 a41 n i g s).1 a37 a39) 41 a41) (va_up RS 38 (v_dropAbove_L4 vl vs pl ps ML n i m f s).2.2) RN ∧
    (v_dropAbove_L4 vl vs pl ps ML n i m f s).2.2 = (m_night_L157 RA RS a37 a39 a41 n i g s).2 ∧
    (∀ k, k < 32 → bt (v_dropAbove_L4 vl vs pl ps ML n i m f s).1 k = (bt m k || (bt s k && !bt (m_night_L157 RA RS a37 a39 a41 n i g s).2 k))) ∧
    ∀ k, k < 32 → bt (m_night_L157 RA RS a37 a39 a41 n i g s).2 k = true → bt s k = true := by
  intro n
  induction n with
  | zero =>
    intro i m f s g _ h _
    rw [v_dropAbove_L4.eq_1, m_night_L157.eq_1]
    refine ⟨h, rfl, fun k _ => ?_, fun k _ q => q⟩
    dsimp only
    cases bt m k <;> cases bt s k <;> rfl
  | succ n ih =>
    intro i m f s g hin h hb
    have h8 := h.1.many
    have hz : zB s (RN 4) := h.1.W.2.2
    have es : v_stands (va_up vs 8 s) ps (nI i) = m_has s (nI i) := st_eq (vs := va_up vs 8 s) h.1.P.1 h8 hz (by omega)
    have el : v_load (va_up vl 1 f) pl ps (nI i) = m_felt (va_up (va_up (va_up (va_up RA 36 g) 37 a37) 39 a39) 41 a41) (va_up RS 38 s) i 0 0 := h.1.load0 (by omega) (by omega)
    rw [v_dropAbove_L4.eq_2, m_night_L157.eq_2, es, el]
    by_cases c : m_has s (nI i) = 0
    · rw [if_pos c, if_pos c]; exact ih (i + 1) m f s g (by omega) h hb
    · rw [if_neg c, if_neg c]
      have hsb : bt s i = true := by
        cases q : bt s i with
        | true => rfl
        | false => exact absurd ((bt_has0 s (by omega)).mpr q) c
      rw [rg_in (by omega) (by omega), hb i (by omega) hsb]
      split
      · exact ih (i + 1) m f s g (by omega) h hb
      · have ed : v_drop (va_up vl 1 f) (va_up vs 8 s) (nI i) = (upd (upd f (2 * i) 0) (2 * i + 1) 0, s &&& ((1 <<< ((nI i) &&& 31)) ^^^ (-1))) := by
          unfold v_drop
          rw [nx2, nI_1, rs_in (by omega) (by omega), rs_in (by omega) (by omega)]
          rfl
        rw [ed]
        obtain ⟨q1, q2, q3, q4⟩ := ih (i + 1) (m ||| (1 <<< ((nI i) &&& 31))) (upd (upd f (2 * i) 0) (2 * i + 1) 0) (s &&& ((1 <<< ((nI i) &&& 31)) ^^^ (-1))) (upd (upd g (2 * i) 0) (2 * i + 1) 0) (by omega) (h.drop (by omega)) (fun j hj hjb => hb j hj (by rw [bt_off s (by omega) (by omega)] at hjb; exact (Bool.and_eq_true _ _ ▸ hjb).1))
        refine ⟨q1, q2, fun k hk => ?_, fun k hk q => ?_⟩
        · rw [q3 k hk, b_or, bt_one (by omega) hk, bt_off s (by omega) hk]
          have q5 := q4 k hk
          rw [bt_off s (by omega) hk] at q5
          by_cases e : i = k
          · subst e
            rw [decide_eq_true rfl] at q5 ⊢
            rw [hsb] at q5 ⊢
            cases w : bt (m_night_L157 RA RS a37 a39 a41 n (i + 1) (upd (upd g (2 * i) 0) (2 * i + 1) 0) (s &&& ((1 <<< ((nI i) &&& 31)) ^^^ (-1)))).2 i with
            | true => rw [w] at q5; exact absurd (q5 rfl) (by decide)
            | false => cases bt m i <;> rfl
          · rw [decide_eq_false e]
            cases bt m k <;> cases bt s k <;> rfl
        · have q5 := q4 k hk q
          rw [bt_off s (by omega) hk] at q5
          cases w : bt s k with
          | true => rfl
          | false => rw [w, Bool.false_and] at q5; exact q5
end SDROP
