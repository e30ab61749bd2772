/-! night -/
section SNIGHT
variable {ML : Nat → Nat → Int32} {MS : Nat → Int32} {PL : Nat → Nat → Nat → Int32} {PS : Nat → Nat → Int32} {VL : Nat → Nat → Nat → Int32} {VS : Nat → Nat → Int32} {RA : Nat → Nat → Int32} {RS : Nat → Int32} {RN : Nat → Nat}
theorem nN_8 (VL : Nat → Nat → Nat → Int32) (VS : Nat → Nat → Int32) (s8 s10 s11 : Int32) : va_up (va_up (va_up (va_up (va_up (VS 3) 8 s8) 9 ((v_startFrom (VL 3) (VL 0) (VS 0)).2.2.2.2.2.2.2.1)) 10 s10) 11 s11) 12 ((v_startFrom (VL 3) (VL 0) (VS 0)).2.2.2.2.2.2.2.2.2.2) = va_up (nW (nT (VL 3) (VL 0) (VS 0) (VS 3)) s10 s11) 8 s8 := by
  funext j
  unfold nW nT va_up
  by_cases c1 : j = 12
  · subst c1; rfl
  · by_cases c2 : j = 11
    · subst c2; rfl
    · by_cases c3 : j = 10
      · subst c3; rfl
      · by_cases c4 : j = 9
        · subst c4; rfl
        · by_cases c5 : j = 8
          · subst c5; rfl
          · simp only [c1, c2, c3, c4, c5, if_neg, if_false]
theorem nR_41 {b : Nat → Nat → Int32} {a c d x y z g : Nat → Int32} : nR (va_up (nR b a c d) 41 g) x y z = va_up (nR b x y z) 41 g := by
  funext j
  unfold nR va_up
  by_cases c1 : j = 41
  · subst c1; rfl
  · by_cases c2 : j = 39
    · subst c2; rfl
    · by_cases c3 : j = 37
      · subst c3; rfl
      · by_cases c4 : j = 36
        · subst c4; rfl
        · simp only [c1, c2, c3, c4, if_neg, if_false]
/-- an hour of the night, in the reference -/
def nB (RA : Nat → Nat → Int32) (RS : Nat → Int32) (RN : Nat → Nat) (a41 : Nat → Int32) (v2 : Int32) (g36 g37 g39 : Nat → Int32) (s : Int32) (K : Nat) : Nat × (Nat → Int32) × (Nat → Int32) × (Nat → Int32) × Int32 :=
  (K, (m_night_L157 RA RS (m_goHour (va_up (nR RA g36 g37 g39) 41 a41) (va_up RS 38 s) RN v2 K (RS 15) (-4)).2.1 (m_goHour (va_up (nR RA g36 g37 g39) 41 a41) (va_up RS 38 s) RN v2 K (RS 15) (-4)).2.2 a41 (RN 4) 0 (m_goHour (va_up (nR RA g36 g37 g39) 41 a41) (va_up RS 38 s) RN v2 K (RS 15) (-4)).1 s).1, (m_goHour (va_up (nR RA g36 g37 g39) 41 a41) (va_up RS 38 s) RN v2 K (RS 15) (-4)).2.1, (m_goHour (va_up (nR RA g36 g37 g39) 41 a41) (va_up RS 38 s) RN v2 K (RS 15) (-4)).2.2, (m_night_L157 RA RS (m_goHour (va_up (nR RA g36 g37 g39) 41 a41) (va_up RS 38 s) RN v2 K (RS 15) (-4)).2.1 (m_goHour (va_up (nR RA g36 g37 g39) 41 a41) (va_up RS 38 s) RN v2 K (RS 15) (-4)).2.2 a41 (RN 4) 0 (m_goHour (va_up (nR RA g36 g37 g39) 41 a41) (va_up RS 38 s) RN v2 K (RS 15) (-4)).1 s).2)
theorem b62_eq {a41 g36 g37 g39 : Nat → Int32} {v1 v2 s : Int32} {i k : Nat} : m_night_b62 RA RS RN a41 v1 v2 i k g36 g37 g39 s = nB RA RS RN a41 v2 g36 g37 g39 s (if (RA 14 (3 * k) ≤ (m_draw v1 (RS 27 + nI i) 98 - m_draw v1 (RS 27 + nI i) 98 / 10 * 10)) then (if (RA 14 (3 * k) + RA 14 (3 * k + 1) ≤ (m_draw v1 (RS 27 + nI i) 98 - m_draw v1 (RS 27 + nI i) 98 / 10 * 10)) then 2 else 1) else 0) := by
  unfold m_night_b62
  by_cases c : (RA 14 (3 * k) ≤ (m_draw v1 (RS 27 + nI i) 98 - m_draw v1 (RS 27 + nI i) 98 / 10 * 10))
  · rw [if_pos c, if_pos c]
    by_cases c2 : (RA 14 (3 * k) + RA 14 (3 * k + 1) ≤ (m_draw v1 (RS 27 + nI i) 98 - m_draw v1 (RS 27 + nI i) 98 / 10 * 10))
    · rw [if_pos c2, if_pos c2]; rfl
    · rw [if_neg c2, if_neg c2]; rfl
  · rw [if_neg c, if_neg c]; rfl
end SNIGHT
