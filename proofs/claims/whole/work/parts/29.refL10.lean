/-- an item whose letter has numbers, each in its range -/
def itOk (f : Nat → Int32) (b : Nat) : Prop := 0 < (m_numbersOf (f b)).toInt ∧ ∀ j : Nat, 1 ≤ j → (j : Int) ≤ (m_numbersOf (f b)).toInt → (m_leastOf (f b) (nI (j - 1))).toInt ≤ (f (b + j)).toInt ∧ (f (b + j)).toInt ≤ (m_mostOf (f b) (nI (j - 1))).toInt
theorem itOk_at {f : Nat → Int32} {b : Nat} (h : itOk f b) {c : Int32} (hc : f b = c) (j : Nat) (lo hi : Int) (h0 : 1 ≤ j := by decide) (h1 : (j : Int) ≤ (m_numbersOf c).toInt := by decide) (h2 : (m_leastOf c (nI (j - 1))).toInt = lo := by decide) (h3 : (m_mostOf c (nI (j - 1))).toInt = hi := by decide) : lo ≤ (f (b + j)).toInt ∧ (f (b + j)).toInt ≤ hi := by
  subst hc
  have := h.2 j h0 h1
  rw [h2, h3] at this
  exact this
theorem mI_bm0 {RA : Nat → Nat → Int32} {RS : Nat → Int32} {RN : Nat → Nat} (h : mI RA RS RN) (i : Nat) (hi : i < 8) : 0 ≤ (RA 12 i).toInt := (h.2.1 i hi).1
