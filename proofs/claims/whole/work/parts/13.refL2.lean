theorem m_isRoof_t {RN : Nat → Nat} {x : Int32} (h4 : RN 4 ≤ 8) (h : ¬ m_isRoof RN x = 0) : 0 ≤ x.toInt ∧ x.toInt < RN 4 := by
  have h1 := m_in_t (a := 0) h
  have h2 : ((nI (RN 4)) - 1).toInt64.toInt = (RN 4 : Int) - 1 := by
    rw [ki2l, show (1 : Int32) = nI 1 from rfl, pk_sub_toInt (by omega) (by omega)]
    rfl
  rw [h2] at h1
  have h3 : (0 : Int64).toInt = 0 := rfl
  rw [h3] at h1
  omega
theorem m_isSky_t {x : Int32} (h : ¬ m_isSky x = 0) : 0 ≤ x.toInt ∧ x.toInt < 3 := by
  have h1 := m_in_t (a := 0) (b := 2) h
  have h3 : (0 : Int64).toInt = 0 := rfl
  have h4 : (2 : Int64).toInt = 2 := rfl
  rw [h3, h4] at h1
  omega
theorem m_isRule_01 (x : Int32) : m_isRule x = 0 ∨ m_isRule x = 1 := m_in_01 _ _ _
theorem m_isSky_01 (x : Int32) : m_isSky x = 0 ∨ m_isSky x = 1 := m_in_01 _ _ _
theorem m_isRoof_01 (RN : Nat → Nat) (x : Int32) : m_isRoof RN x = 0 ∨ m_isRoof RN x = 1 := m_in_01 _ _ _
