/-! what is put back -/
theorem put_back {f : Nat → Int32} {i : Nat} : upd (upd f i (f i + 1)) i (upd f i (f i + 1) i - 1) = f := by
  funext j
  rw [pk_us, Int32.add_sub_cancel]
  by_cases e : j = i
  · rw [e, pk_us]
  · rw [pk_un e, pk_un e]
theorem inst_25 {RA : Nat → Nat → Int32} {RS : Nat → Int32} {RN : Nat → Nat} {v1 v2 : Int32} : (m_instead RA RS RN v1 v2).2.1 = RA 25 := by
  unfold m_instead
  by_cases c1 : m_isRule v1 = 0
  · rw [if_pos c1]
  rw [if_neg c1]
  by_cases c2 : m_isRoof RN v2 = 0
  · rw [if_pos c2]
  rw [if_neg c2]
  by_cases c3 : m_has (RS 26) (nI v2.toNatClampNeg) = 0
  · rw [if_pos c3]
  rw [if_neg c3]
  by_cases c4 : RA 25 v2.toNatClampNeg = 3
  · rw [if_pos c4]
  rw [if_neg c4]
  by_cases c5 : RS 15 = 0
  · rw [if_pos c5]; exact put_back
  · rw [if_neg c5]; exact put_back
