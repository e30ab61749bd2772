/-! night, its answer -/
section SNIGHT4
variable {ML : Nat → Nat → Int32} {MS : Nat → Int32} {PL : Nat → Nat → Nat → Int32} {PS : Nat → Nat → Int32} {VL : Nat → Nat → Nat → Int32} {VS : Nat → Nat → Int32} {RA : Nat → Nat → Int32} {RS : Nat → Int32} {RN : Nat → Nat}
theorem sim_night (h : sX ML MS PL PS VL VS RA RS RN) (v1 v2 v3 v4 : Int32) : (o_night ML VL VS PL PS v1 v2 v3 v4).1 = (m_night RA RS RN v1 v2 v3 v4).1 := by
  have h8 := h.D.many
  have i1 : (1 : Int32).toInt = 1 := by decide
  have i24 : (24 : Int32).toInt = 24 := by decide
  have i9 : (9999 : Int32).toInt = 9999 := by decide
  have in1 := in_0 v1 0 9999
  have in3 := in_0 v3 1 24
  have in4 := in_0 v4 0 1
  rw [show (0 : Int64).toInt = 0 by decide, show (9999 : Int64).toInt = 9999 by decide] at in1
  rw [show (1 : Int64).toInt = 1 by decide, show (24 : Int64).toInt = 24 by decide] at in3
  rw [show (0 : Int64).toInt = 0 by decide, show (1 : Int64).toInt = 1 by decide] at in4
  unfold o_night m_night
  by_cases c1 : m_in v1.toInt64 0 9999 = 0
  · rw [if_pos c1]
    rw [in1] at c1
    by_cases z1 : v1 < 0
    · rw [if_pos z1]
    rw [if_neg z1]
    rw [ti_lt, ti_0] at z1
    rw [if_pos (show 9999 < v1 by rw [ti_lt, i9]; omega)]
  rw [if_neg c1]
  rw [in1] at c1
  rw [if_neg (show ¬ v1 < 0 by rw [ti_lt, ti_0]; omega), if_neg (show ¬ 9999 < v1 by rw [ti_lt, i9]; omega)]
  by_cases c2 : m_isRule v2 = 0
  · rw [if_pos ((rule_eq v2).mpr c2), if_pos c2]
  rw [if_neg (show ¬ o_isRule v2 = 0 from fun q => c2 ((rule_eq v2).mp q)), if_neg c2]
  by_cases c3 : m_in v3.toInt64 1 24 = 0
  · rw [if_pos c3]
    rw [in3] at c3
    by_cases z1 : v3 < 1
    · rw [if_pos z1]
    rw [if_neg z1]
    rw [ti_lt, i1] at z1
    rw [if_pos (show 24 < v3 by rw [ti_lt, i24]; omega)]
  rw [if_neg c3]
  rw [in3] at c3
  rw [if_neg (show ¬ v3 < 1 by rw [ti_lt, i1]; omega), if_neg (show ¬ 24 < v3 by rw [ti_lt, i24]; omega)]
  by_cases c4 : m_in v4.toInt64 0 1 = 0
  · rw [if_pos c4]
    rw [in4] at c4
    by_cases z1 : v4 < 0
    · rw [if_pos z1]
    rw [if_neg z1]
    rw [ti_lt, ti_0] at z1
    rw [if_neg (show ¬ v4 ≤ 1 by rw [ti_le, i1]; omega)]
  rw [if_neg c4]
  rw [in4] at c4
  rw [if_neg (show ¬ v4 < 0 by rw [ti_lt, ti_0]; omega), if_pos (show v4 ≤ 1 by rw [ti_le, i1]; omega)]
  have q := nt_mask h v1 v2 v3
  unfold o_night_k64 m_night_k62 m_night_k264
  by_cases c5 : v4 = 0
  · rw [if_pos c5, if_pos c5]
    exact q
  · rw [if_neg c5, if_neg c5]
    rw [q]
    show o_worthOf PL PS _ = _
    unfold o_worthOf o_worthOf_k4
    rw [h.D.P.1, nI_clamp (by omega)]
    exact wo_L h.D.P _ h8 (RN 4) 0 0 (by omega)
end SNIGHT4
