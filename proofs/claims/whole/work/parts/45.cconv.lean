section CCONV
variable {cI : ClassId} {ad : Nat → Nat} {ML : Nat → Nat → Int32} {MS : Nat → Int32} {PL PL1 PL2 : Nat → Nat → Nat → Int32} {PS PS1 PS2 : Nat → Nat → Int32} {VL VL1 VL2 : Nat → Nat → Nat → Int32} {VS VS1 VS2 : Nat → Nat → Int32} {LL : Int64} {vn pn : Nat} {vl1 vl2 pl1 pl2 : Nat → Nat → Int32} {vs1 vs2 ps1 ps2 : Nat → Int32} {D : va_G} {H : Heap}
theorem cV_conv (hv : vn < 9) (e1 : VL1 vn = vl1) (e2 : VL2 vn = vl2) (f1 : VS1 vn = vs1) (f2 : VS2 vn = vs2) (o1 : ∀ u, u ≠ vn → VL1 u = VL2 u) (o2 : ∀ u, u ≠ vn → VS1 u = VS2 u) (a1 : vl1 1 = vl2 1) (a2 : vl1 2 = vl2 2) (a3 : vl1 3 = vl2 3) (a4 : vl1 4 = vl2 4) (a5 : vl1 5 = vl2 5) (a6 : vl1 6 = vl2 6) (b8 : vs1 8 = vs2 8) (b9 : vs1 9 = vs2 9) (b10 : vs1 10 = vs2 10) (b11 : vs1 11 = vs2 11) (b12 : vs1 12 = vs2 12) (hP : va_P D vwCl (cws cI ad ML MS PL PS VL1 VS1 LL) H) : va_P D vwCl (cws cI ad ML MS PL PS VL2 VS2 LL) H := by
  have h : cws cI ad ML MS PL PS VL1 VS1 LL = cws cI ad ML MS PL PS VL2 VS2 LL := by
    refine kTab_ext (fun k hk => ?_)
    rcases cE_cases hk with h | ⟨p, t, hp, ht, rfl⟩ | ⟨u, t, hu, ht, rfl⟩
    · rw [cE_M h, cE_M h]
    · rw [cE_P hp ht, cE_P hp ht]
    · rw [cE_V ht, cE_V ht]
      by_cases e : u = vn
      · subst e
        rw [e1, e2, f1, f2]
        unfold cEv
        by_cases h0 : t = 0
        · rw [if_pos h0, if_pos h0]
          unfold vflds
          rw [b8, b9, b10, b11, b12]
        · rw [if_neg h0, if_neg h0]
          by_cases h1 : t % 2 = 1
          · rw [if_pos h1, if_pos h1]
          · rw [if_neg h1, if_neg h1]
            rcases (show t / 2 = 1 ∨ t / 2 = 2 ∨ t / 2 = 3 ∨ t / 2 = 4 ∨ t / 2 = 5 ∨ t / 2 = 6 by omega) with q | q | q | q | q | q <;> rw [q] <;> first | rw [a1] | rw [a2] | rw [a3] | rw [a4] | rw [a5] | rw [a6]
      · rw [o1 u e, o2 u e]
  rw [← h]
  exact hP
theorem cP_conv (hp : pn < 2) (e1 : PL1 pn = pl1) (e2 : PL2 pn = pl2) (f1 : PS1 pn = ps1) (f2 : PS2 pn = ps2) (o1 : ∀ u, u ≠ pn → PL1 u = PL2 u) (o2 : ∀ u, u ≠ pn → PS1 u = PS2 u) (a1 : pl1 1 = pl2 1) (a2 : pl1 2 = pl2 2) (a3 : pl1 3 = pl2 3) (a4 : pl1 4 = pl2 4) (a5 : pl1 5 = pl2 5) (a6 : pl1 6 = pl2 6) (a7 : pl1 7 = pl2 7) (a8 : pl1 8 = pl2 8) (a9 : pl1 9 = pl2 9) (a10 : pl1 10 = pl2 10) (a11 : pl1 11 = pl2 11) (a12 : pl1 12 = pl2 12) (b0 : ps1 0 = ps2 0) (b13 : ps1 13 = ps2 13) (b14 : ps1 14 = ps2 14) (b15 : ps1 15 = ps2 15) (b16 : ps1 16 = ps2 16) (b17 : ps1 17 = ps2 17) (b18 : ps1 18 = ps2 18) (b19 : ps1 19 = ps2 19) (hP : va_P D vwCl (cws cI ad ML MS PL1 PS1 VL VS LL) H) : va_P D vwCl (cws cI ad ML MS PL2 PS2 VL VS LL) H := by
  have h : cws cI ad ML MS PL1 PS1 VL VS LL = cws cI ad ML MS PL2 PS2 VL VS LL := by
    refine kTab_ext (fun k hk => ?_)
    rcases cE_cases hk with h | ⟨p, t, hp, ht, rfl⟩ | ⟨u, t, hu, ht, rfl⟩
    · rw [cE_M h, cE_M h]
    · rw [cE_P hp ht, cE_P hp ht]
      by_cases e : p = pn
      · subst e
        rw [e1, e2, f1, f2]
        unfold cEp
        by_cases h0 : t = 0
        · rw [if_pos h0, if_pos h0]
          unfold pflds
          rw [b0, b13, b14, b15, b16, b17, b18, b19]
        · rw [if_neg h0, if_neg h0]
          by_cases h1 : t % 2 = 1
          · rw [if_pos h1, if_pos h1]
          · rw [if_neg h1, if_neg h1]
            rcases (show t / 2 = 1 ∨ t / 2 = 2 ∨ t / 2 = 3 ∨ t / 2 = 4 ∨ t / 2 = 5 ∨ t / 2 = 6 ∨ t / 2 = 7 ∨ t / 2 = 8 ∨ t / 2 = 9 ∨ t / 2 = 10 ∨ t / 2 = 11 ∨ t / 2 = 12 by omega) with q | q | q | q | q | q | q | q | q | q | q | q <;> rw [q] <;> first | rw [a1] | rw [a2] | rw [a3] | rw [a4] | rw [a5] | rw [a6] | rw [a7] | rw [a8] | rw [a9] | rw [a10] | rw [a11] | rw [a12]
      · rw [o1 p e, o2 p e]
    · rw [cE_V ht, cE_V ht]
  rw [← h]
  exact hP
end CCONV
