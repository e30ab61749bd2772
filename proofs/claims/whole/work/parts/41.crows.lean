/-! the class's cells by village and plan: read (x..), written (y..). A world is written as it was (VL), or focused on one village (va_up VL v ..): e says what lies there, e' that a second write covers the first -/
section CROWS
variable {cI : ClassId} {ad : Nat → Nat} {ML : Nat → Nat → Int32} {MS : Nat → Int32} {PL PL0 : Nat → Nat → Nat → Int32} {PS PS0 : Nat → Nat → Int32} {VL VL0 : Nat → Nat → Nat → Int32} {VS VS0 : Nat → Nat → Int32} {LL : Int64} {v p : Nat} {vl pl : Nat → Nat → Int32} {vs ps : Nat → Int32} {f : Nat → Int32} {n : Nat}
theorem va_uu {α : Type} (g : Nat → α) (k : Nat) (x y : α) : va_up (va_up g k x) k y = va_up g k y := by
  funext j
  unfold va_up
  split <;> rfl
theorem xV (hv : v < 9) (e : VS v = vs) : (cws cI ad ML MS PL PS VL VS LL)[66 + 13 * v]? = some (ad (66 + 13 * v), .inr (5, vflds ad v vs)) := e ▸ wV hv
theorem xVa (hv : v < 9) (e : VL v = vl) (t : Nat) (ht : t < 12) (h2 : t % 2 = 1) (hn : vlen ((t + 1) / 2) = n) (hf : vl ((t + 1) / 2) = f) : (cws cI ad ML MS PL PS VL VS LL)[66 + 13 * v + t + 1]? = some (ad (66 + 13 * v + t + 1), .inl (cI, n, .inl f)) := by
  subst hn hf
  rw [← e]
  exact wVa hv t ht h2
theorem xP (hp : p < 2) (e : PS p = ps) : (cws cI ad ML MS PL PS VL VS LL)[16 + 25 * p]? = some (ad (16 + 25 * p), .inr (0, pflds ad p ps)) := e ▸ wP hp
theorem xPa (hp : p < 2) (e : PL p = pl) (t : Nat) (ht : t < 24) (h2 : t % 2 = 1) (hn : plen ((t + 1) / 2) = n) (hf : pl ((t + 1) / 2) = f) : (cws cI ad ML MS PL PS VL VS LL)[16 + 25 * p + t + 1]? = some (ad (16 + 25 * p + t + 1), .inl (cI, n, .inl f)) := by
  subst hn hf
  rw [← e]
  exact wPa hp t ht h2
theorem yVs (hv : v < 9) {k : Nat} {x : Int32} (hk : 8 ≤ k ∧ k < 13) (e' : ∀ Z, va_up VS v Z = va_up VS0 v Z) : (cws cI ad ML MS PL PS VL VS LL).set (66 + 13 * v) (ad (66 + 13 * v), .inr (5, (vflds ad v vs).set k (.int x))) = cws cI ad ML MS PL PS VL (va_up VS0 v (va_up vs k x)) LL := by
  rw [vflds_up v k vs x hk, sVs hv, e']
theorem yVl (hv : v < 9) (t : Nat) (ht : t < 12) (h2 : t % 2 = 1) (e : VL v = vl) (e' : ∀ Z, va_up VL v Z = va_up VL0 v Z) (hn : vlen ((t + 1) / 2) = n) : (cws cI ad ML MS PL PS VL VS LL).set (66 + 13 * v + t + 1) (ad (66 + 13 * v + t + 1), .inl (cI, n, .inl f)) = cws cI ad ML MS PL PS (va_up VL0 v (va_up vl ((t + 1) / 2) f)) VS LL := by
  subst hn
  rw [sVl hv t ht h2, e, e']
theorem pflds_up (p k : Nat) (ps : Nat → Int32) (x : Int32) (hk : k = 0 ∨ (13 ≤ k ∧ k < 20)) : (pflds ad p ps).set k (.int x) = pflds ad p (va_up ps k x) := by
  rcases (show k = 0 ∨ k = 13 ∨ k = 14 ∨ k = 15 ∨ k = 16 ∨ k = 17 ∨ k = 18 ∨ k = 19 by omega) with rfl | rfl | rfl | rfl | rfl | rfl | rfl | rfl <;> rfl
theorem yPs (hp : p < 2) {k : Nat} {x : Int32} (hk : k = 0 ∨ (13 ≤ k ∧ k < 20)) (e' : ∀ Z, va_up PS p Z = va_up PS0 p Z) : (cws cI ad ML MS PL PS VL VS LL).set (16 + 25 * p) (ad (16 + 25 * p), .inr (0, (pflds ad p ps).set k (.int x))) = cws cI ad ML MS PL (va_up PS0 p (va_up ps k x)) VL VS LL := by
  rw [pflds_up p k ps x hk, sPs hp, e']
theorem yPl (hp : p < 2) (t : Nat) (ht : t < 24) (h2 : t % 2 = 1) (e : PL p = pl) (e' : ∀ Z, va_up PL p Z = va_up PL0 p Z) (hn : plen ((t + 1) / 2) = n) : (cws cI ad ML MS PL PS VL VS LL).set (16 + 25 * p + t + 1) (ad (16 + 25 * p + t + 1), .inl (cI, n, .inl f)) = cws cI ad ML MS (va_up PL0 p (va_up pl ((t + 1) / 2) f)) PS VL VS LL := by
  subst hn
  rw [sPl hp t ht h2, e, e']
end CROWS
