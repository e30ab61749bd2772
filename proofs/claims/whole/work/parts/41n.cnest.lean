/-! nests of writes: proofs by hand-given steps, nothing to be searched -/
section CNEST
variable {α : Type} {g g' g1 g2 T : Nat → α} {X N : α} {k j : Nat} {x y x' : α}
theorem va_sf : va_up g k x k = x := va_up_self _ _ _
theorem va_ne1 (h : k ≠ j) (e : g k = x) : va_up g j y k = x := (va_up_ne _ _ h).trans e
theorem va_dn (h : k ≠ j) (e : va_up g k x = g') : va_up (va_up g j y) k x = va_up g' j y := by
  rw [← e]
  funext i
  unfold va_up
  by_cases h1 : i = k
  · by_cases h2 : i = j
    · exact absurd (h1.symm.trans h2) h
    · rw [if_pos h1, if_neg h2, if_pos h1]
  · by_cases h2 : i = j
    · rw [if_neg h1, if_pos h2, if_pos h2]
    · rw [if_neg h1, if_neg h2, if_neg h2, if_neg h1]
theorem va_tr (e : g = g1) (h : va_up g1 k x = g2) : va_up g k x = g2 := e ▸ h
theorem va_trf (e : g = g1) (eX : X = N) (h : va_up g1 k N = g2) : va_up g k X = g2 := by subst e eX; exact h
theorem va_c2 (e : g = g') (h : x = x') : va_up g k x = va_up g' k x' := by subst e h; rfl
theorem va_ad (e : g = g') (h : g' k = x) : g = va_up g' k x := by rw [← h, va_eta]; exact e
theorem fsE {fs : List Value} {k : Nat} {x y : Int32} (h : fs[k]? = some (.int x)) (e : x = y) : fs[k]? = some (.int y) := e ▸ h
end CNEST
section CROWS2
variable {cI : ClassId} {ad : Nat → Nat} {ML ML' : Nat → Nat → Int32} {MS MS' : Nat → Int32} {PL PL' : Nat → Nat → Nat → Int32} {PS PS' : Nat → Nat → Int32} {VL VL' : Nat → Nat → Nat → Int32} {VS VS' : Nat → Nat → Int32} {LL : Int64} {v p : Nat} {vl vl' pl pl' : Nat → Nat → Int32} {vs vs' ps ps' : Nat → Int32} {f : Nat → Int32} {n : Nat}
theorem cws_cg {D : va_G} {H : Heap} (e1 : ML = ML') (e2 : MS = MS') (e3 : PL = PL') (e4 : PS = PS') (e5 : VL = VL') (e6 : VS = VS') (hP : va_P D vwCl (cws cI ad ML MS PL PS VL VS LL) H) : va_P D vwCl (cws cI ad ML' MS' PL' PS' VL' VS' LL) H := by
  subst e1 e2 e3 e4 e5 e6; exact hP
theorem yVs2 (hv : v < 9) {k : Nat} {x : Int32} (hk : 8 ≤ k ∧ k < 13) (hcan : va_up vs k x = vs') (hfoc : va_up VS v vs' = VS') : (cws cI ad ML MS PL PS VL VS LL).set (66 + 13 * v) (ad (66 + 13 * v), .inr (5, (vflds ad v vs).set k (.int x))) = cws cI ad ML MS PL PS VL VS' LL := by
  rw [vflds_up v k vs x hk, sVs hv, hcan, hfoc]
theorem yVl2 (hv : v < 9) (t : Nat) (ht : t < 12) (h2 : t % 2 = 1) {k : Nat} (hk : (t + 1) / 2 = k) (e : VL v = vl) (hn : vlen ((t + 1) / 2) = n) (hcan : va_up vl k f = vl') (hfoc : va_up VL v vl' = VL') : (cws cI ad ML MS PL PS VL VS LL).set (66 + 13 * v + t + 1) (ad (66 + 13 * v + t + 1), .inl (cI, n, .inl f)) = cws cI ad ML MS PL PS VL' VS LL := by
  subst hn
  rw [sVl hv t ht h2, e, hk, hcan, hfoc]
theorem yPs2 (hp : p < 2) {k : Nat} {x : Int32} (hk : k = 0 ∨ (13 ≤ k ∧ k < 20)) (hcan : va_up ps k x = ps') (hfoc : va_up PS p ps' = PS') : (cws cI ad ML MS PL PS VL VS LL).set (16 + 25 * p) (ad (16 + 25 * p), .inr (0, (pflds ad p ps).set k (.int x))) = cws cI ad ML MS PL PS' VL VS LL := by
  rw [pflds_up p k ps x hk, sPs hp, hcan, hfoc]
theorem yPl2 (hp : p < 2) (t : Nat) (ht : t < 24) (h2 : t % 2 = 1) {k : Nat} (hk : (t + 1) / 2 = k) (e : PL p = pl) (hn : plen ((t + 1) / 2) = n) (hcan : va_up pl k f = pl') (hfoc : va_up PL p pl' = PL') : (cws cI ad ML MS PL PS VL VS LL).set (16 + 25 * p + t + 1) (ad (16 + 25 * p + t + 1), .inl (cI, n, .inl f)) = cws cI ad ML MS PL' PS VL VS LL := by
  subst hn
  rw [sPl hp t ht h2, e, hk, hcan, hfoc]
theorem xMa {m : Nat} (hm : m < 6) (hn : mlen m = n) (hf : ML m = f) : (cws cI ad ML MS PL PS VL VS LL)[5 + 2 * m]? = some (ad (5 + 2 * m), .inl (cI, n, .inl f)) := by
  subst hn hf
  rcases (show m = 0 ∨ m = 1 ∨ m = 2 ∨ m = 3 ∨ m = 4 ∨ m = 5 by omega) with rfl | rfl | rfl | rfl | rfl | rfl <;> exact wM (by omega) rfl
theorem yMl {m : Nat} (hm : m < 6) (hn : mlen m = n) (hfoc : va_up ML m f = ML') : (cws cI ad ML MS PL PS VL VS LL).set (5 + 2 * m) (ad (5 + 2 * m), .inl (cI, n, .inl f)) = cws cI ad ML' MS PL PS VL VS LL := by
  subst hn
  rw [sMl hm f, hfoc]
theorem yMs0 {x : Int32} (h : va_up MS 0 x = MS') : (cws cI ad ML MS PL PS VL VS LL).set 0 (ad 0, .inr (6, (oflds ad MS).set 7 (.int x))) = cws cI ad ML MS' PL PS VL VS LL := by
  subst h
  exact sMany (by omega) _ rfl (fun k hk hne => by
    unfold cEm
    rw [if_neg hne, if_neg hne]
    rfl)
theorem yMs1 {x : Int32} (h : va_up MS 1 x = MS') : (cws cI ad ML MS PL PS VL VS LL).set 0 (ad 0, .inr (6, (oflds ad MS).set 9 (.int x))) = cws cI ad ML MS' PL PS VL VS LL := by
  subst h
  exact sMany (by omega) _ rfl (fun k hk hne => by
    unfold cEm
    rw [if_neg hne, if_neg hne]
    rfl)
theorem yMs2 {x y : Int32} (h : va_up MS 2 x = MS') : (cws cI ad ML MS PL PS VL VS LL).set 1 (ad 1, .inr (4, [.ref (ad 4), .int y].set 1 (.int x))) = cws cI ad ML MS' PL PS VL VS LL := by
  subst h
  exact sM1 x
theorem yMs3 {x y : Int32} (h : va_up MS 3 x = MS') : (cws cI ad ML MS PL PS VL VS LL).set 2 (ad 2, .inr (1, [.ref (ad 1), .ref (ad 6), .int y].set 2 (.int x))) = cws cI ad ML MS' PL PS VL VS LL := by
  subst h
  exact sM2 x
theorem yLL (x : Int64) : (cws cI ad ML MS PL PS VL VS LL).set 3 (ad 3, .inr (3, [.ref (ad 8), .ref (ad 10), .ref (ad 12), .long LL].set 3 (.long x))) = cws cI ad ML MS PL PS VL VS x := sM3 x
end CROWS2
theorem kl_nz {x : Int32} (h : ¬ x ≤ 0) : x.toInt64 ≠ 0 := fun q => h (by
  have h1 := congrArg Int64.toInt q
  rw [Int32.toInt_toInt64] at h1
  rw [Int32.le_iff_toInt_le, h1]
  decide)
theorem ki_nz {x : Int32} (h : ¬ x ≤ 0) : x ≠ 0 := fun q => h (by rw [q]; decide)
theorem ki_lb1 {x : Int32} (h : ¬ x < 1) : 0 ≤ x.toInt := by
  have h1 := Int32.not_lt.mp h
  rw [Int32.le_iff_toInt_le] at h1
  exact Int.le_trans (by decide) h1
theorem ki_ub8 {x : Int32} (h : ¬ 8 < x) : x.toInt ≤ (8 : Nat) := by
  have h1 := Int32.not_lt.mp h
  rw [Int32.le_iff_toInt_le] at h1
  exact Int.le_trans h1 (by decide)
theorem kgt_t {B : Int32} {i : Nat} (h : B.toNatClampNeg < i) (hi : i < 2 ^ 31) : B < nI i := by
  rw [Int32.lt_iff_toInt_lt, nI_toInt hi]
  have h3 : B.toNatClampNeg = B.toInt.toNat := rfl
  omega
theorem kgt_f {B : Int32} {i : Nat} (h : i ≤ B.toNatClampNeg) (h0 : 1 ≤ i) : ¬ B < nI i := by
  have h3 : B.toNatClampNeg = B.toInt.toNat := rfl
  have h4 := Int32.toInt_lt B
  rw [Int32.lt_iff_toInt_lt, nI_toInt (by omega)]
  omega
theorem ki_le8 {x : Int32} (h : x ≤ 8) : x.toInt ≤ (8 : Nat) := by
  rw [Int32.le_iff_toInt_le] at h
  exact Int.le_trans h (by decide)
