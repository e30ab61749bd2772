/-! the first world, as the constructor leaves it, in its places -/
def cAd (h0 qT rT aT qR rR aR qK aK qS r1 a1 r2 a2 qB aB : Nat) (aP aQ v0 v1 v2 c0 c1 c2 c3 c4 c5 : Nat → Nat) : Nat → Nat := fun k => if k < 16 then kAt [h0, qT, qR, qS, rT, aT, rR, aR, qK, aK, r1, a1, r2, a2, qB, aB] k else if k < 41 then aP (k - 16) else if k < 66 then aQ (k - 41) else if k < 79 then v0 (k - 66) else if k < 92 then v1 (k - 79) else if k < 105 then v2 (k - 92) else if k < 118 then c5 (k - 105) else if k < 131 then c4 (k - 118) else if k < 144 then c3 (k - 131) else if k < 157 then c2 (k - 144) else if k < 170 then c1 (k - 157) else c0 (k - 170)
def cPos (k : Nat) : Nat := if k = 0 then 0 else if k = 1 then 1 else if k = 2 then 4 else if k = 3 then 176 else if k < 6 then k - 2 else if k < 8 then k - 1 else if k < 10 then k + 88 else if k < 16 then k + 167 else if k < 105 then k - 9 else if k < 118 then k + 58 else if k < 131 then k + 32 else if k < 144 then k + 6 else if k < 157 then k - 20 else if k < 170 then k - 46 else k - 72
theorem cPos_inj : ∀ i, i < 183 → ∀ j, j < 183 → cPos i = cPos j → i = j := by decide +kernel
theorem cPos_at : cPos 0 = 0 ∧ (∀ t, t < 50 → cPos (16 + t) = 7 + t) ∧ (∀ t, t < 39 → cPos (66 + t) = 57 + t) ∧ (∀ t, t < 13 → cPos (105 + t) = 163 + t ∧ cPos (118 + t) = 150 + t ∧ cPos (131 + t) = 137 + t ∧ cPos (144 + t) = 124 + t ∧ cPos (157 + t) = 111 + t ∧ cPos (170 + t) = 98 + t) := by decide +kernel
section CFIRST
variable {cI : ClassId} {h0 : Nat} {A : Nat → Prop} {D : va_G} {H : Heap}
theorem getL {α : Type} {L M : List α} {i : Nat} {x : α} (n : Nat) (hl : L.length = n) (h : i < n) (e : L[i]? = some x) : (L ++ M)[i]? = some x := by rw [List.getElem?_append_left (by omega)]; exact e
theorem getR {α : Type} {L M : List α} {i j : Nat} {x : α} (n : Nat) (hl : L.length = n) (h : i = n + j) (e : M[j]? = some x) : (L ++ M)[i]? = some x := by rw [List.getElem?_append_right (by omega), hl, h, Nat.add_sub_cancel_left]; exact e
theorem kTab_length {a : Nat → Nat} {N : Nat} {E : Nat → va_E} : (kTab a N E).length = N := by simp [kTab]
theorem lenA {α : Type} {L M : List α} {n k : Nat} (h : L.length = n) (h2 : M.length = k) : (L ++ M).length = n + k := by rw [List.length_append, h, h2]
theorem pE_eq {ad a : Nat → Nat} {pl : Nat → Nat → Int32} {ps : Nat → Int32} {p t : Nat} (h : ∀ t, t < 25 → ad (16 + 25 * p + t) = a t) (ht : t < 25) : cEp cI ad pl ps p t = pE cI a pl ps t := by
  unfold cEp pE
  by_cases h0 : t = 0
  · rw [if_pos h0, if_pos h0]
    unfold pflds
    rw [h 1 (by omega), h 3 (by omega), h 5 (by omega), h 7 (by omega), h 9 (by omega), h 11 (by omega), h 13 (by omega), h 15 (by omega), h 17 (by omega), h 19 (by omega), h 21 (by omega), h 23 (by omega)]
  · rw [if_neg h0, if_neg h0]
    by_cases h1 : t % 2 = 1
    · rw [if_pos h1, if_pos h1, show 16 + 25 * p + t + 1 = 16 + 25 * p + (t + 1) from rfl, h (t + 1) (by omega)]
    · rw [if_neg h1, if_neg h1]
theorem vE_eq {ad a : Nat → Nat} {vl : Nat → Nat → Int32} {vs : Nat → Int32} {v t pa : Nat} {nx : Value} (hp : ad 16 = pa) (hx : vnext ad v = nx) (h : ∀ t, t < 13 → ad (66 + 13 * v + t) = a t) (ht : t < 13) : cEv cI ad vl vs v t = vE cI a vl vs pa nx t := by
  unfold cEv vE
  by_cases h0 : t = 0
  · rw [if_pos h0, if_pos h0]
    unfold vflds
    rw [h 1 (by omega), h 3 (by omega), h 5 (by omega), h 7 (by omega), h 9 (by omega), h 11 (by omega), hp, hx]
  · rw [if_neg h0, if_neg h0]
    by_cases h1 : t % 2 = 1
    · rw [if_pos h1, if_pos h1, show 66 + 13 * v + t + 1 = 66 + 13 * v + (t + 1) from rfl, h (t + 1) (by omega)]
    · rw [if_neg h1, if_neg h1]
def zV : Nat → Nat → Nat → Int32 := fun _ => zA
def zW : Nat → Nat → Int32 := fun _ => zS
def cList (cI : ClassId) (h0 qT rT aT qR rR aR qK aK qS r1 a1 r2 a2 qB aB : Nat) (aP aQ v0 v1 v2 c0 c1 c2 c3 c4 c5 : Nat → Nat) : va_W := (h0, .inr (6, [.ref qT, .ref qR, .ref (aP 0), .ref (aQ 0), .ref (v0 0), .ref (v1 0), .ref (v2 0), .int 0, .ref qK, .int 0, .ref (c5 0), .ref qS, .ref qB])) :: (((((((((((((((([] ++ [(qT, .inr (4, [.ref rT, .int 0])), (rT, .inr (2, [.ref aT])), (aT, .inl (cI, 500, .inl (fun _ => 0)))]) ++ [(qR, .inr (1, [.ref qT, .ref rR, .int 0])), (rR, .inr (2, [.ref aR])), (aR, .inl (cI, 6, .inl (fun _ => 0)))]) ++ kTab aP 25 (pE cI aP zA zS)) ++ kTab aQ 25 (pE cI aQ zA zS)) ++ kTab v0 13 (vE cI v0 zA zS (aP 0) .null)) ++ kTab v1 13 (vE cI v1 zA zS (aP 0) .null)) ++ kTab v2 13 (vE cI v2 zA zS (aP 0) .null)) ++ [(qK, .inr (2, [.ref aK])), (aK, .inl (cI, 12, .inl (fun _ => 0)))]) ++ kTab c0 13 (vE cI c0 zA zS (aP 0) .null)) ++ kTab c1 13 (vE cI c1 zA zS (aP 0) (.ref (c0 0)))) ++ kTab c2 13 (vE cI c2 zA zS (aP 0) (.ref (c1 0)))) ++ kTab c3 13 (vE cI c3 zA zS (aP 0) (.ref (c2 0)))) ++ kTab c4 13 (vE cI c4 zA zS (aP 0) (.ref (c3 0)))) ++ kTab c5 13 (vE cI c5 zA zS (aP 0) (.ref (c4 0)))) ++ [(qS, .inr (3, [.ref qK, .ref r1, .ref r2, .long 0])), (r1, .inr (2, [.ref a1])), (a1, .inl (cI, 3, .inl (fun _ => 0))), (r2, .inr (2, [.ref a2])), (a2, .inl (cI, 3, .inl (fun _ => 0)))]) ++ [(qB, .inr (2, [.ref aB])), (aB, .inl (cI, 8, .inl (fun _ => 0)))])
set_option maxHeartbeats 4000000 in
set_option maxRecDepth 100000 in
theorem cList_at (h0 qT rT aT qR rR aR qK aK qS r1 a1 r2 a2 qB aB : Nat) (aP aQ v0 v1 v2 c0 c1 c2 c3 c4 c5 : Nat → Nat) (k : Nat) (hk : k < 183) : (cList cI h0 qT rT aT qR rR aR qK aK qS r1 a1 r2 a2 qB aB aP aQ v0 v1 v2 c0 c1 c2 c3 c4 c5)[cPos k]? = some (cAd h0 qT rT aT qR rR aR qK aK qS r1 a1 r2 a2 qB aB aP aQ v0 v1 v2 c0 c1 c2 c3 c4 c5 k, cE cI (cAd h0 qT rT aT qR rR aR qK aK qS r1 a1 r2 a2 qB aB aP aQ v0 v1 v2 c0 c1 c2 c3 c4 c5) zA zS zV zW zV zW 0 k) := by
  have l0 : ([] : va_W).length = 0 := rfl
  have l1 : (([] ++ [(qT, .inr (4, [.ref rT, .int 0])), (rT, .inr (2, [.ref aT])), (aT, .inl (cI, 500, .inl (fun _ => 0)))]) : va_W).length = 3 := lenA l0 rfl
  have l2 : ((([] ++ [(qT, .inr (4, [.ref rT, .int 0])), (rT, .inr (2, [.ref aT])), (aT, .inl (cI, 500, .inl (fun _ => 0)))]) ++ [(qR, .inr (1, [.ref qT, .ref rR, .int 0])), (rR, .inr (2, [.ref aR])), (aR, .inl (cI, 6, .inl (fun _ => 0)))]) : va_W).length = 6 := lenA l1 rfl
  have l3 : (((([] ++ [(qT, .inr (4, [.ref rT, .int 0])), (rT, .inr (2, [.ref aT])), (aT, .inl (cI, 500, .inl (fun _ => 0)))]) ++ [(qR, .inr (1, [.ref qT, .ref rR, .int 0])), (rR, .inr (2, [.ref aR])), (aR, .inl (cI, 6, .inl (fun _ => 0)))]) ++ kTab aP 25 (pE cI aP zA zS)) : va_W).length = 31 := lenA l2 kTab_length
  have l4 : ((((([] ++ [(qT, .inr (4, [.ref rT, .int 0])), (rT, .inr (2, [.ref aT])), (aT, .inl (cI, 500, .inl (fun _ => 0)))]) ++ [(qR, .inr (1, [.ref qT, .ref rR, .int 0])), (rR, .inr (2, [.ref aR])), (aR, .inl (cI, 6, .inl (fun _ => 0)))]) ++ kTab aP 25 (pE cI aP zA zS)) ++ kTab aQ 25 (pE cI aQ zA zS)) : va_W).length = 56 := lenA l3 kTab_length
  have l5 : (((((([] ++ [(qT, .inr (4, [.ref rT, .int 0])), (rT, .inr (2, [.ref aT])), (aT, .inl (cI, 500, .inl (fun _ => 0)))]) ++ [(qR, .inr (1, [.ref qT, .ref rR, .int 0])), (rR, .inr (2, [.ref aR])), (aR, .inl (cI, 6, .inl (fun _ => 0)))]) ++ kTab aP 25 (pE cI aP zA zS)) ++ kTab aQ 25 (pE cI aQ zA zS)) ++ kTab v0 13 (vE cI v0 zA zS (aP 0) .null)) : va_W).length = 69 := lenA l4 kTab_length
  have l6 : ((((((([] ++ [(qT, .inr (4, [.ref rT, .int 0])), (rT, .inr (2, [.ref aT])), (aT, .inl (cI, 500, .inl (fun _ => 0)))]) ++ [(qR, .inr (1, [.ref qT, .ref rR, .int 0])), (rR, .inr (2, [.ref aR])), (aR, .inl (cI, 6, .inl (fun _ => 0)))]) ++ kTab aP 25 (pE cI aP zA zS)) ++ kTab aQ 25 (pE cI aQ zA zS)) ++ kTab v0 13 (vE cI v0 zA zS (aP 0) .null)) ++ kTab v1 13 (vE cI v1 zA zS (aP 0) .null)) : va_W).length = 82 := lenA l5 kTab_length
  have l7 : (((((((([] ++ [(qT, .inr (4, [.ref rT, .int 0])), (rT, .inr (2, [.ref aT])), (aT, .inl (cI, 500, .inl (fun _ => 0)))]) ++ [(qR, .inr (1, [.ref qT, .ref rR, .int 0])), (rR, .inr (2, [.ref aR])), (aR, .inl (cI, 6, .inl (fun _ => 0)))]) ++ kTab aP 25 (pE cI aP zA zS)) ++ kTab aQ 25 (pE cI aQ zA zS)) ++ kTab v0 13 (vE cI v0 zA zS (aP 0) .null)) ++ kTab v1 13 (vE cI v1 zA zS (aP 0) .null)) ++ kTab v2 13 (vE cI v2 zA zS (aP 0) .null)) : va_W).length = 95 := lenA l6 kTab_length
  have l8 : ((((((((([] ++ [(qT, .inr (4, [.ref rT, .int 0])), (rT, .inr (2, [.ref aT])), (aT, .inl (cI, 500, .inl (fun _ => 0)))]) ++ [(qR, .inr (1, [.ref qT, .ref rR, .int 0])), (rR, .inr (2, [.ref aR])), (aR, .inl (cI, 6, .inl (fun _ => 0)))]) ++ kTab aP 25 (pE cI aP zA zS)) ++ kTab aQ 25 (pE cI aQ zA zS)) ++ kTab v0 13 (vE cI v0 zA zS (aP 0) .null)) ++ kTab v1 13 (vE cI v1 zA zS (aP 0) .null)) ++ kTab v2 13 (vE cI v2 zA zS (aP 0) .null)) ++ [(qK, .inr (2, [.ref aK])), (aK, .inl (cI, 12, .inl (fun _ => 0)))]) : va_W).length = 97 := lenA l7 rfl
  have l9 : (((((((((([] ++ [(qT, .inr (4, [.ref rT, .int 0])), (rT, .inr (2, [.ref aT])), (aT, .inl (cI, 500, .inl (fun _ => 0)))]) ++ [(qR, .inr (1, [.ref qT, .ref rR, .int 0])), (rR, .inr (2, [.ref aR])), (aR, .inl (cI, 6, .inl (fun _ => 0)))]) ++ kTab aP 25 (pE cI aP zA zS)) ++ kTab aQ 25 (pE cI aQ zA zS)) ++ kTab v0 13 (vE cI v0 zA zS (aP 0) .null)) ++ kTab v1 13 (vE cI v1 zA zS (aP 0) .null)) ++ kTab v2 13 (vE cI v2 zA zS (aP 0) .null)) ++ [(qK, .inr (2, [.ref aK])), (aK, .inl (cI, 12, .inl (fun _ => 0)))]) ++ kTab c0 13 (vE cI c0 zA zS (aP 0) .null)) : va_W).length = 110 := lenA l8 kTab_length
  have l10 : ((((((((((([] ++ [(qT, .inr (4, [.ref rT, .int 0])), (rT, .inr (2, [.ref aT])), (aT, .inl (cI, 500, .inl (fun _ => 0)))]) ++ [(qR, .inr (1, [.ref qT, .ref rR, .int 0])), (rR, .inr (2, [.ref aR])), (aR, .inl (cI, 6, .inl (fun _ => 0)))]) ++ kTab aP 25 (pE cI aP zA zS)) ++ kTab aQ 25 (pE cI aQ zA zS)) ++ kTab v0 13 (vE cI v0 zA zS (aP 0) .null)) ++ kTab v1 13 (vE cI v1 zA zS (aP 0) .null)) ++ kTab v2 13 (vE cI v2 zA zS (aP 0) .null)) ++ [(qK, .inr (2, [.ref aK])), (aK, .inl (cI, 12, .inl (fun _ => 0)))]) ++ kTab c0 13 (vE cI c0 zA zS (aP 0) .null)) ++ kTab c1 13 (vE cI c1 zA zS (aP 0) (.ref (c0 0)))) : va_W).length = 123 := lenA l9 kTab_length
  have l11 : (((((((((((([] ++ [(qT, .inr (4, [.ref rT, .int 0])), (rT, .inr (2, [.ref aT])), (aT, .inl (cI, 500, .inl (fun _ => 0)))]) ++ [(qR, .inr (1, [.ref qT, .ref rR, .int 0])), (rR, .inr (2, [.ref aR])), (aR, .inl (cI, 6, .inl (fun _ => 0)))]) ++ kTab aP 25 (pE cI aP zA zS)) ++ kTab aQ 25 (pE cI aQ zA zS)) ++ kTab v0 13 (vE cI v0 zA zS (aP 0) .null)) ++ kTab v1 13 (vE cI v1 zA zS (aP 0) .null)) ++ kTab v2 13 (vE cI v2 zA zS (aP 0) .null)) ++ [(qK, .inr (2, [.ref aK])), (aK, .inl (cI, 12, .inl (fun _ => 0)))]) ++ kTab c0 13 (vE cI c0 zA zS (aP 0) .null)) ++ kTab c1 13 (vE cI c1 zA zS (aP 0) (.ref (c0 0)))) ++ kTab c2 13 (vE cI c2 zA zS (aP 0) (.ref (c1 0)))) : va_W).length = 136 := lenA l10 kTab_length
  have l12 : ((((((((((((([] ++ [(qT, .inr (4, [.ref rT, .int 0])), (rT, .inr (2, [.ref aT])), (aT, .inl (cI, 500, .inl (fun _ => 0)))]) ++ [(qR, .inr (1, [.ref qT, .ref rR, .int 0])), (rR, .inr (2, [.ref aR])), (aR, .inl (cI, 6, .inl (fun _ => 0)))]) ++ kTab aP 25 (pE cI aP zA zS)) ++ kTab aQ 25 (pE cI aQ zA zS)) ++ kTab v0 13 (vE cI v0 zA zS (aP 0) .null)) ++ kTab v1 13 (vE cI v1 zA zS (aP 0) .null)) ++ kTab v2 13 (vE cI v2 zA zS (aP 0) .null)) ++ [(qK, .inr (2, [.ref aK])), (aK, .inl (cI, 12, .inl (fun _ => 0)))]) ++ kTab c0 13 (vE cI c0 zA zS (aP 0) .null)) ++ kTab c1 13 (vE cI c1 zA zS (aP 0) (.ref (c0 0)))) ++ kTab c2 13 (vE cI c2 zA zS (aP 0) (.ref (c1 0)))) ++ kTab c3 13 (vE cI c3 zA zS (aP 0) (.ref (c2 0)))) : va_W).length = 149 := lenA l11 kTab_length
  have l13 : (((((((((((((([] ++ [(qT, .inr (4, [.ref rT, .int 0])), (rT, .inr (2, [.ref aT])), (aT, .inl (cI, 500, .inl (fun _ => 0)))]) ++ [(qR, .inr (1, [.ref qT, .ref rR, .int 0])), (rR, .inr (2, [.ref aR])), (aR, .inl (cI, 6, .inl (fun _ => 0)))]) ++ kTab aP 25 (pE cI aP zA zS)) ++ kTab aQ 25 (pE cI aQ zA zS)) ++ kTab v0 13 (vE cI v0 zA zS (aP 0) .null)) ++ kTab v1 13 (vE cI v1 zA zS (aP 0) .null)) ++ kTab v2 13 (vE cI v2 zA zS (aP 0) .null)) ++ [(qK, .inr (2, [.ref aK])), (aK, .inl (cI, 12, .inl (fun _ => 0)))]) ++ kTab c0 13 (vE cI c0 zA zS (aP 0) .null)) ++ kTab c1 13 (vE cI c1 zA zS (aP 0) (.ref (c0 0)))) ++ kTab c2 13 (vE cI c2 zA zS (aP 0) (.ref (c1 0)))) ++ kTab c3 13 (vE cI c3 zA zS (aP 0) (.ref (c2 0)))) ++ kTab c4 13 (vE cI c4 zA zS (aP 0) (.ref (c3 0)))) : va_W).length = 162 := lenA l12 kTab_length
  have l14 : ((((((((((((((([] ++ [(qT, .inr (4, [.ref rT, .int 0])), (rT, .inr (2, [.ref aT])), (aT, .inl (cI, 500, .inl (fun _ => 0)))]) ++ [(qR, .inr (1, [.ref qT, .ref rR, .int 0])), (rR, .inr (2, [.ref aR])), (aR, .inl (cI, 6, .inl (fun _ => 0)))]) ++ kTab aP 25 (pE cI aP zA zS)) ++ kTab aQ 25 (pE cI aQ zA zS)) ++ kTab v0 13 (vE cI v0 zA zS (aP 0) .null)) ++ kTab v1 13 (vE cI v1 zA zS (aP 0) .null)) ++ kTab v2 13 (vE cI v2 zA zS (aP 0) .null)) ++ [(qK, .inr (2, [.ref aK])), (aK, .inl (cI, 12, .inl (fun _ => 0)))]) ++ kTab c0 13 (vE cI c0 zA zS (aP 0) .null)) ++ kTab c1 13 (vE cI c1 zA zS (aP 0) (.ref (c0 0)))) ++ kTab c2 13 (vE cI c2 zA zS (aP 0) (.ref (c1 0)))) ++ kTab c3 13 (vE cI c3 zA zS (aP 0) (.ref (c2 0)))) ++ kTab c4 13 (vE cI c4 zA zS (aP 0) (.ref (c3 0)))) ++ kTab c5 13 (vE cI c5 zA zS (aP 0) (.ref (c4 0)))) : va_W).length = 175 := lenA l13 kTab_length
  have l15 : (((((((((((((((([] ++ [(qT, .inr (4, [.ref rT, .int 0])), (rT, .inr (2, [.ref aT])), (aT, .inl (cI, 500, .inl (fun _ => 0)))]) ++ [(qR, .inr (1, [.ref qT, .ref rR, .int 0])), (rR, .inr (2, [.ref aR])), (aR, .inl (cI, 6, .inl (fun _ => 0)))]) ++ kTab aP 25 (pE cI aP zA zS)) ++ kTab aQ 25 (pE cI aQ zA zS)) ++ kTab v0 13 (vE cI v0 zA zS (aP 0) .null)) ++ kTab v1 13 (vE cI v1 zA zS (aP 0) .null)) ++ kTab v2 13 (vE cI v2 zA zS (aP 0) .null)) ++ [(qK, .inr (2, [.ref aK])), (aK, .inl (cI, 12, .inl (fun _ => 0)))]) ++ kTab c0 13 (vE cI c0 zA zS (aP 0) .null)) ++ kTab c1 13 (vE cI c1 zA zS (aP 0) (.ref (c0 0)))) ++ kTab c2 13 (vE cI c2 zA zS (aP 0) (.ref (c1 0)))) ++ kTab c3 13 (vE cI c3 zA zS (aP 0) (.ref (c2 0)))) ++ kTab c4 13 (vE cI c4 zA zS (aP 0) (.ref (c3 0)))) ++ kTab c5 13 (vE cI c5 zA zS (aP 0) (.ref (c4 0)))) ++ [(qS, .inr (3, [.ref qK, .ref r1, .ref r2, .long 0])), (r1, .inr (2, [.ref a1])), (a1, .inl (cI, 3, .inl (fun _ => 0))), (r2, .inr (2, [.ref a2])), (a2, .inl (cI, 3, .inl (fun _ => 0)))]) : va_W).length = 180 := lenA l14 rfl
  have l16 : ((((((((((((((((([] ++ [(qT, .inr (4, [.ref rT, .int 0])), (rT, .inr (2, [.ref aT])), (aT, .inl (cI, 500, .inl (fun _ => 0)))]) ++ [(qR, .inr (1, [.ref qT, .ref rR, .int 0])), (rR, .inr (2, [.ref aR])), (aR, .inl (cI, 6, .inl (fun _ => 0)))]) ++ kTab aP 25 (pE cI aP zA zS)) ++ kTab aQ 25 (pE cI aQ zA zS)) ++ kTab v0 13 (vE cI v0 zA zS (aP 0) .null)) ++ kTab v1 13 (vE cI v1 zA zS (aP 0) .null)) ++ kTab v2 13 (vE cI v2 zA zS (aP 0) .null)) ++ [(qK, .inr (2, [.ref aK])), (aK, .inl (cI, 12, .inl (fun _ => 0)))]) ++ kTab c0 13 (vE cI c0 zA zS (aP 0) .null)) ++ kTab c1 13 (vE cI c1 zA zS (aP 0) (.ref (c0 0)))) ++ kTab c2 13 (vE cI c2 zA zS (aP 0) (.ref (c1 0)))) ++ kTab c3 13 (vE cI c3 zA zS (aP 0) (.ref (c2 0)))) ++ kTab c4 13 (vE cI c4 zA zS (aP 0) (.ref (c3 0)))) ++ kTab c5 13 (vE cI c5 zA zS (aP 0) (.ref (c4 0)))) ++ [(qS, .inr (3, [.ref qK, .ref r1, .ref r2, .long 0])), (r1, .inr (2, [.ref a1])), (a1, .inl (cI, 3, .inl (fun _ => 0))), (r2, .inr (2, [.ref a2])), (a2, .inl (cI, 3, .inl (fun _ => 0)))]) ++ [(qB, .inr (2, [.ref aB])), (aB, .inl (cI, 8, .inl (fun _ => 0)))]) : va_W).length = 182 := lenA l15 rfl
  obtain ⟨ad, had⟩ : ∃ ad, ad = cAd h0 qT rT aT qR rR aR qK aK qS r1 a1 r2 a2 qB aB aP aQ v0 v1 v2 c0 c1 c2 c3 c4 c5 := ⟨_, rfl⟩
  have yP : ∀ t, t < 25 → ad (16 + t) = aP t := by
    intro t ht
    rw [had]
    show (if 16 + t < 16 then _ else _) = _
    rw [if_neg (by omega), if_pos (by omega), show 16 + t - 16 = t by omega]
  have yQ : ∀ t, t < 25 → ad (41 + t) = aQ t := by
    intro t ht
    rw [had]
    show (if 41 + t < 16 then _ else _) = _
    rw [if_neg (by omega), if_neg (by omega), if_pos (by omega), show 41 + t - 41 = t by omega]
  have yV0 : ∀ t, t < 13 → ad (66 + t) = v0 t := by
    intro t ht
    rw [had]
    show (if 66 + t < 16 then _ else _) = _
    rw [if_neg (by omega), if_neg (by omega), if_neg (by omega), if_pos (by omega), show 66 + t - 66 = t by omega]
  have yV1 : ∀ t, t < 13 → ad (79 + t) = v1 t := by
    intro t ht
    rw [had]
    show (if 79 + t < 16 then _ else _) = _
    rw [if_neg (by omega), if_neg (by omega), if_neg (by omega), if_neg (by omega), if_pos (by omega), show 79 + t - 79 = t by omega]
  have yV2 : ∀ t, t < 13 → ad (92 + t) = v2 t := by
    intro t ht
    rw [had]
    show (if 92 + t < 16 then _ else _) = _
    rw [if_neg (by omega), if_neg (by omega), if_neg (by omega), if_neg (by omega), if_neg (by omega), if_pos (by omega), show 92 + t - 92 = t by omega]
  have yC5 : ∀ t, t < 13 → ad (105 + t) = c5 t := by
    intro t ht
    rw [had]
    show (if 105 + t < 16 then _ else _) = _
    rw [if_neg (by omega), if_neg (by omega), if_neg (by omega), if_neg (by omega), if_neg (by omega), if_neg (by omega), if_pos (by omega), show 105 + t - 105 = t by omega]
  have yC4 : ∀ t, t < 13 → ad (118 + t) = c4 t := by
    intro t ht
    rw [had]
    show (if 118 + t < 16 then _ else _) = _
    rw [if_neg (by omega), if_neg (by omega), if_neg (by omega), if_neg (by omega), if_neg (by omega), if_neg (by omega), if_neg (by omega), if_pos (by omega), show 118 + t - 118 = t by omega]
  have yC3 : ∀ t, t < 13 → ad (131 + t) = c3 t := by
    intro t ht
    rw [had]
    show (if 131 + t < 16 then _ else _) = _
    rw [if_neg (by omega), if_neg (by omega), if_neg (by omega), if_neg (by omega), if_neg (by omega), if_neg (by omega), if_neg (by omega), if_neg (by omega), if_pos (by omega), show 131 + t - 131 = t by omega]
  have yC2 : ∀ t, t < 13 → ad (144 + t) = c2 t := by
    intro t ht
    rw [had]
    show (if 144 + t < 16 then _ else _) = _
    rw [if_neg (by omega), if_neg (by omega), if_neg (by omega), if_neg (by omega), if_neg (by omega), if_neg (by omega), if_neg (by omega), if_neg (by omega), if_neg (by omega), if_pos (by omega), show 144 + t - 144 = t by omega]
  have yC1 : ∀ t, t < 13 → ad (157 + t) = c1 t := by
    intro t ht
    rw [had]
    show (if 157 + t < 16 then _ else _) = _
    rw [if_neg (by omega), if_neg (by omega), if_neg (by omega), if_neg (by omega), if_neg (by omega), if_neg (by omega), if_neg (by omega), if_neg (by omega), if_neg (by omega), if_neg (by omega), if_pos (by omega), show 157 + t - 157 = t by omega]
  have yC0 : ∀ t, t < 13 → ad (170 + t) = c0 t := by
    intro t ht
    rw [had]
    show (if 170 + t < 16 then _ else _) = _
    rw [if_neg (by omega), if_neg (by omega), if_neg (by omega), if_neg (by omega), if_neg (by omega), if_neg (by omega), if_neg (by omega), if_neg (by omega), if_neg (by omega), if_neg (by omega), if_neg (by omega), show 170 + t - 170 = t by omega]
  have a16 : ad 16 = aP 0 := by rw [had]; rfl
  have mP : ∀ t, t < 25 → (cList cI h0 qT rT aT qR rR aR qK aK qS r1 a1 r2 a2 qB aB aP aQ v0 v1 v2 c0 c1 c2 c3 c4 c5)[7 + t]? = some (aP t, pE cI aP zA zS t) := by
    intro t ht
    unfold cList
    rw [show 7 + t = (6 + t) + 1 by omega, List.getElem?_cons_succ]
    exact getL 180 l15 (by omega) (getL 175 l14 (by omega) (getL 162 l13 (by omega) (getL 149 l12 (by omega) (getL 136 l11 (by omega) (getL 123 l10 (by omega) (getL 110 l9 (by omega) (getL 97 l8 (by omega) (getL 95 l7 (by omega) (getL 82 l6 (by omega) (getL 69 l5 (by omega) (getL 56 l4 (by omega) (getL 31 l3 (by omega) (getR 6 l2 (by omega) (kTab_get ht))))))))))))))
  have mQ : ∀ t, t < 25 → (cList cI h0 qT rT aT qR rR aR qK aK qS r1 a1 r2 a2 qB aB aP aQ v0 v1 v2 c0 c1 c2 c3 c4 c5)[32 + t]? = some (aQ t, pE cI aQ zA zS t) := by
    intro t ht
    unfold cList
    rw [show 32 + t = (31 + t) + 1 by omega, List.getElem?_cons_succ]
    exact getL 180 l15 (by omega) (getL 175 l14 (by omega) (getL 162 l13 (by omega) (getL 149 l12 (by omega) (getL 136 l11 (by omega) (getL 123 l10 (by omega) (getL 110 l9 (by omega) (getL 97 l8 (by omega) (getL 95 l7 (by omega) (getL 82 l6 (by omega) (getL 69 l5 (by omega) (getL 56 l4 (by omega) (getR 31 l3 (by omega) (kTab_get ht)))))))))))))
  have mV0 : ∀ t, t < 13 → (cList cI h0 qT rT aT qR rR aR qK aK qS r1 a1 r2 a2 qB aB aP aQ v0 v1 v2 c0 c1 c2 c3 c4 c5)[57 + t]? = some (v0 t, vE cI v0 zA zS (aP 0) .null t) := by
    intro t ht
    unfold cList
    rw [show 57 + t = (56 + t) + 1 by omega, List.getElem?_cons_succ]
    exact getL 180 l15 (by omega) (getL 175 l14 (by omega) (getL 162 l13 (by omega) (getL 149 l12 (by omega) (getL 136 l11 (by omega) (getL 123 l10 (by omega) (getL 110 l9 (by omega) (getL 97 l8 (by omega) (getL 95 l7 (by omega) (getL 82 l6 (by omega) (getL 69 l5 (by omega) (getR 56 l4 (by omega) (kTab_get ht))))))))))))
  have mV1 : ∀ t, t < 13 → (cList cI h0 qT rT aT qR rR aR qK aK qS r1 a1 r2 a2 qB aB aP aQ v0 v1 v2 c0 c1 c2 c3 c4 c5)[70 + t]? = some (v1 t, vE cI v1 zA zS (aP 0) .null t) := by
    intro t ht
    unfold cList
    rw [show 70 + t = (69 + t) + 1 by omega, List.getElem?_cons_succ]
    exact getL 180 l15 (by omega) (getL 175 l14 (by omega) (getL 162 l13 (by omega) (getL 149 l12 (by omega) (getL 136 l11 (by omega) (getL 123 l10 (by omega) (getL 110 l9 (by omega) (getL 97 l8 (by omega) (getL 95 l7 (by omega) (getL 82 l6 (by omega) (getR 69 l5 (by omega) (kTab_get ht)))))))))))
  have mV2 : ∀ t, t < 13 → (cList cI h0 qT rT aT qR rR aR qK aK qS r1 a1 r2 a2 qB aB aP aQ v0 v1 v2 c0 c1 c2 c3 c4 c5)[83 + t]? = some (v2 t, vE cI v2 zA zS (aP 0) .null t) := by
    intro t ht
    unfold cList
    rw [show 83 + t = (82 + t) + 1 by omega, List.getElem?_cons_succ]
    exact getL 180 l15 (by omega) (getL 175 l14 (by omega) (getL 162 l13 (by omega) (getL 149 l12 (by omega) (getL 136 l11 (by omega) (getL 123 l10 (by omega) (getL 110 l9 (by omega) (getL 97 l8 (by omega) (getL 95 l7 (by omega) (getR 82 l6 (by omega) (kTab_get ht))))))))))
  have mC5 : ∀ t, t < 13 → (cList cI h0 qT rT aT qR rR aR qK aK qS r1 a1 r2 a2 qB aB aP aQ v0 v1 v2 c0 c1 c2 c3 c4 c5)[163 + t]? = some (c5 t, vE cI c5 zA zS (aP 0) (.ref (c4 0)) t) := by
    intro t ht
    unfold cList
    rw [show 163 + t = (162 + t) + 1 by omega, List.getElem?_cons_succ]
    exact getL 180 l15 (by omega) (getL 175 l14 (by omega) (getR 162 l13 (by omega) (kTab_get ht)))
  have mC4 : ∀ t, t < 13 → (cList cI h0 qT rT aT qR rR aR qK aK qS r1 a1 r2 a2 qB aB aP aQ v0 v1 v2 c0 c1 c2 c3 c4 c5)[150 + t]? = some (c4 t, vE cI c4 zA zS (aP 0) (.ref (c3 0)) t) := by
    intro t ht
    unfold cList
    rw [show 150 + t = (149 + t) + 1 by omega, List.getElem?_cons_succ]
    exact getL 180 l15 (by omega) (getL 175 l14 (by omega) (getL 162 l13 (by omega) (getR 149 l12 (by omega) (kTab_get ht))))
  have mC3 : ∀ t, t < 13 → (cList cI h0 qT rT aT qR rR aR qK aK qS r1 a1 r2 a2 qB aB aP aQ v0 v1 v2 c0 c1 c2 c3 c4 c5)[137 + t]? = some (c3 t, vE cI c3 zA zS (aP 0) (.ref (c2 0)) t) := by
    intro t ht
    unfold cList
    rw [show 137 + t = (136 + t) + 1 by omega, List.getElem?_cons_succ]
    exact getL 180 l15 (by omega) (getL 175 l14 (by omega) (getL 162 l13 (by omega) (getL 149 l12 (by omega) (getR 136 l11 (by omega) (kTab_get ht)))))
  have mC2 : ∀ t, t < 13 → (cList cI h0 qT rT aT qR rR aR qK aK qS r1 a1 r2 a2 qB aB aP aQ v0 v1 v2 c0 c1 c2 c3 c4 c5)[124 + t]? = some (c2 t, vE cI c2 zA zS (aP 0) (.ref (c1 0)) t) := by
    intro t ht
    unfold cList
    rw [show 124 + t = (123 + t) + 1 by omega, List.getElem?_cons_succ]
    exact getL 180 l15 (by omega) (getL 175 l14 (by omega) (getL 162 l13 (by omega) (getL 149 l12 (by omega) (getL 136 l11 (by omega) (getR 123 l10 (by omega) (kTab_get ht))))))
  have mC1 : ∀ t, t < 13 → (cList cI h0 qT rT aT qR rR aR qK aK qS r1 a1 r2 a2 qB aB aP aQ v0 v1 v2 c0 c1 c2 c3 c4 c5)[111 + t]? = some (c1 t, vE cI c1 zA zS (aP 0) (.ref (c0 0)) t) := by
    intro t ht
    unfold cList
    rw [show 111 + t = (110 + t) + 1 by omega, List.getElem?_cons_succ]
    exact getL 180 l15 (by omega) (getL 175 l14 (by omega) (getL 162 l13 (by omega) (getL 149 l12 (by omega) (getL 136 l11 (by omega) (getL 123 l10 (by omega) (getR 110 l9 (by omega) (kTab_get ht)))))))
  have mC0 : ∀ t, t < 13 → (cList cI h0 qT rT aT qR rR aR qK aK qS r1 a1 r2 a2 qB aB aP aQ v0 v1 v2 c0 c1 c2 c3 c4 c5)[98 + t]? = some (c0 t, vE cI c0 zA zS (aP 0) .null t) := by
    intro t ht
    unfold cList
    rw [show 98 + t = (97 + t) + 1 by omega, List.getElem?_cons_succ]
    exact getL 180 l15 (by omega) (getL 175 l14 (by omega) (getL 162 l13 (by omega) (getL 149 l12 (by omega) (getL 136 l11 (by omega) (getL 123 l10 (by omega) (getL 110 l9 (by omega) (getR 97 l8 (by omega) (kTab_get ht))))))))
  obtain ⟨-, z1, z2, z3⟩ := cPos_at
  by_cases h16 : k < 16
  · rcases (show k = 0 ∨ k = 1 ∨ k = 2 ∨ k = 3 ∨ k = 4 ∨ k = 5 ∨ k = 6 ∨ k = 7 ∨ k = 8 ∨ k = 9 ∨ k = 10 ∨ k = 11 ∨ k = 12 ∨ k = 13 ∨ k = 14 ∨ k = 15 by omega) with rfl | rfl | rfl | rfl | rfl | rfl | rfl | rfl | rfl | rfl | rfl | rfl | rfl | rfl | rfl | rfl
    · rfl
    · have hs : (cList cI h0 qT rT aT qR rR aR qK aK qS r1 a1 r2 a2 qB aB aP aQ v0 v1 v2 c0 c1 c2 c3 c4 c5)[1]? = some (qT, .inr (4, [.ref rT, .int 0])) := by
        unfold cList
        refine List.getElem?_cons_succ.trans ?_
        exact getL 180 l15 (by omega) (getL 175 l14 (by omega) (getL 162 l13 (by omega) (getL 149 l12 (by omega) (getL 136 l11 (by omega) (getL 123 l10 (by omega) (getL 110 l9 (by omega) (getL 97 l8 (by omega) (getL 95 l7 (by omega) (getL 82 l6 (by omega) (getL 69 l5 (by omega) (getL 56 l4 (by omega) (getL 31 l3 (by omega) (getL 6 l2 (by omega) (getL 3 l1 (by omega) (getR 0 l0 (by omega) rfl (j := 0))))))))))))))))
      exact hs
    · have hs : (cList cI h0 qT rT aT qR rR aR qK aK qS r1 a1 r2 a2 qB aB aP aQ v0 v1 v2 c0 c1 c2 c3 c4 c5)[4]? = some (qR, .inr (1, [.ref qT, .ref rR, .int 0])) := by
        unfold cList
        refine List.getElem?_cons_succ.trans ?_
        exact getL 180 l15 (by omega) (getL 175 l14 (by omega) (getL 162 l13 (by omega) (getL 149 l12 (by omega) (getL 136 l11 (by omega) (getL 123 l10 (by omega) (getL 110 l9 (by omega) (getL 97 l8 (by omega) (getL 95 l7 (by omega) (getL 82 l6 (by omega) (getL 69 l5 (by omega) (getL 56 l4 (by omega) (getL 31 l3 (by omega) (getL 6 l2 (by omega) (getR 3 l1 (by omega) rfl (j := 0)))))))))))))))
      exact hs
    · have hs : (cList cI h0 qT rT aT qR rR aR qK aK qS r1 a1 r2 a2 qB aB aP aQ v0 v1 v2 c0 c1 c2 c3 c4 c5)[176]? = some (qS, .inr (3, [.ref qK, .ref r1, .ref r2, .long 0])) := by
        unfold cList
        refine List.getElem?_cons_succ.trans ?_
        exact getL 180 l15 (by omega) (getR 175 l14 (by omega) rfl (j := 0))
      exact hs
    · have hs : (cList cI h0 qT rT aT qR rR aR qK aK qS r1 a1 r2 a2 qB aB aP aQ v0 v1 v2 c0 c1 c2 c3 c4 c5)[2]? = some (rT, .inr (2, [.ref aT])) := by
        unfold cList
        refine List.getElem?_cons_succ.trans ?_
        exact getL 180 l15 (by omega) (getL 175 l14 (by omega) (getL 162 l13 (by omega) (getL 149 l12 (by omega) (getL 136 l11 (by omega) (getL 123 l10 (by omega) (getL 110 l9 (by omega) (getL 97 l8 (by omega) (getL 95 l7 (by omega) (getL 82 l6 (by omega) (getL 69 l5 (by omega) (getL 56 l4 (by omega) (getL 31 l3 (by omega) (getL 6 l2 (by omega) (getL 3 l1 (by omega) (getR 0 l0 (by omega) rfl (j := 1))))))))))))))))
      exact hs
    · have hs : (cList cI h0 qT rT aT qR rR aR qK aK qS r1 a1 r2 a2 qB aB aP aQ v0 v1 v2 c0 c1 c2 c3 c4 c5)[3]? = some (aT, .inl (cI, 500, .inl (fun _ => 0))) := by
        unfold cList
        refine List.getElem?_cons_succ.trans ?_
        exact getL 180 l15 (by omega) (getL 175 l14 (by omega) (getL 162 l13 (by omega) (getL 149 l12 (by omega) (getL 136 l11 (by omega) (getL 123 l10 (by omega) (getL 110 l9 (by omega) (getL 97 l8 (by omega) (getL 95 l7 (by omega) (getL 82 l6 (by omega) (getL 69 l5 (by omega) (getL 56 l4 (by omega) (getL 31 l3 (by omega) (getL 6 l2 (by omega) (getL 3 l1 (by omega) (getR 0 l0 (by omega) rfl (j := 2))))))))))))))))
      exact hs
    · have hs : (cList cI h0 qT rT aT qR rR aR qK aK qS r1 a1 r2 a2 qB aB aP aQ v0 v1 v2 c0 c1 c2 c3 c4 c5)[5]? = some (rR, .inr (2, [.ref aR])) := by
        unfold cList
        refine List.getElem?_cons_succ.trans ?_
        exact getL 180 l15 (by omega) (getL 175 l14 (by omega) (getL 162 l13 (by omega) (getL 149 l12 (by omega) (getL 136 l11 (by omega) (getL 123 l10 (by omega) (getL 110 l9 (by omega) (getL 97 l8 (by omega) (getL 95 l7 (by omega) (getL 82 l6 (by omega) (getL 69 l5 (by omega) (getL 56 l4 (by omega) (getL 31 l3 (by omega) (getL 6 l2 (by omega) (getR 3 l1 (by omega) rfl (j := 1)))))))))))))))
      exact hs
    · have hs : (cList cI h0 qT rT aT qR rR aR qK aK qS r1 a1 r2 a2 qB aB aP aQ v0 v1 v2 c0 c1 c2 c3 c4 c5)[6]? = some (aR, .inl (cI, 6, .inl (fun _ => 0))) := by
        unfold cList
        refine List.getElem?_cons_succ.trans ?_
        exact getL 180 l15 (by omega) (getL 175 l14 (by omega) (getL 162 l13 (by omega) (getL 149 l12 (by omega) (getL 136 l11 (by omega) (getL 123 l10 (by omega) (getL 110 l9 (by omega) (getL 97 l8 (by omega) (getL 95 l7 (by omega) (getL 82 l6 (by omega) (getL 69 l5 (by omega) (getL 56 l4 (by omega) (getL 31 l3 (by omega) (getL 6 l2 (by omega) (getR 3 l1 (by omega) rfl (j := 2)))))))))))))))
      exact hs
    · have hs : (cList cI h0 qT rT aT qR rR aR qK aK qS r1 a1 r2 a2 qB aB aP aQ v0 v1 v2 c0 c1 c2 c3 c4 c5)[96]? = some (qK, .inr (2, [.ref aK])) := by
        unfold cList
        refine List.getElem?_cons_succ.trans ?_
        exact getL 180 l15 (by omega) (getL 175 l14 (by omega) (getL 162 l13 (by omega) (getL 149 l12 (by omega) (getL 136 l11 (by omega) (getL 123 l10 (by omega) (getL 110 l9 (by omega) (getL 97 l8 (by omega) (getR 95 l7 (by omega) rfl (j := 0)))))))))
      exact hs
    · have hs : (cList cI h0 qT rT aT qR rR aR qK aK qS r1 a1 r2 a2 qB aB aP aQ v0 v1 v2 c0 c1 c2 c3 c4 c5)[97]? = some (aK, .inl (cI, 12, .inl (fun _ => 0))) := by
        unfold cList
        refine List.getElem?_cons_succ.trans ?_
        exact getL 180 l15 (by omega) (getL 175 l14 (by omega) (getL 162 l13 (by omega) (getL 149 l12 (by omega) (getL 136 l11 (by omega) (getL 123 l10 (by omega) (getL 110 l9 (by omega) (getL 97 l8 (by omega) (getR 95 l7 (by omega) rfl (j := 1)))))))))
      exact hs
    · have hs : (cList cI h0 qT rT aT qR rR aR qK aK qS r1 a1 r2 a2 qB aB aP aQ v0 v1 v2 c0 c1 c2 c3 c4 c5)[177]? = some (r1, .inr (2, [.ref a1])) := by
        unfold cList
        refine List.getElem?_cons_succ.trans ?_
        exact getL 180 l15 (by omega) (getR 175 l14 (by omega) rfl (j := 1))
      exact hs
    · have hs : (cList cI h0 qT rT aT qR rR aR qK aK qS r1 a1 r2 a2 qB aB aP aQ v0 v1 v2 c0 c1 c2 c3 c4 c5)[178]? = some (a1, .inl (cI, 3, .inl (fun _ => 0))) := by
        unfold cList
        refine List.getElem?_cons_succ.trans ?_
        exact getL 180 l15 (by omega) (getR 175 l14 (by omega) rfl (j := 2))
      exact hs
    · have hs : (cList cI h0 qT rT aT qR rR aR qK aK qS r1 a1 r2 a2 qB aB aP aQ v0 v1 v2 c0 c1 c2 c3 c4 c5)[179]? = some (r2, .inr (2, [.ref a2])) := by
        unfold cList
        refine List.getElem?_cons_succ.trans ?_
        exact getL 180 l15 (by omega) (getR 175 l14 (by omega) rfl (j := 3))
      exact hs
    · have hs : (cList cI h0 qT rT aT qR rR aR qK aK qS r1 a1 r2 a2 qB aB aP aQ v0 v1 v2 c0 c1 c2 c3 c4 c5)[180]? = some (a2, .inl (cI, 3, .inl (fun _ => 0))) := by
        unfold cList
        refine List.getElem?_cons_succ.trans ?_
        exact getL 180 l15 (by omega) (getR 175 l14 (by omega) rfl (j := 4))
      exact hs
    · have hs : (cList cI h0 qT rT aT qR rR aR qK aK qS r1 a1 r2 a2 qB aB aP aQ v0 v1 v2 c0 c1 c2 c3 c4 c5)[181]? = some (qB, .inr (2, [.ref aB])) := by
        unfold cList
        refine List.getElem?_cons_succ.trans ?_
        exact getR 180 l15 (by omega) rfl (j := 0)
      exact hs
    · have hs : (cList cI h0 qT rT aT qR rR aR qK aK qS r1 a1 r2 a2 qB aB aP aQ v0 v1 v2 c0 c1 c2 c3 c4 c5)[182]? = some (aB, .inl (cI, 8, .inl (fun _ => 0))) := by
        unfold cList
        refine List.getElem?_cons_succ.trans ?_
        exact getR 180 l15 (by omega) rfl (j := 1)
      exact hs
  rw [← had]
  by_cases h41 : k < 41
  · obtain ⟨t, rfl⟩ : ∃ t, k = 16 + t := ⟨k - 16, by omega⟩
    rw [z1 t (by omega), mP t (by omega), yP t (by omega)]
    have hE := cE_P (cI := cI) (ad := ad) (ML := zA) (MS := zS) (PL := zV) (PS := zW) (VL := zV) (VS := zW) (LL := 0) (p := 0) (t := t) (by omega) (by omega)
    rw [show 16 + 25 * 0 + t = 16 + t by omega] at hE
    rw [hE, pE_eq (a := aP) (fun t ht => by rw [show 16 + 25 * 0 + t = 16 + t by omega]; exact yP t ht) (by omega)]
    rfl
  by_cases h66 : k < 66
  · obtain ⟨t, rfl⟩ : ∃ t, k = 41 + t := ⟨k - 41, by omega⟩
    have zz : cPos (41 + t) = 32 + t := by rw [show 41 + t = 16 + (25 + t) by omega, z1 (25 + t) (by omega)]; omega
    rw [zz, mQ t (by omega), yQ t (by omega)]
    have hE := cE_P (cI := cI) (ad := ad) (ML := zA) (MS := zS) (PL := zV) (PS := zW) (VL := zV) (VS := zW) (LL := 0) (p := 1) (t := t) (by omega) (by omega)
    rw [show 16 + 25 * 1 + t = 41 + t by omega] at hE
    rw [hE, pE_eq (a := aQ) (fun t ht => by rw [show 16 + 25 * 1 + t = 41 + t by omega]; exact yQ t ht) (by omega)]
    rfl
  by_cases h79 : k < 79
  · obtain ⟨t, rfl⟩ : ∃ t, k = 66 + t := ⟨k - 66, by omega⟩
    have zz : cPos (66 + t) = 57 + t := by rw [show 66 + t = 66 + (0 + t) by omega, z2 (0 + t) (by omega)]; omega
    rw [zz, mV0 t (by omega), yV0 t (by omega)]
    have hE := cE_V (cI := cI) (ad := ad) (ML := zA) (MS := zS) (PL := zV) (PS := zW) (VL := zV) (VS := zW) (LL := 0) (v := 0) (t := t) (by omega)
    rw [show 66 + 13 * 0 + t = 66 + t by omega] at hE
    rw [hE, vE_eq (a := v0) a16 rfl (fun t ht => by rw [show 66 + 13 * 0 + t = 66 + t by omega]; exact yV0 t ht) (by omega)]
    rfl
  by_cases h92 : k < 92
  · obtain ⟨t, rfl⟩ : ∃ t, k = 79 + t := ⟨k - 79, by omega⟩
    have zz : cPos (79 + t) = 70 + t := by rw [show 79 + t = 66 + (13 + t) by omega, z2 (13 + t) (by omega)]; omega
    rw [zz, mV1 t (by omega), yV1 t (by omega)]
    have hE := cE_V (cI := cI) (ad := ad) (ML := zA) (MS := zS) (PL := zV) (PS := zW) (VL := zV) (VS := zW) (LL := 0) (v := 1) (t := t) (by omega)
    rw [show 66 + 13 * 1 + t = 79 + t by omega] at hE
    rw [hE, vE_eq (a := v1) a16 rfl (fun t ht => by rw [show 66 + 13 * 1 + t = 79 + t by omega]; exact yV1 t ht) (by omega)]
    rfl
  by_cases h105 : k < 105
  · obtain ⟨t, rfl⟩ : ∃ t, k = 92 + t := ⟨k - 92, by omega⟩
    have zz : cPos (92 + t) = 83 + t := by rw [show 92 + t = 66 + (26 + t) by omega, z2 (26 + t) (by omega)]; omega
    rw [zz, mV2 t (by omega), yV2 t (by omega)]
    have hE := cE_V (cI := cI) (ad := ad) (ML := zA) (MS := zS) (PL := zV) (PS := zW) (VL := zV) (VS := zW) (LL := 0) (v := 2) (t := t) (by omega)
    rw [show 66 + 13 * 2 + t = 92 + t by omega] at hE
    rw [hE, vE_eq (a := v2) a16 rfl (fun t ht => by rw [show 66 + 13 * 2 + t = 92 + t by omega]; exact yV2 t ht) (by omega)]
    rfl
  by_cases h118 : k < 118
  · obtain ⟨t, rfl⟩ : ∃ t, k = 105 + t := ⟨k - 105, by omega⟩
    have zz : cPos (105 + t) = 163 + t := (z3 t (by omega)).1
    rw [zz, mC5 t (by omega), yC5 t (by omega)]
    have hE := cE_V (cI := cI) (ad := ad) (ML := zA) (MS := zS) (PL := zV) (PS := zW) (VL := zV) (VS := zW) (LL := 0) (v := 3) (t := t) (by omega)
    rw [show 66 + 13 * 3 + t = 105 + t by omega] at hE
    rw [hE, vE_eq (a := c5) a16 ((vnextT (v := 3) (w := 4) (by omega) (by omega) rfl).trans (congrArg Value.ref (show ad (66 + 13 * 4) = c4 0 from yC4 0 (by omega)))) (fun t ht => by rw [show 66 + 13 * 3 + t = 105 + t by omega]; exact yC5 t ht) (by omega)]
    rfl
  by_cases h131 : k < 131
  · obtain ⟨t, rfl⟩ : ∃ t, k = 118 + t := ⟨k - 118, by omega⟩
    have zz : cPos (118 + t) = 150 + t := (z3 t (by omega)).2.1
    rw [zz, mC4 t (by omega), yC4 t (by omega)]
    have hE := cE_V (cI := cI) (ad := ad) (ML := zA) (MS := zS) (PL := zV) (PS := zW) (VL := zV) (VS := zW) (LL := 0) (v := 4) (t := t) (by omega)
    rw [show 66 + 13 * 4 + t = 118 + t by omega] at hE
    rw [hE, vE_eq (a := c4) a16 ((vnextT (v := 4) (w := 5) (by omega) (by omega) rfl).trans (congrArg Value.ref (show ad (66 + 13 * 5) = c3 0 from yC3 0 (by omega)))) (fun t ht => by rw [show 66 + 13 * 4 + t = 118 + t by omega]; exact yC4 t ht) (by omega)]
    rfl
  by_cases h144 : k < 144
  · obtain ⟨t, rfl⟩ : ∃ t, k = 131 + t := ⟨k - 131, by omega⟩
    have zz : cPos (131 + t) = 137 + t := (z3 t (by omega)).2.2.1
    rw [zz, mC3 t (by omega), yC3 t (by omega)]
    have hE := cE_V (cI := cI) (ad := ad) (ML := zA) (MS := zS) (PL := zV) (PS := zW) (VL := zV) (VS := zW) (LL := 0) (v := 5) (t := t) (by omega)
    rw [show 66 + 13 * 5 + t = 131 + t by omega] at hE
    rw [hE, vE_eq (a := c3) a16 ((vnextT (v := 5) (w := 6) (by omega) (by omega) rfl).trans (congrArg Value.ref (show ad (66 + 13 * 6) = c2 0 from yC2 0 (by omega)))) (fun t ht => by rw [show 66 + 13 * 5 + t = 131 + t by omega]; exact yC3 t ht) (by omega)]
    rfl
  by_cases h157 : k < 157
  · obtain ⟨t, rfl⟩ : ∃ t, k = 144 + t := ⟨k - 144, by omega⟩
    have zz : cPos (144 + t) = 124 + t := (z3 t (by omega)).2.2.2.1
    rw [zz, mC2 t (by omega), yC2 t (by omega)]
    have hE := cE_V (cI := cI) (ad := ad) (ML := zA) (MS := zS) (PL := zV) (PS := zW) (VL := zV) (VS := zW) (LL := 0) (v := 6) (t := t) (by omega)
    rw [show 66 + 13 * 6 + t = 144 + t by omega] at hE
    rw [hE, vE_eq (a := c2) a16 ((vnextT (v := 6) (w := 7) (by omega) (by omega) rfl).trans (congrArg Value.ref (show ad (66 + 13 * 7) = c1 0 from yC1 0 (by omega)))) (fun t ht => by rw [show 66 + 13 * 6 + t = 144 + t by omega]; exact yC2 t ht) (by omega)]
    rfl
  by_cases h170 : k < 170
  · obtain ⟨t, rfl⟩ : ∃ t, k = 157 + t := ⟨k - 157, by omega⟩
    have zz : cPos (157 + t) = 111 + t := (z3 t (by omega)).2.2.2.2.1
    rw [zz, mC1 t (by omega), yC1 t (by omega)]
    have hE := cE_V (cI := cI) (ad := ad) (ML := zA) (MS := zS) (PL := zV) (PS := zW) (VL := zV) (VS := zW) (LL := 0) (v := 7) (t := t) (by omega)
    rw [show 66 + 13 * 7 + t = 157 + t by omega] at hE
    rw [hE, vE_eq (a := c1) a16 ((vnextT (v := 7) (w := 8) (by omega) (by omega) rfl).trans (congrArg Value.ref (show ad (66 + 13 * 8) = c0 0 from yC0 0 (by omega)))) (fun t ht => by rw [show 66 + 13 * 7 + t = 157 + t by omega]; exact yC1 t ht) (by omega)]
    rfl
  obtain ⟨t, rfl⟩ : ∃ t, k = 170 + t := ⟨k - 170, by omega⟩
  have zz : cPos (170 + t) = 98 + t := (z3 t (by omega)).2.2.2.2.2
  rw [zz, mC0 t (by omega), yC0 t (by omega)]
  have hE := cE_V (cI := cI) (ad := ad) (ML := zA) (MS := zS) (PL := zV) (PS := zW) (VL := zV) (VS := zW) (LL := 0) (v := 8) (t := t) (by omega)
  rw [show 66 + 13 * 8 + t = 170 + t by omega] at hE
  rw [hE, vE_eq (a := c0) a16 rfl (fun t ht => by rw [show 66 + 13 * 8 + t = 170 + t by omega]; exact yC0 t ht) (by omega)]
  rfl
theorem cws_make (h0 qT rT aT qR rR aR qK aK qS r1 a1 r2 a2 qB aB : Nat) (aP aQ v0 v1 v2 c0 c1 c2 c3 c4 c5 : Nat → Nat) (hD : va_D A (cList cI h0 qT rT aT qR rR aR qK aK qS r1 a1 r2 a2 qB aB aP aQ v0 v1 v2 c0 c1 c2 c3 c4 c5)) (hP : va_P D vwCl (cList cI h0 qT rT aT qR rR aR qK aK qS r1 a1 r2 a2 qB aB aP aQ v0 v1 v2 c0 c1 c2 c3 c4 c5) H) : ∃ ad : Nat → Nat, ad 0 = h0 ∧ kInj ad 183 ∧ (∀ k, k < 183 → A (ad k)) ∧ va_P D vwCl (cws cI ad zA zS zV zW zV zW 0) H := by
  have key := cList_at (cI := cI) h0 qT rT aT qR rR aR qK aK qS r1 a1 r2 a2 qB aB aP aQ v0 v1 v2 c0 c1 c2 c3 c4 c5
  refine ⟨cAd h0 qT rT aT qR rR aR qK aK qS r1 a1 r2 a2 qB aB aP aQ v0 v1 v2 c0 c1 c2 c3 c4 c5, rfl, fun i j hi hj h => ?_, fun k hk => ?_, fun k q hq => ?_⟩
  · exact cPos_inj i hi j hj (hD.1 _ _ _ _ (key i hi) (key j hj) h)
  · exact hD.2 _ _ (key k hk)
  · obtain ⟨hk, rfl⟩ := kTab_lt hq
    exact hP _ _ (key k hk)
end CFIRST
