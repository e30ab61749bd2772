/-! THE CLASS'S WORLD: 183 cells. 0 the object itself, 1 Text, 2 Reader, 3 Search; 4+2m the m-th of the six single Rows, 5+2m its array; 16+25p the p-th Plan, +2j-1, +2j its j-th Row and that one's array (j = 1 .. 12, the field's slot); 66+13v the v-th Village, +2j-1, +2j likewise (j = 1 .. 6).
What they hold: ML m (single rows: 0 the text, 1 the reader's numbers, 2 skies, 3 tried spots, 4 best spots, 5 borne), MS (0 kept, 1 manySkies, 2 the text's length, 3 the reader's place), PL p j, PS p (by the slot), VL v j, VS v (by the slot), LL leastLoss. -/
def mlen (m : Nat) : Nat := match m with
  | 0 => 500
  | 1 => 6
  | 2 => 12
  | 3 => 3
  | 4 => 3
  | _ => 8
def plen (j : Nat) : Nat := match j with
  | 1 => 16
  | 8 => 32
  | 9 => 32
  | 10 => 6
  | 11 => 3
  | 12 => 9
  | _ => 8
def vlen (j : Nat) : Nat := match j with
  | 1 => 16
  | 5 => 24
  | _ => 8
def vnext (ad : Nat → Nat) (v : Nat) : Value := if v < 3 then .null else if v = 8 then .null else .ref (ad (66 + 13 * (v + 1)))
def vflds (ad : Nat → Nat) (v : Nat) (vs : Nat → Int32) : List Value := [.ref (ad 16), .ref (ad (66 + 13 * v + 1)), .ref (ad (66 + 13 * v + 3)), .ref (ad (66 + 13 * v + 5)), .ref (ad (66 + 13 * v + 7)), .ref (ad (66 + 13 * v + 9)), .ref (ad (66 + 13 * v + 11)), vnext ad v, .int (vs 8), .int (vs 9), .int (vs 10), .int (vs 11), .int (vs 12)]
def pflds (ad : Nat → Nat) (p : Nat) (ps : Nat → Int32) : List Value := [.int (ps 0), .ref (ad (16 + 25 * p + 1)), .ref (ad (16 + 25 * p + 3)), .ref (ad (16 + 25 * p + 5)), .ref (ad (16 + 25 * p + 7)), .ref (ad (16 + 25 * p + 9)), .ref (ad (16 + 25 * p + 11)), .ref (ad (16 + 25 * p + 13)), .ref (ad (16 + 25 * p + 15)), .ref (ad (16 + 25 * p + 17)), .ref (ad (16 + 25 * p + 19)), .ref (ad (16 + 25 * p + 21)), .ref (ad (16 + 25 * p + 23)), .int (ps 13), .int (ps 14), .int (ps 15), .int (ps 16), .int (ps 17), .int (ps 18), .int (ps 19)]
def oflds (ad : Nat → Nat) (ms : Nat → Int32) : List Value := [.ref (ad 1), .ref (ad 2), .ref (ad 16), .ref (ad 41), .ref (ad 66), .ref (ad 79), .ref (ad 92), .int (ms 0), .ref (ad 8), .int (ms 1), .ref (ad 105), .ref (ad 3), .ref (ad 14)]
def cEm (cI : ClassId) (ad : Nat → Nat) (ML : Nat → Nat → Int32) (MS : Nat → Int32) (LL : Int64) (k : Nat) : va_E := if k = 0 then .inr (6, oflds ad MS) else if k = 1 then .inr (4, [.ref (ad 4), .int (MS 2)]) else if k = 2 then .inr (1, [.ref (ad 1), .ref (ad 6), .int (MS 3)]) else if k = 3 then .inr (3, [.ref (ad 8), .ref (ad 10), .ref (ad 12), .long LL]) else if k % 2 = 0 then .inr (2, [.ref (ad (k + 1))]) else .inl (cI, mlen ((k - 5) / 2), .inl (ML ((k - 5) / 2)))
def cEp (cI : ClassId) (ad : Nat → Nat) (pl : Nat → Nat → Int32) (ps : Nat → Int32) (p t : Nat) : va_E := if t = 0 then .inr (0, pflds ad p ps) else if t % 2 = 1 then .inr (2, [.ref (ad (16 + 25 * p + t + 1))]) else .inl (cI, plen (t / 2), .inl (pl (t / 2)))
def cEv (cI : ClassId) (ad : Nat → Nat) (vl : Nat → Nat → Int32) (vs : Nat → Int32) (v t : Nat) : va_E := if t = 0 then .inr (5, vflds ad v vs) else if t % 2 = 1 then .inr (2, [.ref (ad (66 + 13 * v + t + 1))]) else .inl (cI, vlen (t / 2), .inl (vl (t / 2)))
def cE (cI : ClassId) (ad : Nat → Nat) (ML : Nat → Nat → Int32) (MS : Nat → Int32) (PL : Nat → Nat → Nat → Int32) (PS : Nat → Nat → Int32) (VL : Nat → Nat → Nat → Int32) (VS : Nat → Nat → Int32) (LL : Int64) (k : Nat) : va_E :=
  if k < 16 then cEm cI ad ML MS LL k else if k < 66 then cEp cI ad (PL ((k - 16) / 25)) (PS ((k - 16) / 25)) ((k - 16) / 25) ((k - 16) % 25) else cEv cI ad (VL ((k - 66) / 13)) (VS ((k - 66) / 13)) ((k - 66) / 13) ((k - 66) % 13)
def cws (cI : ClassId) (ad : Nat → Nat) (ML : Nat → Nat → Int32) (MS : Nat → Int32) (PL : Nat → Nat → Nat → Int32) (PS : Nat → Nat → Int32) (VL : Nat → Nat → Nat → Int32) (VS : Nat → Nat → Int32) (LL : Int64) : va_W := kTab ad 183 (cE cI ad ML MS PL PS VL VS LL)
section CW
variable {cI : ClassId} {ad : Nat → Nat} {ML : Nat → Nat → Int32} {MS : Nat → Int32} {PL : Nat → Nat → Nat → Int32} {PS : Nat → Nat → Int32} {VL : Nat → Nat → Nat → Int32} {VS : Nat → Nat → Int32} {LL : Int64}
theorem cE_V {v t : Nat} (ht : t < 13) : cE cI ad ML MS PL PS VL VS LL (66 + 13 * v + t) = cEv cI ad (VL v) (VS v) v t := by
  have h1 : (66 + 13 * v + t - 66) / 13 = v := by omega
  have h2 : (66 + 13 * v + t - 66) % 13 = t := by omega
  unfold cE
  rw [if_neg (by omega), if_neg (by omega), h1, h2]
theorem cE_P {p t : Nat} (hp : p < 2) (ht : t < 25) : cE cI ad ML MS PL PS VL VS LL (16 + 25 * p + t) = cEp cI ad (PL p) (PS p) p t := by
  have h1 : (16 + 25 * p + t - 16) / 25 = p := by omega
  have h2 : (16 + 25 * p + t - 16) % 25 = t := by omega
  unfold cE
  rw [if_neg (by omega), if_pos (by omega), h1, h2]
theorem cE_M {k : Nat} (hk : k < 16) : cE cI ad ML MS PL PS VL VS LL k = cEm cI ad ML MS LL k := by
  unfold cE
  rw [if_pos hk]
theorem cE_cases {k : Nat} (hk : k < 183) : k < 16 ∨ (∃ p t, p < 2 ∧ t < 25 ∧ k = 16 + 25 * p + t) ∨ ∃ v t, v < 9 ∧ t < 13 ∧ k = 66 + 13 * v + t := by
  by_cases h1 : k < 16
  · exact Or.inl h1
  · by_cases h2 : k < 66
    · exact Or.inr (Or.inl ⟨(k - 16) / 25, (k - 16) % 25, by omega, by omega, by omega⟩)
    · exact Or.inr (Or.inr ⟨(k - 66) / 13, (k - 66) % 13, by omega, by omega, by omega⟩)
-- where the cells are
theorem wV {v : Nat} (hv : v < 9) : (cws cI ad ML MS PL PS VL VS LL)[66 + 13 * v]? = some (ad (66 + 13 * v), .inr (5, vflds ad v (VS v))) := kTab_at (by omega) ((cE_V (t := 0) (by omega)).trans rfl)
theorem wVo {v : Nat} (hv : v < 9) (t : Nat) (ht : t < 13) (h2 : t % 2 = 1) : (cws cI ad ML MS PL PS VL VS LL)[66 + 13 * v + t]? = some (ad (66 + 13 * v + t), .inr (2, [.ref (ad (66 + 13 * v + t + 1))])) := kTab_at (by omega) (by rw [cE_V ht]; unfold cEv; rw [if_neg (by omega), if_pos h2])
theorem wVa {v : Nat} (hv : v < 9) (t : Nat) (ht : t < 12) (h2 : t % 2 = 1) : (cws cI ad ML MS PL PS VL VS LL)[66 + 13 * v + t + 1]? = some (ad (66 + 13 * v + t + 1), .inl (cI, vlen ((t + 1) / 2), .inl (VL v ((t + 1) / 2)))) := kTab_at (by omega) (by rw [show 66 + 13 * v + t + 1 = 66 + 13 * v + (t + 1) from rfl, cE_V (by omega)]; unfold cEv; rw [if_neg (by omega), if_neg (by omega)])
theorem wP {p : Nat} (hp : p < 2) : (cws cI ad ML MS PL PS VL VS LL)[16 + 25 * p]? = some (ad (16 + 25 * p), .inr (0, pflds ad p (PS p))) := kTab_at (by omega) ((cE_P (t := 0) hp (by omega)).trans rfl)
theorem wPo {p : Nat} (hp : p < 2) (t : Nat) (ht : t < 25) (h2 : t % 2 = 1) : (cws cI ad ML MS PL PS VL VS LL)[16 + 25 * p + t]? = some (ad (16 + 25 * p + t), .inr (2, [.ref (ad (16 + 25 * p + t + 1))])) := kTab_at (by omega) (by rw [cE_P hp ht]; unfold cEp; rw [if_neg (by omega), if_pos h2])
theorem wPa {p : Nat} (hp : p < 2) (t : Nat) (ht : t < 24) (h2 : t % 2 = 1) : (cws cI ad ML MS PL PS VL VS LL)[16 + 25 * p + t + 1]? = some (ad (16 + 25 * p + t + 1), .inl (cI, plen ((t + 1) / 2), .inl (PL p ((t + 1) / 2)))) := kTab_at (by omega) (by rw [show 16 + 25 * p + t + 1 = 16 + 25 * p + (t + 1) from rfl, cE_P hp (by omega)]; unfold cEp; rw [if_neg (by omega), if_neg (by omega)])
theorem wM {k : Nat} (hk : k < 16) {x : va_E} (hx : cEm cI ad ML MS LL k = x) : (cws cI ad ML MS PL PS VL VS LL)[k]? = some (ad k, x) := kTab_at (by omega) ((cE_M hk).trans hx)
-- what writing does
theorem sVs {v : Nat} (hv : v < 9) (vs : Nat → Int32) : (cws cI ad ML MS PL PS VL VS LL).set (66 + 13 * v) (ad (66 + 13 * v), .inr (5, vflds ad v vs)) = cws cI ad ML MS PL PS VL (va_up VS v vs) LL := by
  unfold cws
  rw [kTab_set (by omega)]
  refine kTab_ext (fun k hk => ?_)
  rcases cE_cases hk with h | ⟨p, t, hp, ht, rfl⟩ | ⟨w, t, hw, ht, rfl⟩
  · rw [va_up_ne _ _ (by omega), cE_M h, cE_M h]
  · rw [va_up_ne _ _ (by omega), cE_P hp ht, cE_P hp ht]
  · rw [cE_V ht]
    by_cases hwv : w = v
    · subst hwv
      by_cases h0 : t = 0
      · subst h0
        rw [show 66 + 13 * w + 0 = 66 + 13 * w from rfl, va_up_self, va_up_self]
        rfl
      · rw [va_up_ne _ _ (by omega), cE_V ht, va_up_self]
        unfold cEv
        rw [if_neg h0, if_neg h0]
    · rw [va_up_ne _ _ (by omega), cE_V ht, va_up_ne _ _ hwv]
theorem sVl {v : Nat} (hv : v < 9) (t : Nat) (ht : t < 12) (h2 : t % 2 = 1) (f : Nat → Int32) : (cws cI ad ML MS PL PS VL VS LL).set (66 + 13 * v + t + 1) (ad (66 + 13 * v + t + 1), .inl (cI, vlen ((t + 1) / 2), .inl f)) = cws cI ad ML MS PL PS (va_up VL v (va_up (VL v) ((t + 1) / 2) f)) VS LL := by
  unfold cws
  rw [kTab_set (by omega)]
  refine kTab_ext (fun k hk => ?_)
  rcases cE_cases hk with h | ⟨p, t', hp, ht', rfl⟩ | ⟨w, t', hw, ht', rfl⟩
  · rw [va_up_ne _ _ (by omega), cE_M h, cE_M h]
  · rw [va_up_ne _ _ (by omega), cE_P hp ht', cE_P hp ht']
  · rw [cE_V ht']
    by_cases hwv : w = v
    · subst hwv
      by_cases h0 : t' = t + 1
      · subst h0
        rw [show 66 + 13 * w + (t + 1) = 66 + 13 * w + t + 1 from rfl, va_up_self, va_up_self]
        unfold cEv
        rw [if_neg (by omega), if_neg (by omega), va_up_self]
      · rw [va_up_ne _ _ (by omega), cE_V ht', va_up_self]
        unfold cEv
        by_cases h3 : t' = 0
        · rw [if_pos h3, if_pos h3]
        · rw [if_neg h3, if_neg h3]
          by_cases h4 : t' % 2 = 1
          · rw [if_pos h4, if_pos h4]
          · rw [if_neg h4, if_neg h4, va_up_ne _ _ (by omega)]
    · rw [va_up_ne _ _ (by omega), cE_V ht', va_up_ne _ _ hwv]
theorem sPs {p : Nat} (hp : p < 2) (ps : Nat → Int32) : (cws cI ad ML MS PL PS VL VS LL).set (16 + 25 * p) (ad (16 + 25 * p), .inr (0, pflds ad p ps)) = cws cI ad ML MS PL (va_up PS p ps) VL VS LL := by
  unfold cws
  rw [kTab_set (by omega)]
  refine kTab_ext (fun k hk => ?_)
  rcases cE_cases hk with h | ⟨w, t, hw, ht, rfl⟩ | ⟨w, t, hw, ht, rfl⟩
  · rw [va_up_ne _ _ (by omega), cE_M h, cE_M h]
  · rw [cE_P hw ht]
    by_cases hwv : w = p
    · subst hwv
      by_cases h0 : t = 0
      · subst h0
        rw [show 16 + 25 * w + 0 = 16 + 25 * w from rfl, va_up_self, va_up_self]
        rfl
      · rw [va_up_ne _ _ (by omega), cE_P hw ht, va_up_self]
        unfold cEp
        rw [if_neg h0, if_neg h0]
    · rw [va_up_ne _ _ (by omega), cE_P hw ht, va_up_ne _ _ hwv]
  · rw [va_up_ne _ _ (by omega), cE_V ht, cE_V ht]
theorem sPl {p : Nat} (hp : p < 2) (t : Nat) (ht : t < 24) (h2 : t % 2 = 1) (f : Nat → Int32) : (cws cI ad ML MS PL PS VL VS LL).set (16 + 25 * p + t + 1) (ad (16 + 25 * p + t + 1), .inl (cI, plen ((t + 1) / 2), .inl f)) = cws cI ad ML MS (va_up PL p (va_up (PL p) ((t + 1) / 2) f)) PS VL VS LL := by
  unfold cws
  rw [kTab_set (by omega)]
  refine kTab_ext (fun k hk => ?_)
  rcases cE_cases hk with h | ⟨w, t', hw, ht', rfl⟩ | ⟨w, t', hw, ht', rfl⟩
  · rw [va_up_ne _ _ (by omega), cE_M h, cE_M h]
  · rw [cE_P hw ht']
    by_cases hwv : w = p
    · subst hwv
      by_cases h0 : t' = t + 1
      · subst h0
        rw [show 16 + 25 * w + (t + 1) = 16 + 25 * w + t + 1 from rfl, va_up_self, va_up_self]
        unfold cEp
        rw [if_neg (by omega), if_neg (by omega), va_up_self]
      · rw [va_up_ne _ _ (by omega), cE_P hw ht', va_up_self]
        unfold cEp
        by_cases h3 : t' = 0
        · rw [if_pos h3, if_pos h3]
        · rw [if_neg h3, if_neg h3]
          by_cases h4 : t' % 2 = 1
          · rw [if_pos h4, if_pos h4]
          · rw [if_neg h4, if_neg h4, va_up_ne _ _ (by omega)]
    · rw [va_up_ne _ _ (by omega), cE_P hw ht', va_up_ne _ _ hwv]
  · rw [va_up_ne _ _ (by omega), cE_V ht', cE_V ht']
theorem sMany {k0 : Nat} (hk0 : k0 < 16) (e : va_E) {ML' : Nat → Nat → Int32} {MS' : Nat → Int32} {LL' : Int64} (h0 : cEm cI ad ML' MS' LL' k0 = e) (h1 : ∀ k, k < 16 → k ≠ k0 → cEm cI ad ML MS LL k = cEm cI ad ML' MS' LL' k) : (cws cI ad ML MS PL PS VL VS LL).set k0 (ad k0, e) = cws cI ad ML' MS' PL PS VL VS LL' := by
  unfold cws
  rw [kTab_set (by omega)]
  refine kTab_ext (fun k hk => ?_)
  rcases cE_cases hk with h | ⟨w, t, hw, ht, rfl⟩ | ⟨w, t, hw, ht, rfl⟩
  · by_cases hkk : k = k0
    · subst hkk
      rw [va_up_self, cE_M h, h0]
    · rw [va_up_ne _ _ hkk, cE_M h, cE_M h, h1 k h hkk]
  · rw [va_up_ne _ _ (by omega), cE_P hw ht, cE_P hw ht]
  · rw [va_up_ne _ _ (by omega), cE_V ht, cE_V ht]
theorem sMl {m : Nat} (hm : m < 6) (f : Nat → Int32) : (cws cI ad ML MS PL PS VL VS LL).set (5 + 2 * m) (ad (5 + 2 * m), .inl (cI, mlen m, .inl f)) = cws cI ad (va_up ML m f) MS PL PS VL VS LL := by
  refine sMany (by omega) _ ?_ (fun k hk hne => ?_)
  · unfold cEm
    have h9 : (5 + 2 * m - 5) / 2 = m := by omega
    rw [if_neg (by omega), if_neg (by omega), if_neg (by omega), if_neg (by omega), if_neg (by omega), h9, va_up_self]
  · unfold cEm
    by_cases h5 : k % 2 = 0
    · simp only [h5, if_true]
    · simp only [h5, if_false]
      by_cases h6 : k < 4
      · rcases (show k = 1 ∨ k = 3 by omega) with rfl | rfl <;> rfl
      · rw [va_up_ne _ _ (by omega)]
theorem sM0 (a b : Int32) : (cws cI ad ML MS PL PS VL VS LL).set 0 (ad 0, .inr (6, oflds ad (va_up (va_up MS 0 a) 1 b))) = cws cI ad ML (va_up (va_up MS 0 a) 1 b) PL PS VL VS LL := sMany (by omega) _ rfl (fun k hk hne => by
  unfold cEm
  rw [if_neg hne, if_neg hne]
  rfl)
theorem sM1 (a : Int32) : (cws cI ad ML MS PL PS VL VS LL).set 1 (ad 1, .inr (4, [.ref (ad 4), .int a])) = cws cI ad ML (va_up MS 2 a) PL PS VL VS LL := sMany (by omega) _ rfl (fun k hk hne => by
  unfold cEm
  by_cases h0 : k = 0
  · subst h0; rfl
  · rw [if_neg h0, if_neg h0, if_neg hne, if_neg hne]; rfl)
theorem sM2 (a : Int32) : (cws cI ad ML MS PL PS VL VS LL).set 2 (ad 2, .inr (1, [.ref (ad 1), .ref (ad 6), .int a])) = cws cI ad ML (va_up MS 3 a) PL PS VL VS LL := sMany (by omega) _ rfl (fun k hk hne => by
  unfold cEm
  by_cases h0 : k = 0
  · subst h0; rfl
  · rw [if_neg h0, if_neg h0]
    by_cases h1 : k = 1
    · subst h1; rfl
    · rw [if_neg h1, if_neg h1, if_neg hne, if_neg hne])
theorem sM3 (a : Int64) : (cws cI ad ML MS PL PS VL VS LL).set 3 (ad 3, .inr (3, [.ref (ad 8), .ref (ad 10), .ref (ad 12), .long a])) = cws cI ad ML MS PL PS VL VS a := sMany (by omega) _ rfl (fun k hk hne => by
  unfold cEm
  by_cases h0 : k = 0
  · subst h0; rfl
  · rw [if_neg h0, if_neg h0]
    by_cases h1 : k = 1
    · subst h1; rfl
    · rw [if_neg h1, if_neg h1]
      by_cases h2 : k = 2
      · subst h2; rfl
      · rw [if_neg h2, if_neg h2, if_neg hne, if_neg hne])
theorem cwsD (hI : kInj ad 183) : va_D (kAA ad 183) (cws cI ad ML MS PL PS VL VS LL) := kTab_D hI
theorem vflds_up (v k : Nat) (vs : Nat → Int32) (x : Int32) (hk : 8 ≤ k ∧ k < 13) : (vflds ad v vs).set k (.int x) = vflds ad v (va_up vs k x) := by
  rcases (show k = 8 ∨ k = 9 ∨ k = 10 ∨ k = 11 ∨ k = 12 by omega) with rfl | rfl | rfl | rfl | rfl <;> rfl
end CW
/-! THE REFERENCE'S WORLD: its object and 23 arrays. By the field's slot: RA (arrays), RS (ints), RN (ints that are numbers: 1 length, 3 itemMany, 4 many, 28 skyNow, 29 told, 32 rowMany, 34 keptMany, 35 at), RL (least) -/
def mArr : List Nat := [0, 2, 5, 6, 7, 8, 9, 10, 11, 12, 13, 14, 21, 22, 23, 24, 25, 31, 33, 36, 37, 39, 41]
def mflds (ad : Nat → Nat) (RS : Nat → Int32) (RN : Nat → Nat) (RL : Int64) : List Value := [.ref (ad 1), .int (nI (RN 1)), .ref (ad 2), .int (nI (RN 3)), .int (nI (RN 4)), .ref (ad 3), .ref (ad 4), .ref (ad 5), .ref (ad 6), .ref (ad 7), .ref (ad 8), .ref (ad 9), .ref (ad 10), .ref (ad 11), .ref (ad 12), .int (RS 15), .int (RS 16), .int (RS 17), .int (RS 18), .int (RS 19), .int (RS 20), .ref (ad 13), .ref (ad 14), .ref (ad 15), .ref (ad 16), .ref (ad 17), .int (RS 26), .int (RS 27), .int (nI (RN 28)), .int (nI (RN 29)), .int (RS 30), .ref (ad 18), .int (nI (RN 32)), .ref (ad 19), .int (nI (RN 34)), .int (nI (RN 35)), .ref (ad 20), .ref (ad 21), .int (RS 38), .ref (ad 22), .long RL, .ref (ad 23)]
def RWs (cI : ClassId) (ad : Nat → Nat) (RA : Nat → Nat → Int32) (RS : Nat → Int32) (RN : Nat → Nat) (RL : Int64) : va_W := [(ad 0, .inr (7, mflds ad RS RN RL)), (ad 1, .inl (cI, 500, .inl (RA 0))), (ad 2, .inl (cI, 1200, .inl (RA 2))), (ad 3, .inl (cI, 8, .inl (RA 5))), (ad 4, .inl (cI, 8, .inl (RA 6))), (ad 5, .inl (cI, 8, .inl (RA 7))), (ad 6, .inl (cI, 8, .inl (RA 8))), (ad 7, .inl (cI, 8, .inl (RA 9))), (ad 8, .inl (cI, 32, .inl (RA 10))), (ad 9, .inl (cI, 32, .inl (RA 11))), (ad 10, .inl (cI, 8, .inl (RA 12))), (ad 11, .inl (cI, 9, .inl (RA 13))), (ad 12, .inl (cI, 9, .inl (RA 14))), (ad 13, .inl (cI, 16, .inl (RA 21))), (ad 14, .inl (cI, 8, .inl (RA 22))), (ad 15, .inl (cI, 8, .inl (RA 23))), (ad 16, .inl (cI, 24, .inl (RA 24))), (ad 17, .inl (cI, 8, .inl (RA 25))), (ad 18, .inl (cI, 12, .inl (RA 31))), (ad 19, .inl (cI, 200, .inl (RA 33))), (ad 20, .inl (cI, 16, .inl (RA 36))), (ad 21, .inl (cI, 24, .inl (RA 37))), (ad 22, .inl (cI, 8, .inl (RA 39))), (ad 23, .inl (cI, 8, .inl (RA 41)))]
theorem RWsD {cI : ClassId} {ad : Nat → Nat} {RA : Nat → Nat → Int32} {RS : Nat → Int32} {RN : Nat → Nat} {RL : Int64} (hI : kInj ad 24) : va_D (kAA ad 24) (RWs cI ad RA RS RN RL) := by
  have key : ∀ (k : Nat) (q : Nat × va_E), (RWs cI ad RA RS RN RL)[k]? = some q → k < 24 ∧ q.1 = ad k := by
    intro k q h
    have hl : k < 24 := (List.getElem?_eq_some_iff.mp h).1
    refine ⟨hl, ?_⟩
    rcases (show k = 0 ∨ k = 1 ∨ k = 2 ∨ k = 3 ∨ k = 4 ∨ k = 5 ∨ k = 6 ∨ k = 7 ∨ k = 8 ∨ k = 9 ∨ k = 10 ∨ k = 11 ∨ k = 12 ∨ k = 13 ∨ k = 14 ∨ k = 15 ∨ k = 16 ∨ k = 17 ∨ k = 18 ∨ k = 19 ∨ k = 20 ∨ k = 21 ∨ k = 22 ∨ k = 23 by omega) with rfl | rfl | rfl | rfl | rfl | rfl | rfl | rfl | rfl | rfl | rfl | rfl | rfl | rfl | rfl | rfl | rfl | rfl | rfl | rfl | rfl | rfl | rfl | rfl <;> (cases h; rfl)
  refine ⟨fun i j x y hx hy hxy => ?_, fun k q hk => ?_⟩
  · obtain ⟨h1, e1⟩ := key i x hx
    obtain ⟨h2, e2⟩ := key j y hy
    exact hI i j h1 h2 (by rw [← e1, ← e2, hxy])
  · obtain ⟨h1, e1⟩ := key k q hk
    exact ⟨k, h1, e1⟩
