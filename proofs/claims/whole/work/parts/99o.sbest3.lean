/-! best: the class's walk through the same rows -/
/-- a row of spots, told by a number -/
def preQ (c q : Nat) (f : Nat → Int32) : Prop := q < 17 ^ c ∧ ∀ j, j < c → f j = nI (q / 17 ^ (c - 1 - j) % 17)
theorem preQ.step {c q : Nat} {f g : Nat → Int32} (h : preQ c q f) {k : Nat} (hk : k < 17) (hg : ∀ j, j < c → g j = f j) (hc : g c = nI k) : preQ (c + 1) (17 * q + k) g := by
  refine ⟨?_, fun j hj => ?_⟩
  · have := h.1
    rw [Nat.pow_succ]; omega
  · by_cases e : j = c
    · subst e
      rw [hc, show j + 1 - 1 - j = 0 by omega, Nat.pow_zero, Nat.div_one, show (17 * q + k) % 17 = k by omega]
    · rw [hg j (by omega), h.2 j (by omega), show c + 1 - 1 - j = (c - 1 - j) + 1 by omega, Nat.pow_succ, Nat.mul_comm (17 ^ (c - 1 - j)), ← Nat.div_div_eq_div_mul, show (17 * q + k) / 17 = q by omega]
/-- the best so far, on both sides -/
def relB (N : Nat) (z : Int64 × Int32) (LL : Int64) (sp : Nat → Int32) : Prop :=
  (z.1 = 1152921504606846976 ∧ LL = 9223372036854775807) ∨ (z.1 = LL ∧ LL.toInt ≤ 80000000000000 ∧ ∃ q, z.2 = nI q ∧ preQ N q sp)
theorem relB.cmp {N : Nat} {z : Int64 × Int32} {LL : Int64} {sp : Nat → Int32} (h : relB N z LL sp) {x : Int64} (hx : x.toInt ≤ 80000000000000) : 0 ≤ lg_cmp x LL ↔ z.1.toInt ≤ x.toInt := by
  rw [lgc]
  rcases h with ⟨h1, h2⟩ | ⟨h1, h2, -⟩
  · rw [h1, h2, big60, show (9223372036854775807 : Int64).toInt = 9223372036854775807 by decide]; omega
  · rw [h1]
section SBEST3
variable {PL : Nat → Nat → Nat → Int32} {PS : Nat → Nat → Int32} {RA : Nat → Nat → Int32} {RS : Nat → Int32} {RN : Nat → Nat}
def aP (w f : Nat → Nat → Int32) (ws fs : Nat → Int32) (pl : Nat → Nat → Int32) (ps : Nat → Int32) (r k h : Int32) : (Nat → Int32) × (Nat → Int32) × (Nat → Int32) × Int32 × Int32 := v_passHourAt (qL w f fs) (qS w f ws fs) pl ps r k h
def aL (w f : Nat → Nat → Int32) (ws fs : Nat → Int32) (pl : Nat → Nat → Int32) (ps : Nat → Int32) (r k h : Int32) : Nat → Nat → Int32 := va_up (va_up (va_up (va_up (va_up (va_up w 1 ((aP w f ws fs pl ps r k h).1)) 2 ((v_copyFrom w f fs).2.1)) 3 ((v_copyFrom w f fs).2.2.1)) 4 ((v_copyFrom w f fs).2.2.2.1)) 5 ((aP w f ws fs pl ps r k h).2.1)) 6 ((aP w f ws fs pl ps r k h).2.2.1)
def aS (w f : Nat → Nat → Int32) (ws fs : Nat → Int32) (pl : Nat → Nat → Int32) (ps : Nat → Int32) (r k h : Int32) : Nat → Int32 := va_up (va_up (va_up (va_up (va_up ws 8 ((v_copyFrom w f fs).2.2.2.2.2.2.1)) 9 ((v_copyFrom w f fs).2.2.2.2.2.2.2.1)) 10 ((aP w f ws fs pl ps r k h).2.2.2.1)) 11 ((aP w f ws fs pl ps r k h).2.2.2.2)) 12 ((v_copyFrom w f fs).2.2.2.2.2.2.2.2.2.2)
theorem sF.aGone {f w pl : Nat → Nat → Int32} {fs ws ps : Nat → Int32} (h : sF f fs pl ps RA RS RN) {k : Nat} (hk : k < 3) (r : Int32) {s : Nat} (hs : s = 16 ∨ s < 2 * RN 4) {hands : Int32} (hn : hands.toNatClampNeg ≤ 100) :
    sF (aL w f ws fs pl ps (nI s) (nI k) hands) (aS w f ws fs pl ps (nI s) (nI k) hands) pl ps (nR RA (m_goHour RA RS RN r k hands (nI s)).1 (m_goHour RA RS RN r k hands (nI s)).2.1 (m_goHour RA RS RN r k hands (nI s)).2.2) RS RN := by
  have q := h.goneAt (w := w) (ws := ws) hk r hs hn (aS w f ws fs pl ps (nI s) (nI k) hands) rfl
  have e : aL w f ws fs pl ps (nI s) (nI k) hands = nV (qL w f fs) (v_passHourAt (qL w f fs) (qS w f ws fs) pl ps (nI s) (nI k) hands).1 (v_passHourAt (qL w f fs) (qS w f ws fs) pl ps (nI s) (nI k) hands).2.1 (v_passHourAt (qL w f fs) (qS w f ws fs) pl ps (nI s) (nI k) hands).2.2.1 := nN_V
  rw [e]; exact q
/-- one spot tried -/
def goB (F : (Nat → Nat → Int32) → (Nat → Nat → Nat → Int32) → (Nat → Nat → Int32) → Int64 → Int32 → Int32 → Int64 × (Nat → Nat → Int32) × (Nat → Nat → Nat → Int32) × (Nat → Nat → Int32)) (wn : Nat) (PL : Nat → Nat → Nat → Int32) (PS : Nat → Nat → Int32) (v2 v3 : Int32) (i : Nat) (X : Nat → Nat → Int32) (Y : Nat → Int32) (LL : Int64) (ML : Nat → Nat → Int32) (VL : Nat → Nat → Nat → Int32) (VS : Nat → Nat → Int32) : Int64 × (Nat → Nat → Int32) × (Nat → Nat → Nat → Int32) × (Nat → Nat → Int32) :=
  if 0 ≤ lg_cmp (v_lossSoFar X Y (PL 0) (PS 0)) LL then (LL, va_up ML 3 (rs 3 (ML 3) v2 (nI i)), va_up VL wn X, va_up VS wn Y) else
    if v3 ≤ v2 + 1 then (v_lossSoFar X Y (PL 0) (PS 0), va_up (va_up ML 3 (rs 3 (ML 3) v2 (nI i))) 4 (rc (min 3 3) (rs 3 (ML 3) v2 (nI i)) (ML 4)), va_up VL wn X, va_up VS wn Y) else
      F (va_up ML 3 (rs 3 (ML 3) v2 (nI i))) (va_up VL wn X) (va_up VS wn Y) LL (v2 + 1) v3
theorem go_2 (F : (Nat → Nat → Int32) → (Nat → Nat → Nat → Int32) → (Nat → Nat → Int32) → Int64 → Int32 → Int32 → Int64 × (Nat → Nat → Int32) × (Nat → Nat → Nat → Int32) × (Nat → Nat → Int32)) (vn wn : Nat) (v2 v3 : Int32) (n i : Nat) (LL : Int64) (ML : Nat → Nat → Int32) (VL : Nat → Nat → Nat → Int32) (VS : Nat → Nat → Int32) (X : Nat → Nat → Int32) (Y : Nat → Int32)
    (hX : X = aL (VL wn) (VL vn) (VS wn) (VS vn) (PL 0) (PS 0) (nI i) (rg 12 (ML 2) v2) (PS 0 14)) (hY : Y = aS (VL wn) (VL vn) (VS wn) (VS vn) (PL 0) (PS 0) (nI i) (rg 12 (ML 2) v2) (PS 0 14)) (B : Int64 × (Nat → Nat → Int32) × (Nat → Nat → Nat → Int32) × (Nat → Nat → Int32)) (hB : B = goB F wn PL PS v2 v3 i X Y LL ML VL VS) :
    s_goOn_L20 F vn wn PL PS v2 v3 (n + 1) i LL ML VL VS = if nI i = 16 then s_goOn_L20 F vn wn PL PS v2 v3 n (i + 1) B.1 B.2.1 B.2.2.1 B.2.2.2 else if v_stands (VS vn) (PS 0) (nI (i / 2)) = 0 then s_goOn_L20 F vn wn PL PS v2 v3 n (i + 1) LL ML VL VS else s_goOn_L20 F vn wn PL PS v2 v3 n (i + 1) B.1 B.2.1 B.2.2.1 B.2.2.2 := by
  have e : s_goOn_L20 F vn wn PL PS v2 v3 (n + 1) i LL ML VL VS = if nI i = 16 then (if 0 ≤ lg_cmp (v_lossSoFar X Y (PL 0) (PS 0)) LL then s_goOn_L20 F vn wn PL PS v2 v3 n (i + 1) LL (va_up ML 3 (rs 3 (ML 3) v2 (nI i))) (va_up VL wn X) (va_up VS wn Y) else (if v3 ≤ v2 + 1 then s_goOn_L20 F vn wn PL PS v2 v3 n (i + 1) (v_lossSoFar X Y (PL 0) (PS 0)) (va_up (va_up ML 3 (rs 3 (ML 3) v2 (nI i))) 4 (rc (min 3 3) (rs 3 (ML 3) v2 (nI i)) (ML 4))) (va_up VL wn X) (va_up VS wn Y) else s_goOn_L20 F vn wn PL PS v2 v3 n (i + 1) ((F (va_up ML 3 (rs 3 (ML 3) v2 (nI i))) (va_up VL wn X) (va_up VS wn Y) LL (v2 + 1) v3).1) ((F (va_up ML 3 (rs 3 (ML 3) v2 (nI i))) (va_up VL wn X) (va_up VS wn Y) LL (v2 + 1) v3).2.1) ((F (va_up ML 3 (rs 3 (ML 3) v2 (nI i))) (va_up VL wn X) (va_up VS wn Y) LL (v2 + 1) v3).2.2.1) ((F (va_up ML 3 (rs 3 (ML 3) v2 (nI i))) (va_up VL wn X) (va_up VS wn Y) LL (v2 + 1) v3).2.2.2)))
      else (if v_stands (VS vn) (PS 0) (nI (i / 2)) = 0 then s_goOn_L20 F vn wn PL PS v2 v3 n (i + 1) LL ML VL VS else (if 0 ≤ lg_cmp (v_lossSoFar X Y (PL 0) (PS 0)) LL then s_goOn_L20 F vn wn PL PS v2 v3 n (i + 1) LL (va_up ML 3 (rs 3 (ML 3) v2 (nI i))) (va_up VL wn X) (va_up VS wn Y) else (if v3 ≤ v2 + 1 then s_goOn_L20 F vn wn PL PS v2 v3 n (i + 1) (v_lossSoFar X Y (PL 0) (PS 0)) (va_up (va_up ML 3 (rs 3 (ML 3) v2 (nI i))) 4 (rc (min 3 3) (rs 3 (ML 3) v2 (nI i)) (ML 4))) (va_up VL wn X) (va_up VS wn Y) else s_goOn_L20 F vn wn PL PS v2 v3 n (i + 1) ((F (va_up ML 3 (rs 3 (ML 3) v2 (nI i))) (va_up VL wn X) (va_up VS wn Y) LL (v2 + 1) v3).1) ((F (va_up ML 3 (rs 3 (ML 3) v2 (nI i))) (va_up VL wn X) (va_up VS wn Y) LL (v2 + 1) v3).2.1) ((F (va_up ML 3 (rs 3 (ML 3) v2 (nI i))) (va_up VL wn X) (va_up VS wn Y) LL (v2 + 1) v3).2.2.1) ((F (va_up ML 3 (rs 3 (ML 3) v2 (nI i))) (va_up VL wn X) (va_up VS wn Y) LL (v2 + 1) v3).2.2.2)))) := by
    subst hX hY
    exact s_goOn_L20.eq_2 ..
  rw [e, hB]
  unfold goB
  by_cases c1 : 0 ≤ lg_cmp (v_lossSoFar X Y (PL 0) (PS 0)) LL
  · simp only [if_pos c1]
  · by_cases c2 : v3 ≤ v2 + 1
    · simp only [if_neg c1, if_pos c2]
    · simp only [if_neg c1, if_neg c2]
end SBEST3
