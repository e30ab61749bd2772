/-! weather, props, peaks: an hour -/
theorem ti_div10 {p : Int32} (h : 0 ≤ p.toInt) : (p / 10).toInt = p.toInt / 10 := by
  have h1 : (10 : Int32).toInt = 10 := by decide
  have h2 := Int32.toInt_lt p
  rw [Int32.toInt_div, h1, Int.tdiv_eq_ediv_of_nonneg h]
  exact Int.bmod_eq_of_le (by omega) (by omega)
/-- peaks of loads: the class begins at nothing, the reference far below -/
def pk (n : Nat) (f g : Nat → Int32) : Prop := ∀ i, i < n → f i = g i ∨ (f i = 0 ∧ (g i).toInt ≤ 0)
def nV (vl : Nat → Nat → Int32) (f1 f5 f6 : Nat → Int32) : Nat → Nat → Int32 := va_up (va_up (va_up vl 1 f1) 5 f5) 6 f6
def nR (RA : Nat → Nat → Int32) (g36 g37 g39 : Nat → Int32) : Nat → Nat → Int32 := va_up (va_up (va_up RA 36 g36) 37 g37) 39 g39
theorem nV_nV {vl : Nat → Nat → Int32} {a b c a' b' c' : Nat → Int32} : nV (nV vl a b c) a' b' c' = nV vl a' b' c' := by
  unfold nV
  funext k
  unfold va_up
  by_cases h6 : k = 6 <;> by_cases h5 : k = 5 <;> by_cases h1 : k = 1 <;> simp [h6, h5, h1]
theorem nR_nR {RA : Nat → Nat → Int32} {a b c a' b' c' : Nat → Int32} : nR (nR RA a b c) a' b' c' = nR RA a' b' c' := by
  unfold nR
  funext k
  unfold va_up
  by_cases h6 : k = 39 <;> by_cases h5 : k = 37 <;> by_cases h1 : k = 36 <;> simp [h6, h5, h1]
section SWEATHER
variable {vl pl : Nat → Nat → Int32} {vs ps : Nat → Int32} {RA : Nat → Nat → Int32} {RS : Nat → Int32} {RN : Nat → Nat} {B : Int}
theorem sH.nest {f1 f5 f6 g36 g37 g39 : Nat → Int32} {B' : Int} (h : sH vl vs pl ps RA RS RN B) (e : eqF (2 * RN 4) f1 g36) (w : rW (va_up RA 36 g36) RS RN B') (e5 : ∀ i k, i < RN 4 → k < (RA 25 i).toNatClampNeg → f5 (3 * i + k) = g37 (3 * i + k)) : sH (nV vl f1 f5 f6) vs pl ps (nR RA g36 g37 g39) RS RN B' := ⟨⟨h.1.1, h.1.2⟩, ⟨h.2.1.1, h.2.1.2⟩, ⟨e, h.V.2.1, e5, h.V.2.2.2⟩, w⟩
/-- what falls and what lies then, of one side -/
def gF (k : Nat) (RA : Nat → Nat → Int32) (i : Nat) (x : Int32) : Int32 := x + (RA 13 (3 * k + i % 2) + (x * RA 13 (3 * k + 2)) / 10)
theorem lf_eq (h : sH vl vs pl ps RA RS RN B) {k : Nat} (hk : k < 3) {j : Nat} (hj : j < 2 * RN 4) : v_letFall vl vs pl ps (nI k) j = if bt (RS 38) (j / 2) = true then gF k RA j (vl 1 j) else vl 1 j := by
  have h8 := h.many
  have hz : zB (vs 8) (RN 4) := by rw [h.v8]; exact h.W.2.2
  unfold v_letFall v_letFall_k2
  rw [h.P.1, nx2, nI_clamp (by omega)]
  have q := upL (L := v_letFall_L2 vs pl ps (nI k)) (2 * RN 4) (fun i x => if bt (RS 38) (i / 2) = true then gF k RA i x else x) (fun i f => by rw [v_letFall_L2.eq_1]) (fun n i f hi => by
    rw [v_letFall_L2.eq_2]
    by_cases c : bt (RS 38) (i / 2) = true
    · rw [if_neg (show ¬ v_stands vs ps (nI (i / 2)) = 0 from fun z => by rw [st_bt h.P.1 h8 hz (by omega), h.v8, c] at z; cases z), if_pos c]
      have e1 : rg 6 (pl 10) (2 * nI k + nI (i % 2)) = RA 13 (3 * k + i % 2) := by
        rw [nx2, nI_add, rg_in (by omega) (by omega)]
        rcases (show i % 2 = 0 ∨ i % 2 = 1 by omega) with e | e
        · rw [e]; exact (h.P.2.2.2.1 k hk).1
        · rw [e]; exact (h.P.2.2.2.1 k hk).2.1
      rw [e1, rg_in (n := 16) (by omega) (by omega), rg_in (n := 3) (by omega) (by omega), (h.P.2.2.2.1 k hk).2.2, rs_in (by omega) (by omega)]
      rfl
    · rw [if_pos ((st_bt h.P.1 h8 hz (by omega)).mpr (by rw [h.v8]; cases h9 : bt (RS 38) (i / 2) <;> first | rfl | exact absurd h9 c)), if_neg c, upd_id]) (2 * RN 4) 0 (vl 1) j (by omega)
  rw [q, if_pos (by omega)]
theorem sl_eq (h : sH vl vs pl ps RA RS RN B) {f : Nat → Int32} {j : Nat} (hj : j < 2 * RN 4) : v_slide (va_up vl 1 f) pl ps j = jmin (f j) (RA 6 (j / 2)) := by
  have h8 := h.many
  unfold v_slide v_slide_k2
  rw [h.P.1, nx2, nI_clamp (by omega)]
  have q := upL (L := v_slide_L2 pl) (2 * RN 4) (fun i x => jmin x (RA 6 (i / 2))) (fun i f => by rw [v_slide_L2.eq_1]) (fun n i f hi => by
    rw [v_slide_L2.eq_2, rg_in (n := 16) (by omega) (by omega), rg_in (n := 8) (by omega) (by omega), rs_in (by omega) (by omega), (h.P.2.1 (i / 2) (by omega)).1.2]) (2 * RN 4) 0 f j (by omega)
  show v_slide_L2 pl (2 * RN 4) 0 f j = _
  rw [q, if_pos (by omega)]
theorem bp_eq {f : Nat → Int32} {j : Nat} (hj : j < 24) : v_bringPropsNearer (va_up vl 5 f) j = jmax (f j - 1) 0 := by
  unfold v_bringPropsNearer v_bringPropsNearer_k2
  have q := upL (L := v_bringPropsNearer_L2) 24 (fun i x => jmax (x - 1) 0) (fun i f => by rw [v_bringPropsNearer_L2.eq_1]) (fun n i f hi => by
    rw [v_bringPropsNearer_L2.eq_2, rg_in (by omega) (by omega), rs_in (by omega) (by omega)]) 24 0 f j (by omega)
  show v_bringPropsNearer_L2 24 0 f j = _
  rw [q, if_pos (by omega)]
theorem rw_eq {k : Nat} (h8 : RN 4 ≤ 8) {f : Nat → Int32} {j : Nat} (hj : j < 16) : m_goHour_L38 RA RS RN k 16 0 f j = if RN 4 ≤ j / 2 then f j else if bt (RS 38) (j / 2) = true then (if gF k RA j (f j) ≤ RA 6 (j / 2) then gF k RA j (f j) else RA 6 (j / 2)) else f j := by
  have q := upL (L := m_goHour_L38 RA RS RN k) 16 (fun i x => if RN 4 ≤ i / 2 then x else if bt (RS 38) (i / 2) = true then (if gF k RA i x ≤ RA 6 (i / 2) then gF k RA i x else RA 6 (i / 2)) else x) (fun i f => by rw [m_goHour_L38.eq_1]) (fun n i f hi => by
    rw [m_goHour_L38.eq_2]
    by_cases c1 : RN 4 ≤ i / 2
    · rw [if_pos (show nI (RN 4) ≤ nI (i / 2) from nI_le c1 (by omega)), if_pos c1, upd_id]
    · rw [if_neg (show ¬ nI (RN 4) ≤ nI (i / 2) from nI_ge (by omega) (by omega)), if_neg c1]
      by_cases c : bt (RS 38) (i / 2) = true
      · rw [if_neg (show ¬ m_has (RS 38) (nI (i / 2)) = 0 from fun z => by rw [bt_has0 _ (by omega), c] at z; cases z), if_pos c, pk_us]
        show (if gF k RA i (f i) ≤ RA 6 (i / 2) then m_goHour_L38 RA RS RN k n (i + 1) (upd (upd f i (gF k RA i (f i))) i (gF k RA i (f i))) else m_goHour_L38 RA RS RN k n (i + 1) (upd (upd f i (gF k RA i (f i))) i (RA 6 (i / 2)))) = _
        have tw : ∀ x y : Int32, upd (upd f i x) i y = upd f i y := fun x y => by
          funext j; unfold upd; split <;> rfl
        rw [tw, tw]
        by_cases c2 : gF k RA i (f i) ≤ RA 6 (i / 2)
        · rw [if_pos c2, if_pos c2]
        · rw [if_neg c2, if_neg c2]
      · rw [if_pos ((bt_has0 _ (by omega)).mpr (by cases h9 : bt (RS 38) (i / 2) <;> first | rfl | exact absurd h9 c)), if_neg c, upd_id]) 16 0 f j (by omega)
  rw [q, if_pos (by omega)]
theorem rp_eq {f : Nat → Int32} {j : Nat} (hj : j < 24) : m_goHour_L169 24 0 f j = if f j ≤ 0 then f j - 0 else f j - 1 := by
  have q := upL (L := m_goHour_L169) 24 (fun i x => if x ≤ 0 then x - 0 else x - 1) (fun i f => by rw [m_goHour_L169.eq_1]) (fun n i f hi => by
    rw [m_goHour_L169.eq_2]
    by_cases c : f i ≤ 0
    · rw [if_pos c, if_pos c]
    · rw [if_neg c, if_neg c]) 24 0 f j (by omega)
  rw [q, if_pos (by omega)]
theorem gF_nn (hB : rB RA RS RN) {k : Nat} (hk : k < 3) {j : Nat} {x : Int32} (h0 : 0 ≤ x.toInt) (h1 : x.toInt ≤ 100000) : 0 ≤ (gF k RA j x).toInt := by
  have b1 := rB_sky hB (j := 3 * k + j % 2) (by omega)
  have b2 := rB_sky hB (j := 3 * k + 2) (by omega)
  have m0 : 0 ≤ x.toInt * (RA 13 (3 * k + 2)).toInt := Int.mul_nonneg h0 b2.1
  have m1 : x.toInt * (RA 13 (3 * k + 2)).toInt ≤ 100000 * 60 := Int.mul_le_mul h1 b2.2 b2.1 (by decide)
  have e1 := ti_mul (a := x) (b := RA 13 (3 * k + 2)) (by omega) (by omega)
  have e2 := ti_div10 (p := x * RA 13 (3 * k + 2)) (by rw [e1]; exact m0)
  rw [e1] at e2
  have e3 := ti_add (a := RA 13 (3 * k + j % 2)) (b := (x * RA 13 (3 * k + 2)) / 10) (by omega) (by omega)
  have e4 := ti_add (a := x) (b := RA 13 (3 * k + j % 2) + (x * RA 13 (3 * k + 2)) / 10) (by omega) (by omega)
  unfold gF
  omega
/-- snow behind the weather: alike, and within its bounds -/
theorem sw_eq (h : sH vl vs pl ps RA RS RN B) (hB : B ≤ 100000) {k : Nat} (hk : k < 3) : eqF (2 * RN 4) (v_slide (va_up vl 1 (v_letFall vl vs pl ps (nI k))) pl ps) (m_goHour_L38 RA RS RN k 16 0 (RA 36)) ∧ rW (va_up RA 36 (m_goHour_L38 RA RS RN k 16 0 (RA 36))) RS RN 999 := by
  have h8 := h.many
  have key : ∀ j, j < 2 * RN 4 → v_slide (va_up vl 1 (v_letFall vl vs pl ps (nI k))) pl ps j = m_goHour_L38 RA RS RN k 16 0 (RA 36) j ∧ 0 ≤ (m_goHour_L38 RA RS RN k 16 0 (RA 36) j).toInt ∧ (m_goHour_L38 RA RS RN k 16 0 (RA 36) j).toInt ≤ 999 ∧ (bt (RS 38) (j / 2) = false → m_goHour_L38 RA RS RN k 16 0 (RA 36) j = 0) := by
    intro j hj
    have b6 := (h.b.1 (j / 2) (by omega)).2.1
    rw [sl_eq h hj, lf_eq h hk hj, rw_eq h8 (by omega), if_neg (show ¬ RN 4 ≤ j / 2 by omega), h.e1 j hj]
    by_cases c : bt (RS 38) (j / 2) = true
    · rw [if_pos c, if_pos c]
      have g0 := gF_nn h.b hk (j := j) (x := RA 36 j) (h.W.1 j hj).1 (by have := (h.W.1 j hj).2; omega)
      unfold jmin
      by_cases c2 : gF k RA j (RA 36 j) ≤ RA 6 (j / 2)
      · rw [if_neg (Int32.not_lt.mpr c2), if_pos c2]
        rw [ti_le] at c2
        exact ⟨rfl, by omega, by omega, fun q => by rw [c] at q; cases q⟩
      · rw [if_pos (Int32.not_le.mp c2), if_neg c2]
        exact ⟨rfl, by omega, by omega, fun q => by rw [c] at q; cases q⟩
    · have c' : bt (RS 38) (j / 2) = false := by cases h9 : bt (RS 38) (j / 2) <;> first | rfl | exact absurd h9 c
      have hx : RA 36 j = 0 := by
        have w2 := h.W.2.1 (j / 2) (by omega) c'
        rcases (show j = 2 * (j / 2) ∨ j = 2 * (j / 2) + 1 by omega) with e | e
        · rw [e]; exact w2.1
        · rw [e]; exact w2.2
      rw [if_neg c, if_neg c, hx]
      unfold jmin
      rw [if_neg (by rw [ti_lt, ti_0]; omega)]
      exact ⟨rfl, by decide, by decide, fun _ => rfl⟩
  refine ⟨fun j hj => (key j hj).1, fun j hj => ⟨(key j hj).2.1, (key j hj).2.2.1⟩, fun i hi hf => ?_, h.W.2.2⟩
  exact ⟨(key (2 * i) (by omega)).2.2.2 (by rw [show 2 * i / 2 = i by omega]; exact hf), (key (2 * i + 1) (by omega)).2.2.2 (by rw [show (2 * i + 1) / 2 = i by omega]; exact hf)⟩
theorem pk_L (h : sH vl vs pl ps RA RS RN B) {f1 f5 g36 g37 : Nat → Int32} (e : eqF (2 * RN 4) f1 g36) (w : rW (va_up RA 36 g36) RS RN 999) (e5 : ∀ i k, i < RN 4 → k < (RA 25 i).toNatClampNeg → f5 (3 * i + k) = g37 (3 * i + k)) : ∀ (n i : Nat) (f g : Nat → Int32), i + n ≤ RN 4 → pk (RN 4) f g → pk (RN 4) (v_passWeather_L30 vl pl ps f1 f5 n i f) (m_goHour_L210 RA RS g36 g37 n i g) := by
  have h8 := h.many
  intro n
  induction n with
  | zero => intro i f g _ q; rw [v_passWeather_L30.eq_1, m_goHour_L210.eq_1]; exact q
  | succ n ih =>
    intro i f g hin q
    rw [v_passWeather_L30.eq_2, m_goHour_L210.eq_2]
    have hh : sH (nV vl f1 f5 f) vs pl ps (nR RA g36 g37 g) RS RN 999 := h.nest e w e5
    have hl := hh.load0 (by omega) (i := i) (show i < RN 4 by omega)
    show pk (RN 4) (v_passWeather_L30 vl pl ps f1 f5 n (i + 1) (rs 8 f (nI i) (jmax (rg 8 f (nI i)) (v_load (nV vl f1 f5 f) pl ps (nI i))))) (if m_felt (nR RA g36 g37 g) RS i 0 0 ≤ g i then _ else _)
    rw [hl, rg_in (by omega) (by omega), rs_in (by omega) (by omega)]
    obtain ⟨x, hx⟩ : ∃ x, x = m_felt (nR RA g36 g37 g) RS i 0 0 := ⟨_, rfl⟩
    show pk (RN 4) _ (if m_felt (nR RA g36 g37 g) RS i 0 0 ≤ g i then m_goHour_L210 RA RS g36 g37 n (i + 1) (upd g i (g i)) else m_goHour_L210 RA RS g36 g37 n (i + 1) (upd g i (m_felt (nR RA g36 g37 g) RS i 0 0)))
    rw [← hx]
    have st : ∀ y, (jmax (f i) x = y ∨ (jmax (f i) x = 0 ∧ y.toInt ≤ 0)) → pk (RN 4) (upd f i (jmax (f i) x)) (upd g i y) := by
      intro y hy j hj
      by_cases c : j = i
      · subst c; rw [pk_us, pk_us]; exact hy
      · rw [pk_un c, pk_un c]; exact q j hj
    by_cases c : x ≤ g i
    · rw [if_pos c]
      refine ih (i + 1) _ _ (by omega) (st _ ?_)
      unfold jmax
      rcases q i (by omega) with e9 | ⟨e9, e8⟩
      · rw [e9, if_neg (Int32.not_lt.mpr c)]; exact Or.inl rfl
      · rw [e9, if_neg (by rw [ti_le] at c; rw [ti_lt, ti_0]; omega)]; exact Or.inr ⟨rfl, e8⟩
    · rw [if_neg c]
      refine ih (i + 1) _ _ (by omega) (st _ ?_)
      unfold jmax
      rcases q i (by omega) with e9 | ⟨e9, e8⟩
      · rw [e9, if_pos (Int32.not_le.mp c)]; exact Or.inl rfl
      · rw [e9]
        by_cases c2 : (0 : Int32) < x
        · rw [if_pos c2]; exact Or.inl rfl
        · rw [if_neg c2]; rw [ti_lt, ti_0] at c2; exact Or.inr ⟨rfl, by omega⟩
end SWEATHER
