/-! a hand clears -/
/-- the same on the first n places -/
def eqF (n : Nat) (f g : Nat → Int32) : Prop := ∀ j, j < n → f j = g j
theorem eqF.upd {n : Nat} {f g : Nat → Int32} (h : eqF n f g) {k : Nat} {x y : Int32} (e : x = y) : eqF n (upd f k x) (upd g k y) := by
  intro j hj
  by_cases c : j = k
  · subst c; rw [pk_us, pk_us, e]
  · rw [pk_un c, pk_un c]; exact h j hj
/-- the snow ahead: not below nothing, not above B; none on roofs that are gone; no roofs that aren't there -/
def rW (RA : Nat → Nat → Int32) (RS : Nat → Int32) (RN : Nat → Nat) (B : Int) : Prop :=
  (∀ j, j < 2 * RN 4 → 0 ≤ (RA 36 j).toInt ∧ (RA 36 j).toInt ≤ B) ∧ (∀ i, i < RN 4 → bt (RS 38) i = false → RA 36 (2 * i) = 0 ∧ RA 36 (2 * i + 1) = 0) ∧ zB (RS 38) (RN 4)
section SCLEAR
variable {vl pl : Nat → Nat → Int32} {vs ps : Nat → Int32} {RA : Nat → Nat → Int32} {RS : Nat → Int32} {RN : Nat → Nat} {B : Int}
theorem nI_half {s : Nat} (h : s < 2 ^ 31) : nI s / 2 = nI (s / 2) := pk_div (a := s) (d := 2) h (by omega) (by omega)
/-- what is thrown, and what comes of it -/
def gClear (S c : Int32) (s t : Nat) (f : Nat → Int32) : Nat → Int32 := if t < 8 ∧ bt S t = true then upd (upd f s (f s - c)) (2 * t) (upd f s (f s - c) (2 * t) + c) else upd f s (f s - c)
theorem gClear_0 {S : Int32} {s t : Nat} {f : Nat → Int32} : gClear S 0 s t f = f := by
  unfold gClear
  rw [Int32.sub_zero, upd_id, Int32.add_zero, upd_id]
  split <;> rfl
theorem m_clear_g {s t : Nat} (hs : s < 16) (hb : bt (RS 38) (s / 2) = true) (ht : RA 8 (s / 2) = nI t) (ht8 : t ≤ 8) : m_clear RA RS s = gClear (RS 38) (if RS 16 ≤ RA 36 s then RS 16 else RA 36 s) s t (RA 36) := by
  unfold m_clear gClear
  rw [if_neg (show ¬ (16 : Int32) ≤ nI s from nI_ge (b := 16) hs (by omega)), if_neg (fun q => by rw [bt_has0 _ (by omega), hb] at q; cases q), ht, nI_clamp (by omega)]
  by_cases c : RS 16 ≤ RA 36 s
  · rw [if_pos c, if_pos c]
    by_cases c8 : t < 8
    · rw [if_neg (show ¬ (8 : Int32) ≤ nI t from nI_ge (b := 8) c8 (by omega))]
      by_cases h2 : bt (RS 38) t = true
      · rw [if_neg (fun q => by rw [bt_has0 _ (by omega), h2] at q; cases q), if_pos ⟨c8, h2⟩]
      · rw [if_pos ((bt_has0 _ (by omega)).mpr (by cases h9 : bt (RS 38) t <;> first | rfl | exact absurd h9 h2)), if_neg (fun q => h2 q.2)]
    · rw [if_pos (show (8 : Int32) ≤ nI t from nI_le (a := 8) (by omega) (by omega)), if_neg (fun q => c8 q.1)]
  · rw [if_neg c, if_neg c]
    by_cases c8 : t < 8
    · rw [if_neg (show ¬ (8 : Int32) ≤ nI t from nI_ge (b := 8) c8 (by omega))]
      by_cases h2 : bt (RS 38) t = true
      · rw [if_neg (fun q => by rw [bt_has0 _ (by omega), h2] at q; cases q), if_pos ⟨c8, h2⟩]
      · rw [if_pos ((bt_has0 _ (by omega)).mpr (by cases h9 : bt (RS 38) t <;> first | rfl | exact absurd h9 h2)), if_neg (fun q => h2 q.2)]
    · rw [if_pos (show (8 : Int32) ≤ nI t from nI_le (a := 8) (by omega) (by omega)), if_neg (fun q => c8 q.1)]
theorem v_clear_g {n t s : Nat} (h0 : ps 0 = nI n) (hn : n ≤ 8) (hz : zB (vs 8) n) (hs : s < 2 * n) (ht : pl 5 (s / 2) = nI t) (ht8 : t ≤ 8) {c : Int32} (hc : jmin (ps 15) (vl 1 s) = c) (h : 0 < c) : v_clearAt vl vs pl ps (nI s) = gClear (vs 8) c s t (vl 1) := by
  unfold v_clearAt gClear
  rw [nI_half (by omega), rg_in (n := 16) (by omega) (by omega), rg_in (n := 8) (by omega) (by omega), hc, if_pos h, ht, rs_in (by omega) (by omega), nx2, ← Int32.sub_eq_add_neg]
  by_cases h2 : bt (vs 8) t = true
  · have h3 : t < n := by
      rcases Nat.lt_or_ge t n with h9 | h9
      · exact h9
      · rw [hz t (by omega) h9] at h2; cases h2
    rw [if_neg (fun q => by rw [st_bt h0 hn hz (by omega), h2] at q; cases q), rg_in (by omega) (by omega), rs_in (by omega) (by omega), if_pos ⟨by omega, h2⟩]
  · rw [if_pos ((st_bt h0 hn hz (by omega)).mpr (by cases h9 : bt (vs 8) t <;> first | rfl | exact absurd h9 h2)), if_neg (fun q => h2 q.2)]
theorem v_clear_0 {k : Int32} (h : ¬ 0 < jmin (ps 15) (rg 16 (vl 1) k)) : v_clearAt vl vs pl ps k = vl 1 := by
  unfold v_clearAt
  rw [if_neg h]
theorem gClear_eqF {n : Nat} {S c : Int32} {s t : Nat} {f g : Nat → Int32} (h : eqF n f g) (hs : s < n) (hz : t < 8 ∧ bt S t = true → 2 * t < n) : eqF n (gClear S c s t f) (gClear S c s t g) := by
  unfold gClear
  have h1 : eqF n (upd f s (f s - c)) (upd g s (g s - c)) := h.upd (by rw [h s hs])
  by_cases c2 : t < 8 ∧ bt S t = true
  · rw [if_pos c2, if_pos c2]
    exact h1.upd (by rw [h1 (2 * t) (hz c2)])
  · rw [if_neg c2, if_neg c2]; exact h1
/-- clearing at a side that is there: both sides alike; the bounds grow by what is thrown -/
theorem cl_eq (hP : sP pl ps RA RS RN) (hM : mI RA RS RN) (h16 : 1 ≤ (RS 16).toInt ∧ (RS 16).toInt ≤ 50) (h8b : ∀ i, i < RN 4 → (RA 8 i).toInt ≤ 8) (hW : rW RA RS RN B) (hB : B ≤ 100000) (h1 : eqF (2 * RN 4) (vl 1) (RA 36)) (hv : vs 8 = RS 38) {s : Nat} (hs : s < 2 * RN 4) :
    eqF (2 * RN 4) (v_clearAt vl vs pl ps (nI s)) (m_clear RA RS s) ∧ rW (va_up RA 36 (m_clear RA RS s)) RS RN (B + 50) := by
  have hm := mI_many hM
  obtain ⟨w1, w2, w3⟩ := hW
  have hi : s / 2 < RN 4 := by omega
  have hx := w1 s hs
  have h15 : ps 15 = RS 16 := hP.2.2.2.2.2.1.2.1
  obtain ⟨t, ht8, ht⟩ : ∃ t : Nat, t ≤ 8 ∧ RA 8 (s / 2) = nI t := ⟨(RA 8 (s / 2)).toNatClampNeg, kNat_le (h8b _ hi), kNat (mI_thr hM _ (by omega))⟩
  have htp : pl 5 (s / 2) = nI t := by rw [(hP.2.1 (s / 2) hi).2.1.2, ht]
  have hvs : vl 1 s = RA 36 s := h1 s hs
  have hz : zB (vs 8) (RN 4) := by rw [hv]; exact w3
  have htn : t < 8 ∧ bt (RS 38) t = true → t < RN 4 := fun q => by
    rcases Nat.lt_or_ge t (RN 4) with h9 | h9
    · exact h9
    · rw [w3 t (by omega) h9] at q; cases q.2
  by_cases hb : bt (RS 38) (s / 2) = true
  · obtain ⟨c, hc⟩ : ∃ c, c = (if RS 16 ≤ RA 36 s then RS 16 else RA 36 s) := ⟨_, rfl⟩
    have hj : jmin (ps 15) (vl 1 s) = c := by
      rw [hvs, h15, hc]
      unfold jmin
      by_cases q : RS 16 ≤ RA 36 s
      · rw [if_pos q, if_neg (Int32.not_lt.mpr q)]
      · rw [if_neg q, if_pos (Int32.not_le.mp q)]
    have hcb : 0 ≤ c.toInt ∧ c.toInt ≤ 50 ∧ c.toInt ≤ (RA 36 s).toInt := by
      rw [hc]
      by_cases q : RS 16 ≤ RA 36 s
      · rw [if_pos q]; rw [ti_le] at q; omega
      · rw [if_neg q]; rw [ti_le] at q; omega
    have e1 : m_clear RA RS s = gClear (RS 38) c s t (RA 36) := by rw [m_clear_g (by omega) hb ht ht8, hc]
    have e2 : v_clearAt vl vs pl ps (nI s) = gClear (RS 38) c s t (vl 1) := by
      by_cases q : 0 < c
      · rw [v_clear_g hP.1 hm hz hs htp ht8 hj q, hv]
      · have c0 : c = 0 := by
          apply Int32.toInt_inj.mp
          rw [ti_lt, ti_0] at q
          rw [ti_0]; omega
        rw [c0, gClear_0, v_clear_0]
        rw [rg_in (by omega) (by omega), hj]; exact q
    have hx1 : (RA 36 s - c).toInt = (RA 36 s).toInt - c.toInt := ti_sub (by omega) (by omega)
    have hu : ∀ j, j < 2 * RN 4 → 0 ≤ (upd (RA 36) s (RA 36 s - c) j).toInt ∧ (upd (RA 36) s (RA 36 s - c) j).toInt ≤ B := by
      intro j hj
      by_cases q : j = s
      · subst q; rw [pk_us, hx1]; omega
      · rw [pk_un q]; exact w1 j hj
    refine ⟨by rw [e1, e2]; exact gClear_eqF h1 hs (fun q => by have := htn q; omega), ?_⟩
    rw [e1]
    refine ⟨fun j hj => ?_, fun i hi2 hf => ?_, w3⟩
    · show 0 ≤ (gClear (RS 38) c s t (RA 36) j).toInt ∧ (gClear (RS 38) c s t (RA 36) j).toInt ≤ B + 50
      unfold gClear
      by_cases q : t < 8 ∧ bt (RS 38) t = true
      · rw [if_pos q]
        have h9 := hu (2 * t) (by have := htn q; omega)
        by_cases q2 : j = 2 * t
        · subst q2; rw [pk_us, ti_add (by omega) (by omega)]; omega
        · rw [pk_un q2]; have := hu j hj; omega
      · rw [if_neg q]; have := hu j hj; omega
    · show gClear (RS 38) c s t (RA 36) (2 * i) = 0 ∧ gClear (RS 38) c s t (RA 36) (2 * i + 1) = 0
      have hf : bt (RS 38) i = false := hf
      have n1 : i ≠ s / 2 := fun q => by rw [q, hb] at hf; cases hf
      have hu2 : ∀ x : Int32, upd (RA 36) s x (2 * i) = 0 ∧ upd (RA 36) s x (2 * i + 1) = 0 := fun x => by rw [pk_un (by omega), pk_un (by omega)]; exact w2 i hi2 hf
      unfold gClear
      by_cases q : t < 8 ∧ bt (RS 38) t = true
      · rw [if_pos q]
        have n2 : i ≠ t := fun q2 => by rw [q2, q.2] at hf; cases hf
        rw [pk_un (k := 2 * t) (j := 2 * i) (by omega), pk_un (k := 2 * t) (j := 2 * i + 1) (by omega)]
        exact hu2 _
      · rw [if_neg q]; exact hu2 _
  · have hb2 : bt (RS 38) (s / 2) = false := by cases h9 : bt (RS 38) (s / 2) <;> first | rfl | exact absurd h9 hb
    have hx0 : RA 36 s = 0 := by
      have h9 := w2 (s / 2) hi hb2
      rcases (show s = 2 * (s / 2) ∨ s = 2 * (s / 2) + 1 by omega) with e | e
      · rw [e]; exact h9.1
      · rw [e]; exact h9.2
    have e1 : m_clear RA RS s = RA 36 := by
      unfold m_clear
      rw [if_neg (show ¬ (16 : Int32) ≤ nI s from nI_ge (b := 16) (by omega) (by omega)), if_pos ((bt_has0 _ (by omega)).mpr hb2)]
    have e2 : v_clearAt vl vs pl ps (nI s) = vl 1 := by
      apply v_clear_0
      rw [rg_in (by omega) (by omega), hvs, hx0, h15]
      unfold jmin
      rw [if_pos (by rw [ti_lt, ti_0]; omega)]
      decide
    rw [e1, e2, va_eta]
    exact ⟨h1, fun j hj => by have := w1 j hj; omega, w2, w3⟩
/-- at no side: nothing -/
theorem cl_no (hP : sP pl ps RA RS RN) (h16 : 1 ≤ (RS 16).toInt) : v_clearAt vl vs pl ps 16 = vl 1 ∧ m_clear RA RS 16 = RA 36 := by
  refine ⟨v_clear_0 ?_, ?_⟩
  · rw [show (16 : Int32) = nI 16 from rfl, rg_out (by omega) (by omega), hP.2.2.2.2.2.1.2.1]
    unfold jmin
    rw [if_pos (by rw [ti_lt, ti_0]; omega)]
    decide
  · unfold m_clear
    rw [if_pos (by decide)]
end SCLEAR
