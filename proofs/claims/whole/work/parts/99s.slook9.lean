/-! look -/
section SLOOK9
variable {pl : Nat → Nat → Int32} {ps : Nat → Int32} {vl : Nat → Nat → Int32} {vs : Nat → Int32} {RA : Nat → Nat → Int32} {RS : Nat → Int32} {RN : Nat → Nat}
theorem one_B (hM : mI RA RS RN) {i k : Nat} (hi : i < RN 4) (hk : k < (RA 12 i).toNatClampNeg) {g : Nat → Int32} (hg : g i = 1 <<< (nI k &&& 31)) (ht : ¬ RA 11 (4 * i + k) ≤ 0) : ¬ m_chances (va_up RA 22 g) i = 0 := by
  have h8 := mI_many hM
  have hb := mI_bm hM i (by omega)
  have e := be_eq (RA := va_up RA 22 g) (RS := RS) (RN := RN) hM (i := i) (by omega) 1000000
  have h9 := mI_bears hM (4 * i + k) (by omega)
  have h10 : ¬ (1000000 : Int32) ≤ RA 10 (4 * i + k) := by
    rw [Int32.le_iff_toInt_le]
    have : (1000000 : Int32).toInt = 1000000 := by decide
    omega
  unfold m_chances
  rw [e, sm_one (j := k) _ _ (by omega) (by show k < 0 + (RA 12 i).toNatClampNeg; omega) (fun j h1 h2 hj => ?_)]
  · intro q
    rw [if_pos ⟨by show bt (g i) k = true; rw [hg, bt_one (by omega) (by omega)]; exact decide_eq_true rfl, h10⟩] at q
    have q : RA 11 (4 * i + k) = 0 := q
    exact ht (by rw [q]; decide)
  · have h2 : j < 0 + (RA 12 i).toNatClampNeg := h2
    rw [if_neg]
    intro q
    have q1 : bt (g i) j = true := q.1
    rw [hg, bt_one (by omega) (by omega)] at q1
    exact hj (of_decide_eq_true q1).symm
theorem mC_known (hM : mI RA RS RN) (hC : mC RA RS RN) {i k : Nat} (hi : i < RN 4) (hk : k < (RA 12 i).toNatClampNeg) {g : Nat → Int32} (hg : g i = 1 <<< (nI k &&& 31)) (ho : ∀ j, j ≠ i → g j = RA 22 j) (ht : ¬ RA 11 (4 * i + k) ≤ 0) (a b d : Nat → Int32) (s : Int32) : mC (nR (va_up RA 22 g) a b d) (va_up RS 38 s) RN := by
  intro j hj hs
  have e1 : m_chances (nR (va_up RA 22 g) a b d) j = m_chances (va_up RA 22 g) j := by unfold m_chances; exact m_below_congr (RA := va_up RA 22 g) (RA' := nR (va_up RA 22 g) a b d) rfl rfl rfl rfl j _
  rw [e1]
  by_cases c : j = i
  · subst c; exact one_B hM hi hk hg ht
  · have e2 : m_chances (va_up RA 22 g) j = m_chances RA j := by
      unfold m_chances
      exact be_cg (RA := va_up RA 22 g) (RA' := RA) (i := j) (show g j = RA 22 j from ho j c) rfl rfl rfl _
    rw [e2]
    exact hC j hj hs
theorem sD.known (h : sD vl vs pl ps RA RS RN) {i k : Nat} (hi : i < RN 4) (hk : k < (RA 12 i).toNatClampNeg) {g S : Nat → Int32} (hg : g i = 1 <<< (nI k &&& 31)) (ho : ∀ j, j ≠ i → g j = RA 22 j) (ht : ¬ RA 11 (4 * i + k) ≤ 0) (hS : ∀ j, j < RN 4 → S j = g j) (a b d : Nat → Int32) (s : Int32) : sD (va_up vl 2 S) vs pl ps (nR (va_up RA 22 g) a b d) (va_up RS 38 s) RN := by
  have h8 := h.many
  have hb := mI_bm h.M i (by omega)
  have hz : rS (nR (va_up RA 22 g) a b d) RN := by
    intro j hj q hq hb2
    show bt (g j) q = false
    by_cases c : j = i
    · subst c
      have hb2 : (RA 12 j).toNatClampNeg ≤ q := hb2
      rw [hg, bt_one (by omega) hq]
      exact decide_eq_false (by omega)
    · rw [ho j c]; exact h.z j hj q hq hb2
  exact ⟨⟨⟨h.P, h.M⟩, ⟨hz, h.b⟩, mC_known h.M h.C hi hk hg ho ht a b d s⟩, ⟨⟨h.e1, hS⟩, ⟨h.e3, h.e4⟩, h.e5⟩, h.2.2.1, h.2.2.2⟩
theorem ld_known (h : sD vl vs pl ps RA RS RN) {i k : Nat} (hi : i < RN 4) (hk : k < (RA 12 i).toNatClampNeg) {g S : Nat → Int32} (hg : g i = 1 <<< (nI k &&& 31)) (ho : ∀ j, j ≠ i → g j = RA 22 j) (ht : ¬ RA 11 (4 * i + k) ≤ 0) (hS : ∀ j, j < RN 4 → S j = g j) (a b d : Nat → Int32) (s : Int32) (vl' : Nat → Nat → Int32) (vs' : Nat → Int32) : ldOk (va_up (nS vl' vl vs) 2 S) (nT vl' vl vs vs') pl ps (nR (va_up RA 22 g) a b d) (va_up RS 38 s) RN := by
  intro a' b' d' s'
  have q := (h.known hi hk hg ho ht hS a' b' d' s').start (vl' := va_up (nS vl' vl vs) 2 S) (vs' := nT vl' vl vs vs') (fun j hj => rc_in (n := min 16 16) hj) (fun j hj => rfl) (fun j hj => rc_in (n := min 8 8) hj) (fun j hj => rc_in (n := min 24 24) hj) (fun j hj => rc_in (n := 8) (g := fun _ => 0) hj) rfl
  rw [nR_nR, va_uu] at q
  rw [nR_nR, nR_nR, va_uu, va_uu]
  exact q
end SLOOK9
