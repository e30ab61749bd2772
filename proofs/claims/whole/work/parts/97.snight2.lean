/-! night, on -/
section SNIGHT2
variable {ML : Nat → Nat → Int32} {MS : Nat → Int32} {PL : Nat → Nat → Nat → Int32} {PS : Nat → Nat → Int32} {VL : Nat → Nat → Nat → Int32} {VS : Nat → Nat → Int32} {RA : Nat → Nat → Int32} {RS : Nat → Int32} {RN : Nat → Nat}
theorem nV_1 {b : Nat → Nat → Int32} {x y z w : Nat → Int32} : va_up (nV b x y z) 1 w = nV b w y z := by
  funext j
  unfold nV va_up
  by_cases c1 : j = 1
  · subst c1; rfl
  · simp only [c1, if_neg, if_false]
theorem nt_L {a41 ml5 : Nat → Int32} {v1 v2 : Int32} (HT : v2 = 3 → (nT (VL 3) (VL 0) (VS 0) (VS 3)) 12 = nI (RN 29) ∧ RN 29 < 2 * RN 4) (HH : (RS 15).toNatClampNeg ≤ 100) (h15 : PS 0 14 = RS 15) (hml : ∀ j, j < RN 4 → bt (RS 26) j = true → ml5 j = a41 j) :
    ∀ (n i k : Nat) (v5 : Int32) (f1 f5 f6 : Nat → Int32) (s : Int32) (g36 g37 g39 : Nat → Int32), k < 3 → sF (nV (nS (VL 3) (VL 0) (VS 0)) f1 f5 f6) (va_up (nW (nT (VL 3) (VL 0) (VS 0) (VS 3)) (RS 27 + nI i) (nI k)) 8 s) (PL 0) (PS 0) (va_up (nR RA g36 g37 g39) 41 a41) (va_up RS 38 s) RN → (∀ j, j < 32 → bt s j = true → bt (RS 26) j = true) → (∀ j, j < 32 → bt v5 j = (bt (RS 26) j && !bt s j)) →
    ∀ j, j < 32 → bt (o_night_L64 ML VL VS PL PS ml5 ((v_startFrom (VL 3) (VL 0) (VS 0)).2.1) ((v_startFrom (VL 3) (VL 0) (VS 0)).2.2.1) ((v_startFrom (VL 3) (VL 0) (VS 0)).2.2.2.1) ((v_startFrom (VL 3) (VL 0) (VS 0)).2.2.2.2.2.2.2.1) ((v_startFrom (VL 3) (VL 0) (VS 0)).2.2.2.2.2.2.2.2.2.2) v1 v2 n i v5 f1 f5 f6 s (RS 27 + nI i) (nI k)).1 j = (bt (RS 26) j && !bt (m_night_L62 RA RS RN a41 v1 v2 n i k g36 g37 g39 s).2.2.2.2 j) := by
  intro n
  induction n with
  | zero => intro i k v5 f1 f5 f6 s g36 g37 g39 _ _ _ hv j hj; rw [o_night_L64.eq_1, m_night_L62.eq_1]; exact hv j hj
  | succ n ih =>
    intro i k v5 f1 f5 f6 s g36 g37 g39 hk hF hsub hv j hj
    have h8 := hF.1.many
    rw [o_night_L64.eq_2, m_night_L62.eq_2, b62_eq, h15]
    simp only [nN_1 VL VS, nN_8 VL VS]
    have hP0 : sP (PL 0) (PS 0) RA RS RN := hF.1.P
    rw [sk_eq hP0 hk (vs := va_up (nW (nT (VL 3) (VL 0) (VS 0) (VS 3)) (RS 27 + nI i) (nI k)) 8 s) rfl v1]
    rw [show va_up (nW (nT (VL 3) (VL 0) (VS 0) (VS 3)) (RS 27 + nI i) (nI k)) 8 s 10 = RS 27 + nI i from rfl]
    have hK : (if (RA 14 (3 * k) ≤ (m_draw v1 (RS 27 + nI i) 98 - m_draw v1 (RS 27 + nI i) 98 / 10 * 10)) then (if (RA 14 (3 * k) + RA 14 (3 * k + 1) ≤ (m_draw v1 (RS 27 + nI i) 98 - m_draw v1 (RS 27 + nI i) 98 / 10 * 10)) then 2 else 1) else 0) < 3 := by
      split
      · split <;> omega
      · omega
    generalize (if (RA 14 (3 * k) ≤ (m_draw v1 (RS 27 + nI i) 98 - m_draw v1 (RS 27 + nI i) 98 / 10 * 10)) then (if (RA 14 (3 * k) + RA 14 (3 * k + 1) ≤ (m_draw v1 (RS 27 + nI i) 98 - m_draw v1 (RS 27 + nI i) 98 / 10 * 10)) then 2 else 1) else 0) = K at hK ⊢
    obtain ⟨q1, q2, q3⟩ := hr_eq (vs' := va_up (nW (nT (VL 3) (VL 0) (VS 0) (VS 3)) (RS 27 + nI (i + 1)) (nI K)) 8 s) hF hK v2 HT HH rfl
    rw [nV_nV, nR_41] at q1
    obtain ⟨P, hP⟩ : ∃ P, P = v_passHour (nV (nS (VL 3) (VL 0) (VS 0)) f1 f5 f6) (va_up (nW (nT (VL 3) (VL 0) (VS 0) (VS 3)) (RS 27 + nI i) (nI k)) 8 s) (PL 0) (PS 0) v2 (nI K) (RS 15) := ⟨_, rfl⟩
    obtain ⟨G, hG⟩ : ∃ G, G = m_goHour (va_up (nR RA g36 g37 g39) 41 a41) (va_up RS 38 s) RN v2 K (RS 15) (-4) := ⟨_, rfl⟩
    rw [← hP, ← hG] at q1
    rw [← hP] at q2 q3
    have q4 : P.2.2.2.1 = RS 27 + nI (i + 1) := by
      rw [q2]
      show RS 27 + nI i + 1 = _
      rw [Int32.add_assoc, nI_1]
    unfold nB
    rw [← hP, ← hG, q4, q3]
    dsimp only
    have q5 : sF (va_up (nV (nS (VL 3) (VL 0) (VS 0)) P.1 P.2.1 P.2.2.1) 1 P.1) (va_up (va_up (nW (nT (VL 3) (VL 0) (VS 0) (VS 3)) (RS 27 + nI (i + 1)) (nI K)) 8 s) 8 s) (PL 0) (PS 0) (va_up (nR RA G.1 G.2.1 G.2.2) 41 a41) (va_up RS 38 s) RN := by
      rw [nV_1, va_uu]; exact q1
    obtain ⟨d1, d2, d3, d4⟩ := da_L (vl := nV (nS (VL 3) (VL 0) (VS 0)) P.1 P.2.1 P.2.2.1) (vs := va_up (nW (nT (VL 3) (VL 0) (VS 0) (VS 3)) (RS 27 + nI (i + 1)) (nI K)) 8 s) (ML := va_up ML 5 ml5) (RN 4) 0 0 P.1 s G.1 (by omega) q5 (fun j hj hb => hml j hj (hsub j (by omega) hb))
    have eD : v_dropAbove (nV (nS (VL 3) (VL 0) (VS 0)) P.1 P.2.1 P.2.2.1) (va_up (nW (nT (VL 3) (VL 0) (VS 0) (VS 3)) (RS 27 + nI (i + 1)) (nI K)) 8 s) (PL 0) (PS 0) (va_up ML 5 ml5) = v_dropAbove_L4 (nV (nS (VL 3) (VL 0) (VS 0)) P.1 P.2.1 P.2.2.1) (va_up (nW (nT (VL 3) (VL 0) (VS 0) (VS 3)) (RS 27 + nI (i + 1)) (nI K)) 8 s) (PL 0) (PS 0) (va_up ML 5 ml5) (RN 4) 0 0 P.1 s := by
      unfold v_dropAbove v_dropAbove_k4
      rw [hF.1.P.1, nI_clamp (by omega)]
      rfl
    rw [eD]
    generalize v_dropAbove_L4 (nV (nS (VL 3) (VL 0) (VS 0)) P.1 P.2.1 P.2.2.1) (va_up (nW (nT (VL 3) (VL 0) (VS 0) (VS 3)) (RS 27 + nI (i + 1)) (nI K)) 8 s) (PL 0) (PS 0) (va_up ML 5 ml5) (RN 4) 0 0 P.1 s = D at d1 d2 d3 d4 ⊢
    rw [nV_1, va_uu] at d1
    rw [← d2] at d3 d4 ⊢
    refine ih (i + 1) K _ _ _ _ _ _ _ _ hK d1 (fun j hj hb => hsub j hj (d4 j hj hb)) (fun j hj => ?_) j hj
    rw [b_or, hv j hj, d3 j hj, b_0, Bool.false_or]
    have z1 := hsub j hj
    have z2 := d4 j hj
    cases e1 : bt (RS 26) j <;> cases e2 : bt s j <;> cases e3 : bt D.2.2 j <;> simp_all
end SNIGHT2
