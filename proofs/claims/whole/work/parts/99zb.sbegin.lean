/-! laid: the plan's plain B, and the village's beginning -/
section SBEGIN
variable {RA : Nat → Nat → Int32} {RS : Nat → Int32} {RN : Nat → Nat} {pl : Nat → Nat → Int32} {ps : Nat → Int32} {f : Nat → Int32}
theorem lay_st (n3 n35 i : Nat) (T : lyT) : m_layItem (va_up (va_up (va_up (va_up (va_up (va_up (va_up (va_up (va_up (va_up (va_up (va_up RA 2 f) 5 (T.1)) 6 (T.2.1)) 7 (T.2.2.1)) 8 (T.2.2.2.1)) 9 (T.2.2.2.2.1)) 10 (T.2.2.2.2.2.1)) 11 (T.2.2.2.2.2.2.1)) 12 (T.2.2.2.2.2.2.2.1)) 13 (T.2.2.2.2.2.2.2.2.1)) 14 (T.2.2.2.2.2.2.2.2.2.1)) 21 (T.2.2.2.2.2.2.2.2.2.2.1)) (va_up (va_up (va_up (va_up (va_up (va_up RS 15 (T.2.2.2.2.2.2.2.2.2.2.2.2.2.1)) 16 (T.2.2.2.2.2.2.2.2.2.2.2.2.2.2.1)) 17 (T.2.2.2.2.2.2.2.2.2.2.2.2.2.2.2.1)) 18 (T.2.2.2.2.2.2.2.2.2.2.2.2.2.2.2.2.1)) 19 (T.2.2.2.2.2.2.2.2.2.2.2.2.2.2.2.2.2.1)) 20 (T.2.2.2.2.2.2.2.2.2.2.2.2.2.2.2.2.2.2)) (va_up (va_up (va_up (va_up RN 3 n3) 4 (T.2.2.2.2.2.2.2.2.2.2.2.1)) 28 (T.2.2.2.2.2.2.2.2.2.2.2.2.1)) 35 n35) (7 * i) = stT RA RS RN f i T := by
  have e : (va_up (va_up (va_up (va_up (va_up (va_up (va_up (va_up (va_up (va_up (va_up (va_up RA 2 f) 5 (T.1)) 6 (T.2.1)) 7 (T.2.2.1)) 8 (T.2.2.2.1)) 9 (T.2.2.2.2.1)) 10 (T.2.2.2.2.2.1)) 11 (T.2.2.2.2.2.2.1)) 12 (T.2.2.2.2.2.2.2.1)) 13 (T.2.2.2.2.2.2.2.2.1)) 14 (T.2.2.2.2.2.2.2.2.2.1)) 21 (T.2.2.2.2.2.2.2.2.2.2.1)) = nbA RA f T := by
    unfold nbA
    funext j
    by_cases h : j = 2
    · subst h; rw [va_up_self]; rfl
    · rw [va_up_ne _ _ h]
      unfold va_up
      rw [if_neg h]
  unfold stT
  rw [e]
  rfl
theorem L25_eq (n3 n35 : Nat) : ∀ (n i : Nat) (T : lyT), m_lay_L25 RA RS RN f n3 n35 n i (T.1) (T.2.1) (T.2.2.1) (T.2.2.2.1) (T.2.2.2.2.1) (T.2.2.2.2.2.1) (T.2.2.2.2.2.2.1) (T.2.2.2.2.2.2.2.1) (T.2.2.2.2.2.2.2.2.1) (T.2.2.2.2.2.2.2.2.2.1) (T.2.2.2.2.2.2.2.2.2.2.1) (T.2.2.2.2.2.2.2.2.2.2.2.1) (T.2.2.2.2.2.2.2.2.2.2.2.2.1) (T.2.2.2.2.2.2.2.2.2.2.2.2.2.1) (T.2.2.2.2.2.2.2.2.2.2.2.2.2.2.1) (T.2.2.2.2.2.2.2.2.2.2.2.2.2.2.2.1) (T.2.2.2.2.2.2.2.2.2.2.2.2.2.2.2.2.1) (T.2.2.2.2.2.2.2.2.2.2.2.2.2.2.2.2.2.1) (T.2.2.2.2.2.2.2.2.2.2.2.2.2.2.2.2.2.2) = oF (stT RA RS RN f) n i T := by
  intro n
  induction n with
  | zero => intro i T; rw [m_lay_L25.eq_1]; rfl
  | succ n ih =>
    intro i T
    rw [m_lay_L25.eq_2, lay_st]
    exact ih (i + 1) (stT RA RS RN f i T)
theorem pb_L {a2 a5 a6 a7 a8 a9 a13 a14 a21 : Nat → Int32} {S : Nat → Int32} {N : Nat → Nat} {n4 : Nat} (h0 : ps 0 = nI n4) (h8 : n4 ≤ 8) : ∀ (m i : Nat) (a10 a11 a12 a22 a23 a25 p7 p8 p9 : Nat → Int32), i + m = n4 → q3 p7 p8 p9 a12 a10 a11 → mI (va_up (va_up (va_up (va_up (va_up (va_up (va_up (va_up (va_up (va_up (va_up (va_up (va_up (va_up (va_up RA 2 a2) 5 a5) 6 a6) 7 a7) 8 a8) 9 a9) 10 a10) 11 a11) 12 a12) 13 a13) 14 a14) 21 a21) 22 a22) 23 a23) 25 a25) S N → (∀ j, j < i → a22 j = (1 <<< ((a12 j) &&& 31)) - 1 ∧ a23 j = 0 ∧ a25 j = 0) →
    ∀ (C : (Nat → Int32) × (Nat → Int32) × (Nat → Int32)) (M : (Nat → Int32) × (Nat → Int32) × (Nat → Int32) × (Nat → Int32) × (Nat → Int32) × (Nat → Int32)), C = p_addPlainBearings_L2 pl ps m i p7 p8 p9 → M = m_lay_L49 RA a2 a5 a6 a7 a8 a9 a13 a14 a21 m i a10 a11 a12 a22 a23 a25 →
    q3 C.1 C.2.1 C.2.2 (M.2.2.1) (M.1) (M.2.1) ∧ mI (va_up (va_up (va_up (va_up (va_up (va_up (va_up (va_up (va_up (va_up (va_up (va_up (va_up (va_up (va_up RA 2 a2) 5 a5) 6 a6) 7 a7) 8 a8) 9 a9) 10 (M.1)) 11 (M.2.1)) 12 (M.2.2.1)) 13 a13) 14 a14) 21 a21) 22 (M.2.2.2.1)) 23 (M.2.2.2.2.1)) 25 (M.2.2.2.2.2)) S N ∧ ∀ j, j < n4 → (M.2.2.2.1) j = (1 <<< (((M.2.2.1) j) &&& 31)) - 1 ∧ (M.2.2.2.2.1) j = 0 ∧ (M.2.2.2.2.2) j = 0 := by
  intro m
  induction m with
  | zero =>
    intro i a10 a11 a12 a22 a23 a25 p7 p8 p9 hi hq hm hd C M hC hM
    rw [hC, hM, p_addPlainBearings_L2.eq_1, m_lay_L49.eq_1]
    exact ⟨hq, hm, fun j hj => hd j (by omega)⟩
  | succ m ih =>
    intro i a10 a11 a12 a22 a23 a25 p7 p8 p9 hi hq hm hd C M hC hM
    obtain ⟨r, hr⟩ : ∃ r, r = m_bearsOf (va_up (va_up (va_up (va_up (va_up (va_up (va_up (va_up (va_up (va_up (va_up (va_up (va_up (va_up (va_up RA 2 a2) 5 a5) 6 a6) 7 a7) 8 a8) 9 a9) 10 a10) 11 a11) 12 a12) 13 a13) 14 a14) 21 a21) 22 a22) 23 a23) 25 a25) i := ⟨_, rfl⟩
    have er : r = if a12 i = 0 then ((upd a10 (4 * i) 500), (upd a11 (4 * i) 10), (upd a12 i 1), (upd a22 i ((1 <<< (((upd a12 i 1) i) &&& 31)) - 1)), (upd a23 i 0), (upd a25 i 0)) else (a10, a11, a12, (upd a22 i ((1 <<< ((a12 i) &&& 31)) - 1)), (upd a23 i 0), (upd a25 i 0)) := hr
    rw [m_lay_L49.eq_2, ← hr] at hM
    have hm2 : mI (va_up (va_up (va_up (va_up (va_up (va_up (va_up (va_up (va_up (va_up (va_up (va_up (va_up (va_up (va_up RA 2 a2) 5 a5) 6 a6) 7 a7) 8 a8) 9 a9) 10 r.1) 11 r.2.1) 12 r.2.2.1) 13 a13) 14 a14) 21 a21) 22 r.2.2.2.1) 23 r.2.2.2.2.1) 25 r.2.2.2.2.2) S N := mI_bearsOf hm (i := i) (by omega) hr rfl rfl rfl rfl rfl rfl rfl rfl rfl rfl rfl rfl
    rw [p_addPlainBearings_L2.eq_2, rg_in (by omega) (by omega), (hq i (by omega)).1.1] at hC
    by_cases z : a12 i = 0
    · rw [if_pos z] at hC er
      have ea : p_addBearing (va_up (va_up (va_up pl 7 p7) 8 p8) 9 p9) ps (nI i) 500 10 = (1, (rs 8 p7 (nI i) ((rg 8 p7 (nI i)) + 1)), (rs 32 p8 (((nI i) * 4) + (rg 8 p7 (nI i))) 500), (rs 32 p9 (((nI i) * 4) + (rg 8 p7 (nI i))) 10)) := by
        unfold p_addBearing
        rw [if_neg (show ¬ ps 0 ≤ nI i by rw [h0]; exact nI_ge (by omega) (by omega))]
        have e7 : rg 8 p7 (nI i) = 0 := by rw [rg_in (by omega) (by omega), (hq i (by omega)).1.1, z]
        exact if_pos (show rg 8 p7 (nI i) < 4 by rw [e7]; decide)
      have q := hq.add (i := i) (m := 0) (b := 500) (t := 10) (by omega) (by omega) z (show (1 : Int) ≤ (500 : Int32).toInt ∧ (500 : Int32).toInt ≤ 999 by decide)
      rw [z, show (0 : Int32) + 1 = 1 from rfl, show (0 : Int32).toNatClampNeg = 0 from rfl, Nat.add_zero] at q
      rw [ea] at hC
      rw [er] at hM hm2
      refine ih (i + 1) _ _ _ _ _ _ _ _ _ (by omega) q hm2 (fun j hj => ?_) C M hC hM
      dsimp only
      by_cases e : j = i
      · subst e; rw [pk_us, pk_us, pk_us, pk_us]; exact ⟨rfl, rfl, rfl⟩
      · rw [pk_un e, pk_un e, pk_un e, pk_un e]; exact hd j (by omega)
    · rw [if_neg z] at hC er
      rw [er] at hM hm2
      refine ih (i + 1) _ _ _ _ _ _ _ _ _ (by omega) hq hm2 (fun j hj => ?_) C M hC hM
      dsimp only
      by_cases e : j = i
      · subst e; rw [pk_us, pk_us, pk_us]; exact ⟨rfl, rfl, rfl⟩
      · rw [pk_un e, pk_un e, pk_un e]; exact hd j (by omega)
theorem sQ.P {A : Nat → Nat → Int32} {S : Nat → Int32} {N : Nat → Nat} (h : sQ pl ps A S N) : sP pl ps A S N := by
  obtain ⟨⟨Q1, Q2, Q3⟩, ⟨Q4, Q5⟩, Q6, Q7⟩ := h
  have h8 := Q1.1.2
  refine ⟨Q1.1.1, fun i hi => ⟨(Q1.2.1 i hi).1.1, (Q1.2.1 i hi).1.2, (Q2 i (by omega)).1, (Q3 i (by omega)).1.1⟩, fun i k hi hk => ⟨((Q3 i (by omega)).2 k hk).1.1, ((Q3 i (by omega)).2 k hk).2⟩, Q4.1, fun j hj => (Q5 j hj).1, ⟨Q6.1.1.1, Q6.1.2.1.1, Q6.1.2.2.1⟩, Q6.2.1.1, Q6.2.2.1.1, Q6.2.2.2.1⟩
theorem sQ.B {A : Nat → Nat → Int32} {S : Nat → Int32} {N : Nat → Nat} (h : sQ pl ps A S N) : rB A S N := by
  obtain ⟨⟨Q1, Q2, Q3⟩, ⟨Q4, Q5⟩, Q6, Q7⟩ := h
  have h8 := Q1.1.2
  refine ⟨fun i hi => ⟨(Q1.2.1 i hi).2.1.1, (Q1.2.1 i hi).2.1.2, (Q1.2.1 i hi).2.2.1, (Q1.2.1 i hi).2.2.2.2, (Q2 i (by omega)).2⟩, fun i k hi hk => ((Q3 i (by omega)).2 k hk).1.2.1, Q4.2, fun j hj => (Q5 j hj).2, Q6.1.1.2, Q6.1.2.1.2, Q6.1.2.2.2, Q6.2.1.2, Q6.2.2.1.2, Q6.2.2.2.2⟩
theorem b31_L : ∀ (n i : Nat) (g : Nat → Int32) (j : Nat), i + n ≤ 8 → v_begin_L31 pl n i g j = if i ≤ j ∧ j < i + n then p_allBearings pl (nI j) else g j := by
  intro n
  induction n with
  | zero => intro i g j _; rw [v_begin_L31.eq_1, if_neg (by omega)]
  | succ n ih =>
    intro i g j h
    rw [v_begin_L31.eq_2, ih (i + 1) _ j (by omega), rs_in (by omega) (by omega)]
    by_cases c : i + 1 ≤ j ∧ j < i + 1 + n
    · rw [if_pos c, if_pos (by omega)]
    · rw [if_neg c]
      by_cases d : j = i
      · subst d; rw [pk_us, if_pos (by omega)]
      · rw [pk_un d, if_neg (by omega)]
theorem begin_E {vl : Nat → Nat → Int32} {vs : Nat → Int32} {B : Nat → Nat → Int32} {S : Nat → Int32} {N : Nat → Nat} (hQ : sQ pl ps B S N) (hM : mI B S N) (h4 : 0 < N 4) (h22 : ∀ j, j < N 4 → B 22 j = (1 <<< ((B 12 j) &&& 31)) - 1 ∧ B 23 j = 0 ∧ B 25 j = 0) (h24 : ∀ j, j < 24 → 0 ≤ (B 24 j).toInt) :
    sE (va_up (va_up (va_up (va_up (va_up vl 1 (rc (min 16 16) (pl 1) (vl 1))) 2 (v_begin_L31 pl 8 0 (vl 2))) 3 (rc 8 (fun _ => 0) (vl 3))) 4 (rc 8 (fun _ => 0) (vl 4))) 5 (rc 24 (fun _ => 0) (vl 5))) (va_up (va_up (va_up (va_up (va_up vs 8 ((1 <<< ((ps 0) &&& 31)) - 1)) 9 0) 10 0) 11 (ps 13)) 12 0) pl ps B (va_up (va_up (va_up S 26 ((1 <<< ((nI (N 4)) &&& 31)) - 1)) 27 0) 30 0) (va_up (va_up (va_up N 29 0) 32 0) 34 0) := by
  have hP := hQ.P
  have hB := hQ.B
  obtain ⟨⟨Q1, Q2, Q3⟩, ⟨Q4, Q5⟩, Q6, Q7⟩ := hQ
  have h8 := Q1.1.2
  have m12 : ∀ i, i < 8 → ∃ m, m < 5 ∧ B 12 i = nI m := fun i hi => ⟨(B 12 i).toNatClampNeg, kNat_lt (by have := (Q3 i hi).1.2.2; omega) (by omega), kNat (Q3 i hi).1.2.1⟩
  refine ⟨⟨⟨hP, mI_zero hM⟩, ?_, hB⟩, ⟨⟨fun j hj => ?_, fun j hj => ?_⟩, ⟨fun j hj => ?_, fun j hj => ?_⟩, fun i k hi hk => ?_⟩, ⟨⟨?_, rfl⟩, ⟨rfl, Q7.1⟩, rfl, show 0 < 2 * N 4 by omega⟩, ⟨fun j hj => ?_, fun i hi hb => ?_, fun k hk h => ?_⟩, h24, (show (0 : Int) ≤ (0 : Int32).toInt by decide), (show (0 : Int32).toInt ≤ 20 by decide)⟩
  · intro i hi k hk hle
    have hi : i < N 4 := hi
    have hle : (B 12 i).toNatClampNeg ≤ k := hle
    show bt (B 22 i) k = false
    obtain ⟨m, hm, em⟩ := m12 i (by omega)
    rw [em, nI_clamp (by omega)] at hle
    rw [(h22 i hi).1, em, ones_bt m (by omega) k hk]
    exact decide_eq_false (by omega)
  · have hj : j < 2 * N 4 := hj
    exact (rc_in (n := min 16 16) (by omega)).trans (Q1.2.2 j hj).1
  · have hj : j < N 4 := hj
    show v_begin_L31 pl 8 0 (vl 2) j = B 22 j
    rw [b31_L 8 0 _ j (by omega), if_pos (by omega), (h22 j hj).1]
    unfold p_allBearings
    rw [rg_in (by omega) (by omega), (Q3 j (by omega)).1.1]
  · have hj : j < N 4 := hj
    exact (rc_in (n := 8) (g := fun _ => 0) (by omega)).trans (h22 j hj).2.1.symm
  · have hj : j < N 4 := hj
    exact (rc_in (n := 8) (g := fun _ => 0) (by omega)).trans (h22 j hj).2.2.symm
  · have hi : i < N 4 := hi
    have hk : k < (B 25 i).toNatClampNeg := hk
    rw [(h22 i hi).2.2] at hk
    exact absurd hk (by rw [show (0 : Int32).toNatClampNeg = 0 from rfl]; omega)
  · show ((1 : Int32) <<< ((ps 0) &&& 31)) - 1 = ((1 : Int32) <<< ((nI (N 4)) &&& 31)) - 1
    rw [Q1.1.1]
  · have hj : j < 2 * N 4 := hj
    have q := (Q1.2.2 j hj).2
    have q2 : (B 21 j).toInt ≤ 200 := q.2
    exact ⟨q.1, by show (B 21 j).toInt ≤ 999; omega⟩
  · have hi : i < N 4 := hi
    have hb : bt ((1 <<< ((nI (N 4)) &&& 31)) - 1) i = false := hb
    rw [ones_bt (N 4) (by omega) i (by omega), decide_eq_true hi] at hb
    cases hb
  · have h : N 4 ≤ k := h
    show bt (((1 : Int32) <<< ((nI (N 4)) &&& 31)) - 1) k = false
    rw [ones_bt (N 4) (by omega) k hk]
    exact decide_eq_false (by omega)
end SBEGIN
