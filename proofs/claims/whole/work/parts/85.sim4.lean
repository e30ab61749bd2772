/-! creak, instead -/
section SIM4
variable {ML : Nat → Nat → Int32} {MS : Nat → Int32} {PL : Nat → Nat → Nat → Int32} {PS : Nat → Nat → Int32} {VL VL' : Nat → Nat → Nat → Int32} {VS VS' : Nat → Nat → Int32} {RA RA' : Nat → Nat → Int32} {RS RS' : Nat → Int32} {RN RN' : Nat → Nat} {vl pl : Nat → Nat → Int32} {vs ps : Nat → Int32}
/-- what a creak leaves, bit by bit and in tenths -/
def ckB (RA : Nat → Nat → Int32) (i : Nat) (v2 p : Int32) (k : Nat) : Bool := bt (RA 22 i) k && (if p ≤ RA 10 (4 * i + k) then decide ((0 : Int32) = v2) else decide ((1 : Int32) = v2))
theorem ck_L {i : Nat} (v2 p : Int32) : ∀ (n k : Nat) (a s : Int32), k + n ≤ 32 → (∀ j, j < 32 → bt (m_creak_L50 RA i v2 p n k a s).1 j = (bt a j || (decide (k ≤ j ∧ j < k + n) && ckB RA i v2 p j))) ∧ (m_creak_L50 RA i v2 p n k a s).2 = s + sm (fun k => if ckB RA i v2 p k = true then RA 11 (4 * i + k) else 0) n k := by
  intro n
  induction n with
  | zero =>
    intro k a s _
    rw [m_creak_L50.eq_1]
    exact ⟨fun j hj => by rw [decide_eq_false (by omega)]; simp, (Int32.add_zero s).symm⟩
  | succ n ih =>
    intro k a s h
    rw [m_creak_L50.eq_2]
    have no : ckB RA i v2 p k = false → (∀ j, j < 32 → bt (m_creak_L50 RA i v2 p n (k + 1) (a ||| 0) (s + 0)).1 j = (bt a j || (decide (k ≤ j ∧ j < k + (n + 1)) && ckB RA i v2 p j))) ∧ (m_creak_L50 RA i v2 p n (k + 1) (a ||| 0) (s + 0)).2 = s + sm (fun k => if ckB RA i v2 p k = true then RA 11 (4 * i + k) else 0) (n + 1) k := by
      intro hf
      obtain ⟨h1, h2⟩ := ih (k + 1) (a ||| 0) (s + 0) (by omega)
      refine ⟨fun j hj => ?_, ?_⟩
      · rw [h1 j hj, b_or, b_0, Bool.or_false]
        by_cases e : j = k
        · subst e; rw [hf, decide_eq_false (by omega)]; simp
        · rw [show decide (k + 1 ≤ j ∧ j < k + 1 + n) = decide (k ≤ j ∧ j < k + (n + 1)) from decide_eq_decide.mpr (by omega)]
      · rw [h2, Int32.add_zero]
        show _ = s + ((if ckB RA i v2 p k = true then RA 11 (4 * i + k) else 0) + sm _ n (k + 1))
        rw [hf, if_neg (by decide), Int32.zero_add]
    have yes : ckB RA i v2 p k = true → (∀ j, j < 32 → bt (m_creak_L50 RA i v2 p n (k + 1) (a ||| (1 <<< ((nI k) &&& 31))) (s + RA 11 (4 * i + k))).1 j = (bt a j || (decide (k ≤ j ∧ j < k + (n + 1)) && ckB RA i v2 p j))) ∧ (m_creak_L50 RA i v2 p n (k + 1) (a ||| (1 <<< ((nI k) &&& 31))) (s + RA 11 (4 * i + k))).2 = s + sm (fun k => if ckB RA i v2 p k = true then RA 11 (4 * i + k) else 0) (n + 1) k := by
      intro hf
      obtain ⟨h1, h2⟩ := ih (k + 1) (a ||| (1 <<< ((nI k) &&& 31))) (s + RA 11 (4 * i + k)) (by omega)
      refine ⟨fun j hj => ?_, ?_⟩
      · rw [h1 j hj, b_or, bt_one (by omega) hj]
        by_cases e : j = k
        · subst e; rw [hf, decide_eq_true (show j ≤ j ∧ j < j + (n + 1) by omega)]; simp
        · rw [show decide (k + 1 ≤ j ∧ j < k + 1 + n) = decide (k ≤ j ∧ j < k + (n + 1)) from decide_eq_decide.mpr (by omega), decide_eq_false (show ¬ k = j by omega), Bool.or_false]
      · rw [h2]
        show _ = s + ((if ckB RA i v2 p k = true then RA 11 (4 * i + k) else 0) + sm _ n (k + 1))
        rw [hf, if_pos rfl, Int32.add_assoc]
    by_cases c : bt (RA 22 i) k = true
    · rw [if_neg (show ¬ m_has (RA 22 i) (nI k) = 0 from fun q => by rw [bt_has0 _ (by omega), c] at q; cases q)]
      by_cases c2 : p ≤ RA 10 (4 * i + k)
      · rw [if_pos c2]
        by_cases c3 : (0 : Int32) = v2
        · rw [if_pos c3]; exact yes (by unfold ckB; rw [c, if_pos c2, decide_eq_true c3]; rfl)
        · rw [if_neg c3]; exact no (by unfold ckB; rw [if_pos c2, decide_eq_false c3, Bool.and_false])
      · rw [if_neg c2]
        by_cases c3 : (1 : Int32) = v2
        · rw [if_pos c3]; exact yes (by unfold ckB; rw [c, if_neg c2, decide_eq_true c3]; rfl)
        · rw [if_neg c3]; exact no (by unfold ckB; rw [if_neg c2, decide_eq_false c3, Bool.and_false])
    · have c' : bt (RA 22 i) k = false := by cases h9 : bt (RA 22 i) k <;> first | rfl | exact absurd h9 c
      rw [if_pos ((bt_has0 _ (by omega)).mpr c')]
      exact no (by unfold ckB; rw [c', Bool.false_and])
/-- the village with other B that stay -/
theorem sD.stay (h : sD vl vs pl ps RA RS RN) {i : Nat} {x y : Int32} (hi : i < RN 4) (hx : ∀ k, k < 32 → (RA 12 i).toNatClampNeg ≤ k → bt x k = false) (hc : p_tenthsOf pl (nI i) x ≠ 0) (hy : 0 ≤ y.toInt ∧ y.toInt ≤ 20) : sD (va_up vl 2 (upd (vl 2) i x)) (va_up vs 9 y) pl ps (va_up RA 22 (upd (RA 22) i x)) (va_up RS 30 y) RN := by
  have h8 := h.many
  refine ⟨⟨⟨h.P, h.M⟩, ⟨fun j hj k hk hb => ?_, h.b⟩, fun j hj hs => ?_⟩, ⟨⟨h.e1, fun j hj => ?_⟩, h.2.1.2⟩, ⟨⟨h.v8, rfl⟩, ⟨h.v10, h.v11⟩, h.v12, h.told⟩, h.2.2.2.1, h.w5, hy⟩
  · show bt (upd (RA 22) i x j) k = false
    by_cases e : j = i
    · subst e; rw [pk_us]; exact hx k hk hb
    · rw [pk_un e]; exact h.z j hj k hk hb
  · by_cases e : j = i
    · subst e
      have z := ch_eq (vl := va_up vl 2 (upd (vl 2) j x)) (pl := pl) (ps := ps) (RA := va_up RA 22 (upd (RA 22) j x)) (RS := RS) (RN := RN) h.P h.M (fun a ha k hk hb => by
        show bt (upd (RA 22) j x a) k = false
        by_cases e : a = j
        · subst e; rw [pk_us]; exact hx k hk hb
        · rw [pk_un e]; exact h.z a ha k hk hb) hj (by show upd (vl 2) j x j = upd (RA 22) j x j; rw [pk_us, pk_us])
      intro q
      rw [q] at z
      apply hc
      rw [← z]
      unfold v_chances
      show _ = p_tenthsOf pl (nI j) (rg 8 (upd (vl 2) j x) (nI j))
      rw [rg_in (by omega) (by omega), pk_us]
    · have q := h.C j hj hs
      unfold m_chances at q ⊢
      rw [be_cg (RA := va_up RA 22 (upd (RA 22) i x)) (RA' := RA) (pk_un e) rfl rfl rfl]
      exact q
  · show upd (vl 2) i x j = upd (RA 22) i x j
    by_cases e : j = i
    · subst e; rw [pk_us, pk_us]
    · rw [pk_un e, pk_un e]; exact h.e2 j hj
theorem ld_D (h : sD vl vs pl ps RA RS RN) {i : Nat} (hi : i < RN 4) : v_load vl pl ps (nI i) = m_felt (nR RA (m_load RA RS).1 (m_load RA RS).2.1 (m_load RA RS).2.2.1) (va_up RS 38 (m_load RA RS).2.2.2) i 0 0 := by
  have h8 := h.many
  have hl := load_eq RA RS
  have hpm := mI_pm h.M i (by omega)
  have q1 : nR RA (m_load RA RS).1 (m_load RA RS).2.1 (m_load RA RS).2.2.1 36 (2 * i) = RA 21 (2 * i) := hl.1 _ (by omega)
  have q2 : nR RA (m_load RA RS).1 (m_load RA RS).2.1 (m_load RA RS).2.2.1 36 (2 * i + 1) = RA 21 (2 * i + 1) := hl.1 _ (by omega)
  exact ld0_eq (RA := nR RA (m_load RA RS).1 (m_load RA RS).2.1 (m_load RA RS).2.2.1) (RS := va_up RS 38 (m_load RA RS).2.2.2) (RN := RN) h.M h.P.2.2.2.2.2.2.1 (by omega) (h.P.2.1 i hi).1.1 ((h.e1 _ (by omega)).trans q1.symm) ((h.e1 _ (by omega)).trans q2.symm) (h.e4 i hi) (fun k hk => by
    have hk : k < (RA 25 i).toNatClampNeg := hk
    rw [h.e5 i k hi hk]
    exact (hl.2.1 _ (by omega)).symm) (by rw [q1]; exact h.sm21 (by omega)) (by rw [q2]; exact h.sm21 (by omega))
theorem sim_creak (h : sX ML MS PL PS VL VS RA RS RN) (v1 v2 : Int32) (h01 : v2 = 0 ∨ v2 = 1) : (o_creak VL VS PL PS v1 v2).1 = (m_creak RA RS RN v1 v2).1 ∧ sX ML MS PL PS (va_up VL 0 (va_up (VL 0) 2 (o_creak VL VS PL PS v1 v2).2.1)) (va_up VS 0 (va_up (VS 0) 9 (o_creak VL VS PL PS v1 v2).2.2)) (va_up (va_up (va_up (va_up RA 22 (m_creak RA RS RN v1 v2).2.1) 36 (m_creak RA RS RN v1 v2).2.2.1) 37 (m_creak RA RS RN v1 v2).2.2.2.1) 39 (m_creak RA RS RN v1 v2).2.2.2.2.1) (va_up (va_up RS 30 (m_creak RA RS RN v1 v2).2.2.2.2.2.1) 38 (m_creak RA RS RN v1 v2).2.2.2.2.2.2) RN := by
  have h8 := h.D.many
  have hr := roof_eq (PS := PS) h.D.P.1 h.D.many v1
  have stay : ∀ (a b c : Nat → Int32) (d : Int32), sX ML MS PL PS (va_up VL 0 (va_up (VL 0) 2 (VL 0 2))) (va_up VS 0 (va_up (VS 0) 9 (VS 0 9))) (va_up (va_up (va_up (va_up RA 22 (RA 22)) 36 a) 37 b) 39 c) (va_up (va_up RS 30 (RS 30)) 38 d) RN := fun a b c d => by
    rw [va_eta, va_eta, va_eta, va_eta, va_eta, va_eta]
    have q := h.look3 (VL 3) (VS 3) a b c d
    rw [va_eta, va_eta] at q
    exact q
  unfold o_creak m_creak
  by_cases c : m_isRoof RN v1 = 0
  · rw [if_pos (hr.1.mpr c), if_pos c]; exact ⟨rfl, stay _ _ _ _⟩
  · obtain ⟨i, hi, rfl⟩ := hr.2 c
    rw [if_neg (show ¬ o_isRoof PS (nI i) = 0 from fun q => c (hr.1.mp q)), if_neg c, nI_clamp (by omega), st9 h hi]
    by_cases c2 : m_has (RS 26) (nI i) = 0
    · rw [if_pos c2, if_pos c2]; exact ⟨rfl, stay _ _ _ _⟩
    · rw [if_neg c2, if_neg c2, ld_D h.D hi, show PS 0 16 = RS 17 from h.D.P.2.2.2.2.2.1.2.2]
      obtain ⟨p, hp⟩ : ∃ p, p = m_felt (nR RA (m_load RA RS).1 (m_load RA RS).2.1 (m_load RA RS).2.2.1) (va_up RS 38 (m_load RA RS).2.2.2) i 0 0 + RS 17 := ⟨_, rfl⟩
      have hbm := mI_bm h.D.M i (by omega)
      obtain ⟨k1, k2⟩ := ck_L (RA := RA) (i := i) v2 p ((RA 12 i).toNatClampNeg) 0 0 0 (by omega)
      obtain ⟨L, hL⟩ : ∃ L, L = m_creak_L50 RA i v2 p ((RA 12 i).toNatClampNeg) 0 0 0 := ⟨_, rfl⟩
      rw [← hL] at k1 k2
      -- the class's set is the reference's
      have hset : (if v2 = 0 then v_staysFrom (VL 0) (PL 0) (nI i) p else v_staysBelow (VL 0) (PL 0) (nI i) p) = L.1 := by
        apply b_ext
        intro k hk
        rw [k1 k hk, b_0, Bool.false_or]
        unfold ckB
        by_cases z : k < (RA 12 i).toNatClampNeg
        · rw [decide_eq_true (show 0 ≤ k ∧ k < 0 + (RA 12 i).toNatClampNeg by omega), Bool.true_and]
          rcases h01 with e | e
          · rw [e, if_pos rfl, sf_bt (by omega) p hk, h.D.e2 i hi, (h.D.P.2.2.1 i k hi z).1, decide_eq_true (show k < 4 by omega)]
            by_cases c9 : p ≤ RA 10 (4 * i + k) <;> simp [c9]
          · rw [e, if_neg (by decide), sb_bt (by omega) p hk, h.D.e2 i hi, (h.D.P.2.2.1 i k hi z).1, decide_eq_true (show k < 4 by omega)]
            by_cases c9 : p ≤ RA 10 (4 * i + k) <;> simp [c9]
        · rw [decide_eq_false (show ¬ (0 ≤ k ∧ k < 0 + (RA 12 i).toNatClampNeg) by omega), Bool.false_and]
          rcases h01 with e | e
          · rw [e, if_pos rfl, sf_bt (by omega) p hk, h.D.e2 i hi, h.D.z i hi k hk (by omega), Bool.false_and]
          · rw [e, if_neg (by decide), sb_bt (by omega) p hk, h.D.e2 i hi, h.D.z i hi k hk (by omega), Bool.false_and]
      have hz : ∀ k, k < 32 → (RA 12 i).toNatClampNeg ≤ k → bt L.1 k = false := fun k hk hb => by rw [k1 k hk, b_0, decide_eq_false (show ¬ (0 ≤ k ∧ k < 0 + (RA 12 i).toNatClampNeg) by omega)]; rfl
      have hten : p_tenthsOf (PL 0) (nI i) L.1 = L.2 := by
        rw [tn_cut h.D.P h.D.M hi _ hz, k2, Int32.zero_add]
        refine sm_congr _ _ (fun k h1 h2 => ?_)
        rw [k1 k (by omega), b_0, Bool.false_or, decide_eq_true (show 0 ≤ k ∧ k < 0 + (RA 12 i).toNatClampNeg by omega), Bool.true_and]
      rw [← hp]
      have key : (if v2 = 0 then (if p_tenthsOf (PL 0) (nI i) (v_staysFrom (VL 0) (PL 0) (nI i) p) = 0 then ((-2 : Int32), VL 0 2, VS 0 9) else (if VS 0 9 < 20 then (p_tenthsOf (PL 0) (nI i) (v_staysFrom (VL 0) (PL 0) (nI i) p), rs 8 (VL 0 2) (nI i) (v_staysFrom (VL 0) (PL 0) (nI i) p), VS 0 9 + 1) else (-3, VL 0 2, VS 0 9))) else (if p_tenthsOf (PL 0) (nI i) (v_staysBelow (VL 0) (PL 0) (nI i) p) = 0 then (-2, VL 0 2, VS 0 9) else (if VS 0 9 < 20 then (p_tenthsOf (PL 0) (nI i) (v_staysBelow (VL 0) (PL 0) (nI i) p), rs 8 (VL 0 2) (nI i) (v_staysBelow (VL 0) (PL 0) (nI i) p), VS 0 9 + 1) else (-3, VL 0 2, VS 0 9)))) = if L.2 = 0 then (-2, VL 0 2, VS 0 9) else if VS 0 9 < 20 then (L.2, upd (VL 0 2) i L.1, VS 0 9 + 1) else (-3, VL 0 2, VS 0 9) := by
        by_cases e : v2 = 0
        · rw [if_pos e]
          rw [if_pos e] at hset
          rw [hset, hten, rs_in (by omega) (by omega)]
        · rw [if_neg e]
          rw [if_neg e] at hset
          rw [hset, hten, rs_in (by omega) (by omega)]
      have kref : m_creak_k50 RA RS (m_load RA RS).1 (m_load RA RS).2.1 (m_load RA RS).2.2.1 (m_load RA RS).2.2.2 i L.1 L.2 = if L.2 = 0 then (-2, RA 22, (m_load RA RS).1, (m_load RA RS).2.1, (m_load RA RS).2.2.1, RS 30, (m_load RA RS).2.2.2) else if RS 30 = 20 then (-3, RA 22, (m_load RA RS).1, (m_load RA RS).2.1, (m_load RA RS).2.2.1, RS 30, (m_load RA RS).2.2.2) else (L.2, upd (RA 22) i L.1, (m_load RA RS).1, (m_load RA RS).2.1, (m_load RA RS).2.2.1, RS 30 + 1, (m_load RA RS).2.2.2) := rfl
      rw [key]
      show _ ∧ sX ML MS PL PS _ _ (va_up (va_up (va_up (va_up RA 22 (m_creak_k50 RA RS (m_load RA RS).1 (m_load RA RS).2.1 (m_load RA RS).2.2.1 (m_load RA RS).2.2.2 i (m_creak_L50 RA i v2 (m_felt (nR RA (m_load RA RS).1 (m_load RA RS).2.1 (m_load RA RS).2.2.1) (va_up RS 38 (m_load RA RS).2.2.2) i 0 0 + RS 17) _ 0 0 0).1 (m_creak_L50 RA i v2 (m_felt (nR RA (m_load RA RS).1 (m_load RA RS).2.1 (m_load RA RS).2.2.1) (va_up RS 38 (m_load RA RS).2.2.2) i 0 0 + RS 17) _ 0 0 0).2).2.1) 36 _) 37 _) 39 _) _ _
      have eL : m_creak_L50 RA i v2 (m_felt (nR RA (m_load RA RS).1 (m_load RA RS).2.1 (m_load RA RS).2.2.1) (va_up RS 38 (m_load RA RS).2.2.2) i 0 0 + RS 17) ((RA 12 i).toNatClampNeg) 0 0 0 = L := by rw [hL, hp]
      unfold nR at eL
      unfold nR
      rw [eL, kref]
      by_cases c5 : L.2 = 0
      · rw [if_pos c5, if_pos c5]; exact ⟨rfl, stay _ _ _ _⟩
      · rw [if_neg c5, if_neg c5, h.D.v9]
        have hcr := h.D.cr
        have i20 : (20 : Int32).toInt = 20 := by decide
        have i1 : (1 : Int32).toInt = 1 := by decide
        by_cases c7 : RS 30 = 20
        · rw [if_pos c7, if_neg (by rw [c7]; decide)]
          have st := stay (m_load RA RS).1 (m_load RA RS).2.1 (m_load RA RS).2.2.1 (m_load RA RS).2.2.2
          rw [h.D.v9] at st
          exact ⟨rfl, st⟩
        · have hlt : (RS 30).toInt < 20 := by
            have : (RS 30).toInt ≠ 20 := fun q => c7 (Int32.toInt_inj.mp (by rw [q, i20]))
            omega
          rw [if_neg c7, if_pos (by rw [ti_lt, i20]; exact hlt)]
          refine ⟨rfl, ?_⟩
          have d := h.D.stay (x := L.1) (y := RS 30 + 1) hi hz (by rw [hten]; exact c5) (by rw [ti_add (by omega) (by omega), i1]; omega)
          have d2 := d.look (m_load RA RS).1 (m_load RA RS).2.1 (m_load RA RS).2.2.1 (m_load RA RS).2.2.2
          exact h.vill d2 ⟨⟨⟨rfl, rfl⟩, ⟨rfl, rfl⟩, ⟨rfl, rfl⟩, ⟨rfl, rfl⟩, rfl, rfl⟩, ⟨⟨rfl, rfl⟩, ⟨rfl, rfl⟩, rfl, rfl⟩, rfl⟩ rfl rfl rfl rfl rfl rfl ⟨⟨rfl, rfl⟩, rfl, rfl⟩
end SIM4
