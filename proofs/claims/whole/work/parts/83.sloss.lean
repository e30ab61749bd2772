/-! losses by a told row -/
def nW (vs : Nat → Int32) (a b : Int32) : Nat → Int32 := va_up (va_up vs 10 a) 11 b
/-- an hour that keeps both sides alike -/
def hourOk (vl : Nat → Nat → Int32) (vs : Nat → Int32) (pl : Nat → Nat → Int32) (ps : Nat → Int32) (RA : Nat → Nat → Int32) (RS : Nat → Int32) (RN : Nat → Nat) (r1 h1 r : Int32) (side : Int32) : Prop :=
  ∀ (f1 f5 f6 : Nat → Int32) (s10 s11 : Int32) (g36 g37 g39 : Nat → Int32) (k : Nat), k < 3 → sF (nV vl f1 f5 f6) (nW vs s10 s11) pl ps (nR RA g36 g37 g39) RS RN →
  sF (nV vl (v_passHour (nV vl f1 f5 f6) (nW vs s10 s11) pl ps r1 (nI k) h1).1 (v_passHour (nV vl f1 f5 f6) (nW vs s10 s11) pl ps r1 (nI k) h1).2.1 (v_passHour (nV vl f1 f5 f6) (nW vs s10 s11) pl ps r1 (nI k) h1).2.2.1) (nW vs (v_passHour (nV vl f1 f5 f6) (nW vs s10 s11) pl ps r1 (nI k) h1).2.2.2.1 (v_passHour (nV vl f1 f5 f6) (nW vs s10 s11) pl ps r1 (nI k) h1).2.2.2.2) pl ps
    (nR RA (m_goHour (nR RA g36 g37 g39) RS RN r k h1 side).1 (m_goHour (nR RA g36 g37 g39) RS RN r k h1 side).2.1 (m_goHour (nR RA g36 g37 g39) RS RN r k h1 side).2.2) RS RN
section SLOSS
variable {vl pl : Nat → Nat → Int32} {vs ps : Nat → Int32} {RA : Nat → Nat → Int32} {RS : Nat → Int32} {RN : Nat → Nat} {ML : Nat → Nat → Int32} {MS : Nat → Int32} {PL : Nat → Nat → Nat → Int32} {PS : Nat → Nat → Int32} {VL : Nat → Nat → Nat → Int32} {VS : Nat → Nat → Int32}
theorem ho_rule {r h : Int32} (ht : r = 3 → vs 12 = nI (RN 29) ∧ RN 29 < 2 * RN 4) (hn : h.toNatClampNeg ≤ 100) : hourOk vl vs pl ps RA RS RN r h r (-4) := by
  intro f1 f5 f6 s10 s11 g36 g37 g39 k hk hF
  have q := hr_eq (vs' := nW vs (v_passHour (nV vl f1 f5 f6) (nW vs s10 s11) pl ps r (nI k) h).2.2.2.1 (v_passHour (nV vl f1 f5 f6) (nW vs s10 s11) pl ps r (nI k) h).2.2.2.2) hF hk r (show r = 3 → nW vs s10 s11 12 = nI (RN 29) ∧ RN 29 < 2 * RN 4 from ht) hn rfl
  rw [nV_nV, nR_nR] at q
  exact q.1
theorem told_L {k : Int32} : ∀ (n i : Nat) (f : Nat → Int32), v_passHour_L3 vl vs pl ps 3 k n i f = v_passHourAt_L3 vl vs pl ps (vs 12) n i f := by
  intro n
  induction n with
  | zero => intro i f; rw [v_passHour_L3.eq_1, v_passHourAt_L3.eq_1]
  | succ n ih =>
    intro i f
    rw [v_passHour_L3.eq_2, v_passHourAt_L3.eq_2]
    have e : u_choose (va_up vl 1 f) vs pl ps 3 k = vs 12 := by
      unfold u_choose
      rw [if_neg (by decide), if_neg (by decide), if_neg (by decide), if_pos rfl]
    rw [e]; exact ih _ _
theorem told_eq {k h : Int32} : v_passHour vl vs pl ps 3 k h = v_passHourAt vl vs pl ps (vs 12) k h := by
  unfold v_passHour v_passHourAt
  rw [told_L]
  rfl
theorem ho_side {h : Int32} {s : Nat} (hs : s < 2 * RN 4) (hv : vs 12 = nI s) (hn : h.toNatClampNeg ≤ 100) : hourOk vl vs pl ps RA RS RN 3 h 0 (nI s) := by
  intro f1 f5 f6 s10 s11 g36 g37 g39 k hk hF
  have e : v_passHour (nV vl f1 f5 f6) (nW vs s10 s11) pl ps 3 (nI k) h = v_passHourAt (nV vl f1 f5 f6) (nW vs s10 s11) pl ps (nI s) (nI k) h := by
    rw [told_eq, show nW vs s10 s11 12 = nI s from hv]
  rw [e]
  have q := ha_eq (vs' := nW vs (v_passHourAt (nV vl f1 f5 f6) (nW vs s10 s11) pl ps (nI s) (nI k) h).2.2.2.1 (v_passHourAt (nV vl f1 f5 f6) (nW vs s10 s11) pl ps (nI s) (nI k) h).2.2.2.2) hF hk 0 (Or.inr hs) hn rfl
  rw [nV_nV, nR_nR] at q
  exact q.1
theorem lb_L {r1 r2 h1 h2 r side : Int32} (hM : mI RA RS RN) (sk : ∀ j, j < RN 32 → ML 2 j = RA 31 j) (H0 : hourOk (VL 3) (VS 3) (PL 0) (PS 0) RA RS RN r1 h1 r side) (H1 : hourOk (VL 3) (VS 3) (PL 0) (PS 0) RA RS RN r2 h2 r (-4)) :
    ∀ (n i : Nat) (f1 f5 f6 : Nat → Int32) (s10 s11 : Int32) (g36 g37 g39 : Nat → Int32), i + n ≤ RN 32 → sF (nV (VL 3) f1 f5 f6) (nW (VS 3) s10 s11) (PL 0) (PS 0) (nR RA g36 g37 g39) RS RN →
    sF (nV (VL 3) (o_lossByRow_L3 ML VL VS PL PS r1 r2 h1 h2 n i f1 f5 f6 s10 s11).1 (o_lossByRow_L3 ML VL VS PL PS r1 r2 h1 h2 n i f1 f5 f6 s10 s11).2.1 (o_lossByRow_L3 ML VL VS PL PS r1 r2 h1 h2 n i f1 f5 f6 s10 s11).2.2.1) (nW (VS 3) (o_lossByRow_L3 ML VL VS PL PS r1 r2 h1 h2 n i f1 f5 f6 s10 s11).2.2.2.1 (o_lossByRow_L3 ML VL VS PL PS r1 r2 h1 h2 n i f1 f5 f6 s10 s11).2.2.2.2) (PL 0) (PS 0)
      (nR RA (m_lossBy_L3 RA RS RN r h1 h2 side n i g36 g37 g39).1 (m_lossBy_L3 RA RS RN r h1 h2 side n i g36 g37 g39).2.1 (m_lossBy_L3 RA RS RN r h1 h2 side n i g36 g37 g39).2.2) RS RN := by
  have h12 := mI_rowMany hM
  intro n
  induction n with
  | zero => intro i f1 f5 f6 s10 s11 g36 g37 g39 _ h; rw [o_lossByRow_L3.eq_1, m_lossBy_L3.eq_1]; exact h
  | succ n ih =>
    intro i f1 f5 f6 s10 s11 g36 g37 g39 hin h
    rw [o_lossByRow_L3.eq_2, m_lossBy_L3.eq_2]
    obtain ⟨k, hk, ek⟩ : ∃ k, k < 3 ∧ RA 31 i = nI k := ⟨(RA 31 i).toNatClampNeg, mI_row hM i (by omega), kNat (mI_row0 hM i (by omega))⟩
    rw [rg_in (n := 12) (by omega) (by omega), sk i (by omega), ek, nI_clamp (by omega)]
    by_cases c : nI i = 0
    · rw [if_pos c, if_pos c]
      exact ih (i + 1) _ _ _ _ _ _ _ _ (by omega) (H0 f1 f5 f6 s10 s11 g36 g37 g39 k hk h)
    · rw [if_neg c, if_neg c]
      exact ih (i + 1) _ _ _ _ _ _ _ _ (by omega) (H1 f1 f5 f6 s10 s11 g36 g37 g39 k hk h)
theorem lb_eq {r1 r2 h1 h2 r side : Int32} (hF : sF (VL 3) (VS 3) (PL 0) (PS 0) RA RS RN) (sk1 : MS 1 = nI (RN 32)) (sk : ∀ j, j < RN 32 → ML 2 j = RA 31 j) (hC : mC RA RS RN) (e26 : RS 26 = RS 38) (H0 : hourOk (VL 3) (VS 3) (PL 0) (PS 0) RA RS RN r1 h1 r side) (H1 : hourOk (VL 3) (VS 3) (PL 0) (PS 0) RA RS RN r2 h2 r (-4)) :
    (o_lossByRow ML MS VL VS PL PS r1 r2 h1 h2).1 = (m_lossBy RA RS RN r h1 h2 side).1 := by
  have h12 := mI_rowMany hF.1.M
  have e0 : nV (VL 3) (VL 3 1) (VL 3 5) (VL 3 6) = VL 3 := by unfold nV; rw [va_eta, va_eta, va_eta]
  have e1 : nR RA (RA 36) (RA 37) (RA 39) = RA := by unfold nR; rw [va_eta, va_eta, va_eta]
  have e2 : nW (VS 3) (VS 3 10) (VS 3 11) = VS 3 := by unfold nW; rw [va_eta, va_eta]
  have q := lb_L hF.1.M sk H0 H1 (RN 32) 0 (VL 3 1) (VL 3 5) (VL 3 6) (VS 3 10) (VS 3 11) (RA 36) (RA 37) (RA 39) (by omega) (by rw [e0, e1, e2]; exact hF)
  have z := lo_eq q (mC_of hC rfl rfl rfl rfl rfl rfl) e26
  unfold o_lossByRow o_lossByRow_k3 m_lossBy m_lossBy_k3
  rw [sk1, nI_clamp (by omega)]
  exact z
/-- behind a look: the courses and views have changed -/
theorem sX.look3 (h : sX ML MS PL PS VL VS RA RS RN) (X : Nat → Nat → Int32) (Y : Nat → Int32) (a b c : Nat → Int32) (d : Int32) : sX ML MS PL PS (va_up VL 3 X) (va_up VS 3 Y) (nR RA a b c) (va_up RS 38 d) RN :=
  h.look ⟨⟨⟨rfl, rfl⟩, ⟨rfl, rfl⟩, ⟨rfl, rfl⟩, ⟨rfl, rfl⟩, rfl, rfl⟩, ⟨⟨rfl, rfl⟩, ⟨rfl, rfl⟩, rfl, rfl⟩, rfl⟩ ⟨⟨fun _ _ => rfl, fun _ _ => rfl, fun _ _ => rfl, fun _ _ => rfl, fun _ _ => rfl⟩, ⟨rfl, rfl, rfl⟩, rfl, rfl⟩ rfl rfl rfl rfl rfl rfl rfl rfl rfl rfl rfl (fun k hk => ⟨va_up_ne _ _ (by omega), va_up_ne _ _ (by omega)⟩)
theorem nR_C (hC : mC RA RS RN) (a b c : Nat → Int32) (d : Int32) : mC (nR RA a b c) (va_up RS 38 d) RN := mC_of hC rfl rfl rfl rfl rfl rfl
theorem hands_le {x : Int32} (h1 : x.toInt ≤ 100) : x.toNatClampNeg ≤ 100 := by
  have : x.toNatClampNeg = x.toInt.toNat := rfl
  omega
theorem sim_loss_a (h : sX ML MS PL PS VL VS RA RS RN) (r h1 h2 : Int32) (b1 : h1.toInt ≤ 100) (b2 : h2.toInt ≤ 100) :
    (o_lossByRow ML MS (va_up VL 3 (nS (VL 3) (VL 0) (VS 0))) (va_up VS 3 (nT (VL 3) (VL 0) (VS 0) (VS 3))) PL PS r r h1 h2).1 = (m_lossBy (nR RA (m_load RA RS).1 (m_load RA RS).2.1 (m_load RA RS).2.2.1) (va_up RS 38 (m_load RA RS).2.2.2) RN r h1 h2 (-4)).1 := by
  obtain ⟨q1, q2, -, -⟩ := h.D.begun (vl' := VL 3) (vs' := VS 3)
  exact lb_eq (VL := va_up VL 3 (nS (VL 3) (VL 0) (VS 0))) (VS := va_up VS 3 (nT (VL 3) (VL 0) (VS 0) (VS 3))) q1 h.skies.1 h.skies.2 (nR_C h.D.C _ _ _ _) (load_eq RA RS).2.2.2.symm (ho_rule (fun _ => ⟨q2, h.D.told⟩) (hands_le b1)) (ho_rule (fun _ => ⟨q2, h.D.told⟩) (hands_le b2))
theorem sim_loss (h : sX ML MS PL PS VL VS RA RS RN) (v : Int32) : (o_loss ML MS VL VS PL PS v).1 = (m_loss RA RS RN v).1 := by
  have hb := rB_hands h.D.b
  unfold o_loss m_loss
  by_cases c : m_isRule v = 0
  · rw [if_pos ((rule_eq v).mpr c), if_pos c]
  · rw [if_neg (show ¬ o_isRule v = 0 from fun q => c ((rule_eq v).mp q)), if_neg c]
    have z := sim_loss_a h v (RS 15) (RS 15) (by omega) (by omega)
    rw [show PS 0 14 = RS 15 from h.D.P.2.2.2.2.2.1.1]
    exact z
theorem sim_more (h : sX ML MS PL PS VL VS RA RS RN) (v1 v2 : Int32) : (o_more ML MS VL VS PL PS v1 v2).1 = (m_more RA RS RN v1 v2).1 := by
  have hb := rB_hands h.D.b
  have hin := in_0 v2 0 9
  rw [show (0 : Int64).toInt = 0 by decide, show (9 : Int64).toInt = 9 by decide] at hin
  have i9 : (9 : Int32).toInt = 9 := by decide
  unfold o_more m_more
  by_cases c : m_isRule v1 = 0
  · rw [if_pos ((rule_eq v1).mpr c), if_pos c]
  · rw [if_neg (show ¬ o_isRule v1 = 0 from fun q => c ((rule_eq v1).mp q)), if_neg c]
    by_cases c2 : v2 < 0
    · rw [if_pos c2, if_pos (hin.mpr (Or.inl (by rw [ti_lt, ti_0] at c2; exact c2)))]
    · rw [if_neg c2]
      rw [ti_lt, ti_0] at c2
      by_cases c3 : v2 ≤ 9
      · rw [if_pos c3]
        rw [ti_le, i9] at c3
        rw [if_neg (show ¬ m_in v2.toInt64 0 9 = 0 from fun q => by rcases hin.mp q with q | q <;> omega)]
        have e : (RS 15 + v2).toInt = (RS 15).toInt + v2.toInt := ti_add (by omega) (by omega)
        have z := sim_loss_a h v1 (RS 15 + v2) (RS 15 + v2) (by omega) (by omega)
        rw [show PS 0 14 = RS 15 from h.D.P.2.2.2.2.2.1.1]
        exact z
      · rw [if_neg c3]
        rw [ti_le, i9] at c3
        rw [if_pos (hin.mpr (Or.inr (by omega)))]
end SLOSS
