/-! sums; a copied village after an hour -/
def oS (f : Nat → Int64) : Nat → Nat → Int64
  | 0, _ => 0
  | n + 1, i => f i + oS f n (i + 1)
theorem oS_add (f : Nat → Int64) : ∀ (a b i : Nat), oS f (a + b) i = oS f a i + oS f b (i + a) := by
  intro a
  induction a with
  | zero => intro b i; rw [Nat.zero_add, Nat.add_zero, show oS f 0 i = 0 from rfl, Int64.zero_add]
  | succ a ih =>
    intro b i
    rw [show a + 1 + b = (a + b) + 1 by omega]
    show f i + oS f (a + b) (i + 1) = f i + oS f a (i + 1) + oS f b (i + (a + 1))
    rw [ih b (i + 1), Int64.add_assoc, show i + 1 + a = i + (a + 1) by omega]
theorem oS_congr {f g : Nat → Int64} : ∀ (n i : Nat), (∀ k, i ≤ k → k < i + n → f k = g k) → oS f n i = oS g n i := by
  intro n
  induction n with
  | zero => intro i _; rfl
  | succ n ih =>
    intro i h
    show f i + oS f n (i + 1) = g i + oS g n (i + 1)
    rw [h i (by omega) (by omega), ih (i + 1) (fun k h1 h2 => h k (by omega) (by omega))]
theorem oS_mul (p : Int64) (f : Nat → Int64) : ∀ (n i : Nat), oS (fun k => p * f k) n i = p * oS f n i := by
  intro n
  induction n with
  | zero => intro i; show (0 : Int64) = p * 0; rw [Int64.mul_zero]
  | succ n ih => intro i; show p * f i + oS (fun k => p * f k) n (i + 1) = p * (f i + oS f n (i + 1)); rw [ih, Int64.mul_add]
/-- a village (w, ws) made a copy of another (f, fs) -/
def qL (w f : Nat → Nat → Int32) (fs : Nat → Int32) : Nat → Nat → Int32 := va_up (va_up (va_up (va_up (va_up (va_up w 1 ((v_copyFrom w f fs).1)) 2 ((v_copyFrom w f fs).2.1)) 3 ((v_copyFrom w f fs).2.2.1)) 4 ((v_copyFrom w f fs).2.2.2.1)) 5 ((v_copyFrom w f fs).2.2.2.2.1)) 6 ((v_copyFrom w f fs).2.2.2.2.2.1)
def qS (w f : Nat → Nat → Int32) (ws fs : Nat → Int32) : Nat → Int32 := va_up (va_up (va_up (va_up (va_up ws 8 ((v_copyFrom w f fs).2.2.2.2.2.2.1)) 9 ((v_copyFrom w f fs).2.2.2.2.2.2.2.1)) 10 ((v_copyFrom w f fs).2.2.2.2.2.2.2.2.1)) 11 ((v_copyFrom w f fs).2.2.2.2.2.2.2.2.2.1)) 12 ((v_copyFrom w f fs).2.2.2.2.2.2.2.2.2.2)
/-- .. and an hour behind -/
def qP (w f : Nat → Nat → Int32) (ws fs : Nat → Int32) (pl : Nat → Nat → Int32) (ps : Nat → Int32) (r k h : Int32) : (Nat → Int32) × (Nat → Int32) × (Nat → Int32) × Int32 × Int32 := v_passHour (qL w f fs) (qS w f ws fs) pl ps r k h
def gL (w f : Nat → Nat → Int32) (ws fs : Nat → Int32) (pl : Nat → Nat → Int32) (ps : Nat → Int32) (r k h : Int32) : Nat → Nat → Int32 := va_up (va_up (va_up (va_up (va_up (va_up w 1 ((qP w f ws fs pl ps r k h).1)) 2 ((v_copyFrom w f fs).2.1)) 3 ((v_copyFrom w f fs).2.2.1)) 4 ((v_copyFrom w f fs).2.2.2.1)) 5 ((qP w f ws fs pl ps r k h).2.1)) 6 ((qP w f ws fs pl ps r k h).2.2.1)
def gS (w f : Nat → Nat → Int32) (ws fs : Nat → Int32) (pl : Nat → Nat → Int32) (ps : Nat → Int32) (r k h : Int32) : Nat → Int32 := va_up (va_up (va_up (va_up (va_up ws 8 ((v_copyFrom w f fs).2.2.2.2.2.2.1)) 9 ((v_copyFrom w f fs).2.2.2.2.2.2.2.1)) 10 ((qP w f ws fs pl ps r k h).2.2.2.1)) 11 ((qP w f ws fs pl ps r k h).2.2.2.2)) 12 ((v_copyFrom w f fs).2.2.2.2.2.2.2.2.2.2)
section SHOUR9
variable {w f pl : Nat → Nat → Int32} {ws fs ps : Nat → Int32} {RA : Nat → Nat → Int32} {RS : Nat → Int32} {RN : Nat → Nat}
theorem sF.copy (h : sF f fs pl ps RA RS RN) : sF (qL w f fs) (qS w f ws fs) pl ps RA RS RN := by
  have h8 := h.1.many
  obtain ⟨⟨hP, hZ, ⟨v1, v2, v5, v8⟩, hW⟩, hp, h37⟩ := h
  refine ⟨⟨hP, hZ, ⟨fun j hj => ?_, fun i hi => ⟨?_, ?_⟩, fun i k hi hk => ?_, v8⟩, hW⟩, fun i hi => ?_, h37⟩
  · rw [← v1 j hj]; exact rc_in (n := min 16 16) (by omega)
  · rw [← (v2 i hi).1]; exact rc_in (n := min 8 8) (by omega)
  · rw [← (v2 i hi).2]; exact rc_in (n := min 8 8) (by omega)
  · have := mI_pm hP.2 i (by omega)
    rw [← v5 i k hi hk]; exact rc_in (n := min 24 24) (by omega)
  · have e : qL w f fs 6 i = f 6 i := rc_in (n := min 8 8) (by omega)
    rw [e]; exact hp i hi
theorem sF.gone (h : sF f fs pl ps RA RS RN) {k : Nat} (hk : k < 3) (r : Int32) (ht : r = 3 → fs 12 = nI (RN 29) ∧ RN 29 < 2 * RN 4) {hands : Int32} (hn : hands.toNatClampNeg ≤ 100) :
    sF (gL w f ws fs pl ps r (nI k) hands) (gS w f ws fs pl ps r (nI k) hands) pl ps (nR RA (m_goHour RA RS RN r k hands (-4)).1 (m_goHour RA RS RN r k hands (-4)).2.1 (m_goHour RA RS RN r k hands (-4)).2.2) RS RN ∧
    gS w f ws fs pl ps r (nI k) hands 10 = fs 10 + 1 ∧ gS w f ws fs pl ps r (nI k) hands 11 = nI k ∧ gS w f ws fs pl ps r (nI k) hands 12 = fs 12 := by
  have c := h.copy (w := w) (ws := ws)
  obtain ⟨q1, q2, q3⟩ := hr_eq (vs' := gS w f ws fs pl ps r (nI k) hands) c hk r ht hn rfl
  have e : gL w f ws fs pl ps r (nI k) hands = nV (qL w f fs) (v_passHour (qL w f fs) (qS w f ws fs) pl ps r (nI k) hands).1 (v_passHour (qL w f fs) (qS w f ws fs) pl ps r (nI k) hands).2.1 (v_passHour (qL w f fs) (qS w f ws fs) pl ps r (nI k) hands).2.2.1 := nN_V
  rw [e]
  exact ⟨q1, q2, q3, rfl⟩
end SHOUR9
