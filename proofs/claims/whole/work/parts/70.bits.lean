/-! ===== Int32 by its bits: bt x i ===== -/
def bt (x : Int32) (i : Nat) : Bool := x.toBitVec.getLsbD i
theorem b_ext {x y : Int32} (h : ∀ i, i < 32 → bt x i = bt y i) : x = y := Int32.toBitVec_inj.mp (BitVec.eq_of_getLsbD_eq (fun i hi => h i hi))
theorem b_or (x y : Int32) (i : Nat) : bt (x ||| y) i = (bt x i || bt y i) := by unfold bt; rw [Int32.toBitVec_or, BitVec.getLsbD_or]
theorem b_and (x y : Int32) (i : Nat) : bt (x &&& y) i = (bt x i && bt y i) := by unfold bt; rw [Int32.toBitVec_and, BitVec.getLsbD_and]
theorem b_xor (x y : Int32) (i : Nat) : bt (x ^^^ y) i = (bt x i ^^ bt y i) := by unfold bt; rw [Int32.toBitVec_xor, BitVec.getLsbD_xor]
theorem b_big {x : Int32} {i : Nat} (h : 32 ≤ i) : bt x i = false := BitVec.getLsbD_of_ge _ _ h
theorem b_m1 : ∀ i, i < 32 → bt (-1) i = true := by decide +kernel
theorem b_0 (i : Nat) : bt 0 i = false := BitVec.getLsbD_zero
theorem s_l : ∀ n, n < 32 → ((nI n &&& 31).toBitVec.smod 32).toNat = n := by decide +kernel
theorem b_shl (n : Nat) (hn : n < 32) (x : Int32) {i : Nat} (hi : i < 32) : bt (x <<< (nI n &&& 31)) i = (decide (n ≤ i) && bt x (i - n)) := by
  unfold bt
  rw [Int32.toBitVec_shiftLeft]
  show (x.toBitVec <<< ((nI n &&& 31).toBitVec.smod 32).toNat).getLsbD i = _
  rw [s_l n hn, BitVec.getLsbD_shiftLeft]
  rcases Nat.lt_or_ge i n with h | h
  · simp [h, Nat.not_le.mpr h]
  · simp [hi, h, Nat.not_lt.mpr h]
theorem b_sshr (n : Nat) (hn : n < 32) (x : Int32) {i : Nat} (hi : i < 32) : bt (x >>> (nI n &&& 31)) i = if n + i < 32 then bt x (n + i) else bt x 31 := by
  unfold bt
  rw [Int32.toBitVec_shiftRight]
  show (x.toBitVec.sshiftRight ((nI n &&& 31).toBitVec.smod 32).toNat).getLsbD i = _
  rw [s_l n hn, BitVec.getLsbD_sshiftRight, BitVec.msb_eq_getLsbD_last]
  simp [hi]
/-! bits of sets of eight -/
theorem bt_1 : ∀ i, i < 32 → bt 1 i = decide (i = 0) := by decide +kernel
theorem bt_c (S : Int32) {k : Nat} (hk : k < 32) : (((S >>> ((nI k) &&& 31)) &&& 1) = 1) ↔ bt S k = true := by
  have h1 : bt (S >>> ((nI k) &&& 31)) 0 = bt S k := by rw [b_sshr k hk S (by omega), if_pos (by omega), Nat.add_zero]
  constructor
  · intro h
    have h2 := congrArg (fun x => bt x 0) h
    simp only [b_and, bt_1 0 (by omega), h1, decide_true, Bool.and_true] at h2
    exact h2
  · intro h
    apply b_ext
    intro i hi
    rw [b_and, bt_1 i hi]
    by_cases e : i = 0
    · subst e; rw [h1, h]; rfl
    · rw [decide_eq_false e, Bool.and_false]
theorem bt_has (S : Int32) {k : Nat} (hk : k < 32) : m_has S (nI k) = if bt S k = true then 1 else 0 := by
  unfold m_has
  by_cases h : bt S k = true
  · rw [if_pos ((bt_c S hk).mpr h), if_pos h]
  · rw [if_neg (fun q => h ((bt_c S hk).mp q)), if_neg h]
theorem bt_has0 (S : Int32) {k : Nat} (hk : k < 32) : m_has S (nI k) = 0 ↔ bt S k = false := by
  rw [bt_has S hk]
  cases bt S k <;> simp
theorem bt_one {j k : Nat} (hj : j < 32) (hk : k < 32) : bt (1 <<< ((nI j) &&& 31)) k = decide (j = k) := by
  rw [b_shl j hj 1 hk]
  by_cases h : j ≤ k
  · rw [bt_1 (k - j) (by omega), decide_eq_true h, Bool.true_and]
    by_cases e : j = k
    · rw [decide_eq_true e, decide_eq_true (by omega)]
    · rw [decide_eq_false e, decide_eq_false (by omega)]
  · rw [decide_eq_false h, Bool.false_and, decide_eq_false (by omega)]
theorem bt_not (x : Int32) {k : Nat} (hk : k < 32) : bt (x ^^^ (-1)) k = !bt x k := by rw [b_xor, b_m1 k hk, Bool.xor_true]
theorem bt_mask : ∀ n, n < 9 → ∀ k, k < 32 → bt ((1 <<< ((nI n) &&& 31)) - 1) k = decide (k < n) := by decide +kernel
/-- the sum of n from i on -/
def sm (f : Nat → Int32) : Nat → Nat → Int32
  | 0, _ => 0
  | n + 1, i => f i + sm f n (i + 1)
theorem sm_congr {f g : Nat → Int32} : ∀ (n i : Nat), (∀ k, i ≤ k → k < i + n → f k = g k) → sm f n i = sm g n i := by
  intro n
  induction n with
  | zero => intro i _; rfl
  | succ n ih =>
    intro i h
    show f i + sm f n (i + 1) = g i + sm g n (i + 1)
    rw [h i (by omega) (by omega), ih (i + 1) (fun k h1 h2 => h k (by omega) (by omega))]
theorem sm_zero {f : Nat → Int32} : ∀ (n i : Nat), (∀ k, i ≤ k → k < i + n → f k = 0) → sm f n i = 0 := by
  intro n
  induction n with
  | zero => intro i _; rfl
  | succ n ih =>
    intro i h
    show f i + sm f n (i + 1) = 0
    rw [h i (by omega) (by omega), ih (i + 1) (fun k h1 h2 => h k (by omega) (by omega))]
    rfl
theorem sm_add {f : Nat → Int32} : ∀ (a b i : Nat), sm f (a + b) i = sm f a i + sm f b (i + a) := by
  intro a
  induction a with
  | zero => intro b i; rw [Nat.zero_add]; show _ = 0 + _; rw [Int32.zero_add, Nat.add_zero]
  | succ a ih =>
    intro b i
    rw [show a + 1 + b = (a + b) + 1 by omega]
    show f i + sm f (a + b) (i + 1) = f i + sm f a (i + 1) + sm f b (i + (a + 1))
    rw [ih b (i + 1), Int32.add_assoc, show i + 1 + a = i + (a + 1) by omega]
theorem sm_plus {f g h : Nat → Int32} : ∀ (n i : Nat), (∀ k, i ≤ k → k < i + n → f k = g k + h k) → sm f n i = sm g n i + sm h n i := by
  intro n
  induction n with
  | zero => intro i _; rfl
  | succ n ih =>
    intro i q
    show f i + sm f n (i + 1) = g i + sm g n (i + 1) + (h i + sm h n (i + 1))
    rw [q i (by omega) (by omega), ih (i + 1) (fun k h1 h2 => q k (by omega) (by omega))]
    ac_rfl
/-- rows, read and written by a number -/
theorem rg_in {n k : Nat} {f : Nat → Int32} (hk : k < n) (hn : n < 2 ^ 31) : rg n f (nI k) = f k := by
  unfold rg
  rw [if_neg (nI_pos (by omega)), if_neg (nI_ge hk hn), nI_clamp (by omega)]
theorem rg_out {n k : Nat} {f : Nat → Int32} (hk : n ≤ k) (hn : k < 2 ^ 31) : rg n f (nI k) = 0 := by
  unfold rg
  rw [if_neg (nI_pos (by omega)), if_pos (nI_le hk hn)]
theorem rs_in {n k : Nat} {f : Nat → Int32} {x : Int32} (hk : k < n) (hn : n < 2 ^ 31) : rs n f (nI k) x = upd f k x := by
  unfold rs
  rw [if_neg (nI_pos (by omega)), if_neg (nI_ge hk hn), nI_clamp (by omega)]
theorem nI_mul (a b : Nat) : nI a * nI b = nI (a * b) := by
  apply Int32.toBitVec_inj.mp
  rw [Int32.toBitVec_mul]
  show BitVec.ofNat 32 a * BitVec.ofNat 32 b = BitVec.ofNat 32 (a * b)
  rw [BitVec.ofNat_mul]
theorem nx2 (i : Nat) : 2 * nI i = nI (2 * i) := nI_mul 2 i
theorem nx21 (i : Nat) : 2 * nI i + 1 = nI (2 * i + 1) := by rw [nx2]; exact nI_1 _
theorem nx3 (i k : Nat) : 3 * nI i + nI k = nI (3 * i + k) := by rw [show (3 : Int32) = nI 3 from rfl, nI_mul, nI_add]
theorem nx4 (i k : Nat) : nI i * 4 + nI k = nI (4 * i + k) := by rw [show (4 : Int32) = nI 4 from rfl, nI_mul, nI_add, Nat.mul_comm]
theorem nx3b (i k : Nat) : nI i * 3 + nI k = nI (3 * i + k) := by rw [show (3 : Int32) = nI 3 from rfl, nI_mul, nI_add, Nat.mul_comm]
