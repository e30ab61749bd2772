/-! write -/
theorem sh_bits (v : BitVec 64) (n : Nat) (hn : n ≤ 56) : (v >>> n) &&& 255#64 = (v.sshiftRight n) &&& 255#64 := by
  apply BitVec.eq_of_getLsbD_eq
  intro i hi
  rw [BitVec.getLsbD_and, BitVec.getLsbD_and, BitVec.getLsbD_ushiftRight, BitVec.getLsbD_sshiftRight]
  by_cases c : i < 8
  · rw [if_pos (by omega)]
    simp [show ¬ 64 ≤ i by omega]
  · have : (255#64).getLsbD i = false := by
      rw [BitVec.getLsbD_ofNat]
      have h2 : Nat.testBit 255 i = false := Nat.testBit_lt_two_pow (by
        calc 255 < 2 ^ 8 := by decide
          _ ≤ 2 ^ i := Nat.pow_le_pow_right (by decide) (by omega))
      rw [h2]; simp
    rw [this]; simp
theorem sh_eq (v : Int64) (s : Int64) (n : Nat) (hn : n ≤ 56) (h1 : (s.toBitVec % 64).toNat = n) (h2 : (s.toBitVec.smod 64).toNat = n) : ((v.toUInt64 >>> s.toUInt64).toInt64) &&& 255 = (v >>> s) &&& 255 := by
  apply Int64.toBitVec_inj.mp
  have e1 : (v.toUInt64 >>> s.toUInt64).toInt64.toBitVec = v.toBitVec >>> n := by
    show (v.toUInt64 >>> s.toUInt64).toBitVec = _
    rw [UInt64.toBitVec_shiftRight]
    show v.toBitVec >>> (s.toBitVec % 64) = _
    rw [BitVec.ushiftRight_eq', h1]
  have e2 : (v >>> s).toBitVec = v.toBitVec.sshiftRight n := by
    rw [Int64.toBitVec_shiftRight]
    show v.toBitVec.sshiftRight (s.toBitVec.smod 64).toNat = _
    rw [h2]
  rw [Int64.toBitVec_and, Int64.toBitVec_and, e1, e2]
  exact sh_bits _ n hn
theorem sh_k (v : Int64) (k : Nat) (hk : k < 8) : ((v.toUInt64 >>> ((8 * nI k).toInt64.toUInt64 &&& Int64.toUInt64 63)).toInt64) &&& 255 = (v >>> ((8 * nI k).toInt64 &&& 63)) &&& 255 := by
  have e : (8 * nI k).toInt64.toUInt64 &&& Int64.toUInt64 63 = ((8 * nI k).toInt64 &&& 63).toUInt64 := rfl
  rw [e]
  rcases (show k = 0 ∨ k = 1 ∨ k = 2 ∨ k = 3 ∨ k = 4 ∨ k = 5 ∨ k = 6 ∨ k = 7 by omega) with h | h | h | h | h | h | h | h <;> subst h
  · exact sh_eq v _ 0 (by omega) (by decide) (by decide)
  · exact sh_eq v _ 8 (by omega) (by decide) (by decide)
  · exact sh_eq v _ 16 (by omega) (by decide) (by decide)
  · exact sh_eq v _ 24 (by omega) (by decide) (by decide)
  · exact sh_eq v _ 32 (by omega) (by decide) (by decide)
  · exact sh_eq v _ 40 (by omega) (by decide) (by decide)
  · exact sh_eq v _ 48 (by omega) (by decide) (by decide)
  · exact sh_eq v _ 56 (by omega) (by decide) (by decide)
theorem sh_rng (x : Int64) : 0 ≤ ((x &&& 255).toInt32).toInt ∧ ((x &&& 255).toInt32).toInt < 256 := by
  have h : (x &&& 255).toInt.bmod (2^32) = ((x &&& 255).toInt32).toInt := (Int64.toInt_toInt32 _).symm
  have e : (x &&& 255).toBitVec.toNat = x.toBitVec.toNat &&& 255 := by rw [Int64.toBitVec_and]; rfl
  have l : x.toBitVec.toNat &&& 255 ≤ 255 := Nat.and_le_right
  have t : (x &&& 255).toInt = ((x.toBitVec.toNat &&& 255 : Nat) : Int) := by
    show (x &&& 255).toBitVec.toInt = _
    rw [BitVec.toInt_eq_toNat_of_lt (by rw [e]; omega), e]
  rw [← h, t]
  have : ((x.toBitVec.toNat &&& 255 : Nat) : Int).bmod (2^32) = ((x.toBitVec.toNat &&& 255 : Nat) : Int) := Int.bmod_eq_of_le (by omega) (by omega)
  rw [this]; omega
section SWRITE
variable {ML : Nat → Nat → Int32} {MS : Nat → Int32} {PL : Nat → Nat → Nat → Int32} {PS : Nat → Nat → Int32} {VL : Nat → Nat → Nat → Int32} {VS : Nat → Nat → Int32} {RA : Nat → Nat → Int32} {RS : Nat → Int32} {RN : Nat → Nat}
theorem w_L (v2 : Int64) : ∀ (n i : Nat) (v4 : Int32) (a0 : Nat → Int32) (n1 : Nat) (ml0 : Nat → Int32) (ms2 : Int32), v4 = nI n - 1 → n ≤ 8 → n1 + n ≤ 500 → ms2 = nI n1 → (∀ j, j < n1 → ml0 j = a0 j ∧ 0 ≤ (a0 j).toInt ∧ (a0 j).toInt < 256) →
    (o_write_L36 ML MS v2 n i v4 ml0 ms2).2.2 = nI (m_write_L34 v2 n i v4 a0 n1).2.2 ∧ (m_write_L34 v2 n i v4 a0 n1).2.2 = n1 + n ∧ ∀ j, j < n1 + n → (o_write_L36 ML MS v2 n i v4 ml0 ms2).2.1 j = (m_write_L34 v2 n i v4 a0 n1).2.1 j ∧ 0 ≤ ((m_write_L34 v2 n i v4 a0 n1).2.1 j).toInt ∧ ((m_write_L34 v2 n i v4 a0 n1).2.1 j).toInt < 256 := by
  intro n
  induction n with
  | zero => intro i v4 a0 n1 ml0 ms2 _ _ _ h2 h3; rw [o_write_L36.eq_1, m_write_L34.eq_1]; exact ⟨h2, rfl, h3⟩
  | succ n ih =>
    intro i v4 a0 n1 ml0 ms2 h1 h8 h5 h2 h3
    have e4 : v4 = nI n := by rw [h1, ← nI_1, Int32.add_sub_cancel]
    rw [o_write_L36.eq_2, m_write_L34.eq_2, e4, sh_k v2 n (by omega)]
    obtain ⟨x, hx⟩ : ∃ x, x = ((v2 >>> ((8 * nI n).toInt64 &&& 63)) &&& 255).toInt32 := ⟨_, rfl⟩
    have hr := sh_rng (v2 >>> ((8 * nI n).toInt64 &&& 63))
    rw [← hx] at hr ⊢
    have ea : t_append (va_up ML 0 ml0) (va_up MS 2 ms2) x = (upd ml0 n1 x, nI (n1 + 1)) := by
      unfold t_append
      rw [va_up_self, va_up_self, h2, if_neg (show ¬ 500 ≤ nI n1 by rw [ti_le, nI_toInt (by omega), show (500 : Int32).toInt = 500 by decide]; omega), rs_in (by omega) (by omega), nI_1]
    rw [ea]
    have q := ih (i + 1) (nI n + -1) (upd a0 n1 x) (n1 + 1) (upd ml0 n1 x) (nI (n1 + 1)) (Int32.sub_eq_add_neg _ _).symm (by omega) (by omega) rfl (fun j hj => ?_)
    · rw [show n1 + (n + 1) = n1 + 1 + n by omega]
      exact q
    · by_cases c : j = n1
      · subst c; rw [pk_us, pk_us]; exact ⟨rfl, hr⟩
      · rw [pk_un c, pk_un c]; exact h3 j (by omega)
/-- the text has changed, nothing else -/
theorem sX.text (h : sX ML MS PL PS VL VS RA RS RN) {f g : Nat → Int32} {x : Int32} {n : Nat} (hn : n ≤ 500) (e : x = nI n) (hf : ∀ j, j < n → f j = g j ∧ 0 ≤ (g j).toInt ∧ (g j).toInt < 256) : sX (va_up ML 0 f) (va_up MS 2 x) PL PS VL VS (va_up RA 0 g) RS (va_up RN 1 n) := by
  obtain ⟨g1, g2, g3, g4⟩ := mG_of h.D.M
  exact ⟨h.D.cg ⟨⟨⟨rfl, rfl⟩, ⟨rfl, rfl⟩, ⟨rfl, rfl⟩, ⟨rfl, rfl⟩, rfl, rfl⟩, ⟨⟨rfl, rfl⟩, ⟨rfl, rfl⟩, rfl, rfl⟩, rfl⟩ ⟨⟨fun _ _ => rfl, fun _ _ => rfl, fun _ _ => rfl, fun _ _ => rfl, fun _ _ => rfl⟩, ⟨rfl, rfl, rfl⟩, rfl, rfl⟩ eC.rf ⟨g1, g2, g3, hn⟩, ⟨e, hf⟩, h.2.2.1, h.2.2.2.1, h.2.2.2.2.1, fun j hj => (h.2.2.2.2.2 j hj).cg ⟨⟨⟨rfl, rfl⟩, ⟨rfl, rfl⟩, ⟨rfl, rfl⟩, ⟨rfl, rfl⟩, rfl, rfl⟩, ⟨⟨rfl, rfl⟩, ⟨rfl, rfl⟩, rfl, rfl⟩, rfl⟩ rfl⟩
theorem sim_write (h : sX ML MS PL PS VL VS RA RS RN) (v1 : Int32) (v2 : Int64) : (o_write ML MS v1 v2).1 = (m_write RA RN v1 v2).1 ∧ sX (va_up ML 0 (o_write ML MS v1 v2).2.1) (va_up MS 2 (o_write ML MS v1 v2).2.2) PL PS VL VS (va_up RA 0 (m_write RA RN v1 v2).2.1) RS (va_up RN 1 (m_write RA RN v1 v2).2.2) := by
  have stay : sX (va_up ML 0 (ML 0)) (va_up MS 2 (MS 2)) PL PS VL VS (va_up RA 0 (RA 0)) RS (va_up RN 1 (RN 1)) := by rw [va_eta, va_eta, va_eta, va_eta]; exact h
  have hl := mI_len h.D.M
  have i1 : (1 : Int32).toInt = 1 := by decide
  have i8 : (8 : Int32).toInt = 8 := by decide
  have hin := in_0 v1 1 8
  rw [show (1 : Int64).toInt = 1 by decide, show (8 : Int64).toInt = 8 by decide] at hin
  unfold o_write m_write t_length
  by_cases c1 : v1 < 1
  · rw [if_pos c1, if_pos (hin.mpr (Or.inl (by rw [ti_lt, i1] at c1; exact c1)))]; exact ⟨rfl, stay⟩
  · rw [if_neg c1]
    rw [ti_lt, i1] at c1
    by_cases c2 : v1 ≤ 8
    · rw [if_pos c2]
      rw [ti_le, i8] at c2
      rw [if_neg (show ¬ m_in v1.toInt64 1 8 = 0 from fun q => by rcases hin.mp q with q | q <;> omega)]
      obtain ⟨n, hn, rfl⟩ : ∃ n, n < 9 ∧ v1 = nI n := ⟨v1.toNatClampNeg, kNat_lt (by omega) (by omega), kNat (by omega)⟩
      rw [nI_clamp (by omega), h.2.1.1, nI_add]
      by_cases c3 : nI (RN 1 + n) ≤ 500
      · rw [if_pos c3, if_pos c3]
        rw [ti_le, nI_toInt (by omega), show (500 : Int32).toInt = 500 by decide] at c3
        obtain ⟨q1, q2, q3⟩ := w_L (ML := ML) (MS := MS) v2 n 0 (nI n - 1) (RA 0) (RN 1) (ML 0) (nI (RN 1)) rfl (by omega) (by omega) rfl (fun j hj => h.2.1.2 j hj)
        unfold o_write_k36 m_write_k34 t_length
        refine ⟨?_, h.text (by rw [q2]; omega) q1 (by rw [q2]; exact q3)⟩
        dsimp only
        rw [va_up_self]
        exact q1
      · rw [if_neg c3, if_neg c3, ← h.2.1.1]; exact ⟨rfl, stay⟩
    · rw [if_neg c2]
      rw [ti_le, i8] at c2
      rw [if_pos (hin.mpr (Or.inr (by omega)))]; exact ⟨rfl, stay⟩
end SWRITE
