/-! best -/
section SBEST5
variable {ML : Nat → Nat → Int32} {MS : Nat → Int32} {PL : Nat → Nat → Nat → Int32} {PS : Nat → Nat → Int32} {VL : Nat → Nat → Nat → Int32} {VS : Nat → Nat → Int32} {RA : Nat → Nat → Int32} {RS : Nat → Int32} {RN : Nat → Nat} {RL LL : Int64}
theorem find_eq (h : ldOk (VL 3) (VS 3) (PL 0) (PS 0) RA RS RN) (hM : mI RA RS RN) (hB : rB RA RS RN) (hC : mC RA RS RN) (hsk : ∀ j, j < RN 32 → ML 2 j = RA 31 j) (N : Nat) (h1 : 0 < N) (hN : N ≤ 3) (hNr : N ≤ RN 32) :
    (s_find ML VL VS PL PS (nI N)).1 = (m_bestRow RA RS RN N).2.2.2.2.1 ∧ (∃ q, (m_bestRow RA RS RN N).1 = nI q ∧ preQ N q ((s_find ML VL VS PL PS (nI N)).2.1 4)) := by
  have hb := rB_hands hB
  have hd := hands_le (x := RS 15) (by omega)
  have e := L12_eq h hM hC hd N (by omega) (17 ^ N) 0 (-4) (RA 36) (RA 37) (RA 39) 1152921504606846976 (RS 38) (Int.le_of_eq big60)
  have y := en_B (RA := RA) (RS := RS) (RN := RN) (RS 26) N 0 N 0 (m_load RA RS).1 (m_load RA RS).2.1 (m_load RA RS).2.2.1 (1152921504606846976, -4) (by omega) (Int.le_of_eq big60)
  rw [Nat.zero_mul] at y
  rw [y] at e
  have hM' : mI RA (va_up RS 38 (RS 26)) RN := hM
  have hB' : rB RA (va_up RS 38 (RS 26)) RN := hB
  have hC' : mC RA (va_up RS 38 (RS 26)) RN := mC_of hC rfl rfl rfl rfl rfl rfl
  obtain ⟨n, rfl⟩ : ∃ n, N = n + 1 := ⟨N - 1, by omega⟩
  have g := (go_B (PL := PL) (PS := PS) hM' hB' hC' rfl hd (n + 1) hN hNr 5 3 n 0 0 (1152921504606846976, -4) ML VL VS 9223372036854775807 (m_load RA RS).1 (m_load RA RS).2.1 (m_load RA RS).2.2.1 (by omega) (by omega) h.base hsk ⟨Nat.pow_pos (by omega), fun j hj => absurd hj (Nat.not_lt_zero j)⟩ (Or.inl ⟨rfl, rfl⟩)).1
  have lt := bF_lt hM' hB' hC' (n + 1) 0 0 (m_load RA RS).1 (m_load RA RS).2.1 (m_load RA RS).2.2.1 (1152921504606846976, -4)
  rw [← e] at g lt
  have ew : m_bestRow RA RS RN (n + 1) = ((m_bestRow_L12 RA RS RN (n + 1) (17 ^ (n + 1)) 0 (-4) (RA 36) (RA 37) (RA 39) 1152921504606846976 (RS 38)).1, (m_bestRow_L12 RA RS RN (n + 1) (17 ^ (n + 1)) 0 (-4) (RA 36) (RA 37) (RA 39) 1152921504606846976 (RS 38)).2.1, (m_bestRow_L12 RA RS RN (n + 1) (17 ^ (n + 1)) 0 (-4) (RA 36) (RA 37) (RA 39) 1152921504606846976 (RS 38)).2.2.1, (m_bestRow_L12 RA RS RN (n + 1) (17 ^ (n + 1)) 0 (-4) (RA 36) (RA 37) (RA 39) 1152921504606846976 (RS 38)).2.2.2.1, (m_bestRow_L12 RA RS RN (n + 1) (17 ^ (n + 1)) 0 (-4) (RA 36) (RA 37) (RA 39) 1152921504606846976 (RS 38)).2.2.2.2.1, (m_bestRow_L12 RA RS RN (n + 1) (17 ^ (n + 1)) 0 (-4) (RA 36) (RA 37) (RA 39) 1152921504606846976 (RS 38)).2.2.2.2.2) := by
    unfold m_bestRow m_bestRow_k12
    rw [pow_eq]
  have es : s_find ML VL VS PL PS (nI (n + 1)) = s_goR PL PS 5 3 ML VL VS 9223372036854775807 0 (nI (n + 1)) := rfl
  rw [ew, es]
  rw [show nI 0 = 0 from rfl] at g
  dsimp only at lt ⊢
  rcases g with ⟨g1, -⟩ | ⟨g1, g2, q, g3, g4⟩
  · dsimp only at g1
    rw [g1, big60] at lt
    omega
  · dsimp only at g1 g3
    exact ⟨g1.symm, q, g3, g4⟩
end SBEST5
