/-! plans alike, piece by piece, while items are taken -/
def bdd (x : Int32) (a b : Int) : Prop := a ≤ x.toInt ∧ x.toInt ≤ b
def q1 (n : Nat) (p0 : Int32) (p1 p2 p3 p4 p5 a5 a6 a7 a8 a21 : Nat → Int32) : Prop :=
  (p0 = nI n ∧ n ≤ 8) ∧ (∀ i, i < n → ((p2 i = a5 i ∧ p3 i = a6 i) ∧ p4 i = a7 i ∧ p5 i = a8 i) ∧ (bdd (a5 i) 0 20 ∧ bdd (a6 i) 0 999) ∧ bdd (a7 i) 0 999 ∧ bdd (a8 i) 0 8) ∧ ∀ j, j < 2 * n → p1 j = a21 j ∧ bdd (a21 j) 0 200
def q2 (p6 a9 : Nat → Int32) : Prop := ∀ i, i < 8 → p6 i = a9 i ∧ bdd (a9 i) 0 99
def q3 (p7 p8 p9 a12 a10 a11 : Nat → Int32) : Prop := ∀ i, i < 8 → (p7 i = a12 i ∧ bdd (a12 i) 0 4) ∧ ∀ k, k < (a12 i).toNatClampNeg → (p8 (4 * i + k) = a10 (4 * i + k) ∧ bdd (a10 (4 * i + k)) 1 999) ∧ p9 (4 * i + k) = a11 (4 * i + k)
def q4 (p10 p11 a13 : Nat → Int32) : Prop := (∀ k, k < 3 → p10 (2 * k) = a13 (3 * k) ∧ p10 (2 * k + 1) = a13 (3 * k + 1) ∧ p11 k = a13 (3 * k + 2)) ∧ ∀ j, j < 9 → bdd (a13 j) 0 60
def q5 (p12 a14 : Nat → Int32) : Prop := ∀ j, j < 9 → p12 j = a14 j ∧ bdd (a14 j) 0 10
def q6 (p14 p15 p16 p17 p18 p19 s15 s16 s17 s18 s19 s20 : Int32) : Prop := ((p14 = s15 ∧ bdd s15 0 9) ∧ (p15 = s16 ∧ bdd s16 1 50) ∧ p16 = s17 ∧ bdd s17 0 99) ∧ (p17 = s18 ∧ bdd s18 0 200) ∧ (p18 = s19 ∧ bdd s19 1 20) ∧ p19 = s20 ∧ bdd s20 0 999
def q7 (p13 : Int32) (n28 : Nat) : Prop := p13 = nI n28 ∧ n28 < 3
def sQ (pl : Nat → Nat → Int32) (ps : Nat → Int32) (A : Nat → Nat → Int32) (S : Nat → Int32) (N : Nat → Nat) : Prop :=
  (q1 (N 4) (ps 0) (pl 1) (pl 2) (pl 3) (pl 4) (pl 5) (A 5) (A 6) (A 7) (A 8) (A 21) ∧ q2 (pl 6) (A 9) ∧ q3 (pl 7) (pl 8) (pl 9) (A 12) (A 10) (A 11)) ∧
  (q4 (pl 10) (pl 11) (A 13) ∧ q5 (pl 12) (A 14)) ∧ q6 (ps 14) (ps 15) (ps 16) (ps 17) (ps 18) (ps 19) (S 15) (S 16) (S 17) (S 18) (S 19) (S 20) ∧ q7 (ps 13) (N 28)
theorem q1.add {n : Nat} {p0 : Int32} {p1 p2 p3 p4 p5 a5 a6 a7 a8 a21 : Nat → Int32} (h : q1 n p0 p1 p2 p3 p4 p5 a5 a6 a7 a8 a21) (hn : n < 8) {l r u s v t : Int32} (bl : bdd l 0 200) (br : bdd r 0 200) (bu : bdd u 0 20) (bs : bdd s 0 999) (bv : bdd v 0 999) (bt : bdd t 0 8) :
    q1 (n + 1) (p0 + 1) (rs 16 (rs 16 p1 (2 * p0) l) (2 * p0 + 1) r) (rs 8 p2 p0 u) (rs 8 p3 p0 s) (rs 8 p4 p0 v) (rs 8 p5 p0 t) (upd a5 n u) (upd a6 n s) (upd a7 n v) (upd a8 n t) (upd (upd a21 (2 * n) l) (2 * n + 1) r) := by
  obtain ⟨⟨rfl, -⟩, h1, h2⟩ := h
  rw [nx21, nx2, rs_in (by omega) (by omega), rs_in (by omega) (by omega), rs_in hn (by omega), rs_in hn (by omega), rs_in hn (by omega), rs_in hn (by omega), nI_1]
  refine ⟨⟨rfl, hn⟩, fun i hi => ?_, fun j hj => ?_⟩
  · by_cases c : i = n
    · subst c; rw [pk_us, pk_us, pk_us, pk_us, pk_us, pk_us, pk_us, pk_us]; exact ⟨⟨⟨rfl, rfl⟩, rfl, rfl⟩, ⟨bu, bs⟩, bv, bt⟩
    · rw [pk_un c, pk_un c, pk_un c, pk_un c, pk_un c, pk_un c, pk_un c, pk_un c]; exact h1 i (by omega)
  · by_cases c : j = 2 * n + 1
    · subst c; rw [pk_us, pk_us]; exact ⟨rfl, br⟩
    · rw [pk_un c, pk_un c]
      by_cases d : j = 2 * n
      · subst d; rw [pk_us, pk_us]; exact ⟨rfl, bl⟩
      · rw [pk_un d, pk_un d]; exact h2 j (by omega)
theorem q2.put {p6 a9 : Nat → Int32} (h : q2 p6 a9) {i : Nat} (hi : i < 8) {v : Int32} (b : bdd v 0 99) : q2 (rs 8 p6 (nI i) v) (upd a9 i v) := by
  rw [rs_in hi (by omega)]
  intro j hj
  by_cases c : j = i
  · subst c; rw [pk_us, pk_us]; exact ⟨rfl, b⟩
  · rw [pk_un c, pk_un c]; exact h j hj
theorem q3.add {p7 p8 p9 a12 a10 a11 : Nat → Int32} (h : q3 p7 p8 p9 a12 a10 a11) {i m : Nat} (hi : i < 8) (hm : m < 4) (e : a12 i = nI m) {b t : Int32} (hb : bdd b 1 999) :
    q3 (rs 8 p7 (nI i) (rg 8 p7 (nI i) + 1)) (rs 32 p8 (nI i * 4 + rg 8 p7 (nI i)) b) (rs 32 p9 (nI i * 4 + rg 8 p7 (nI i)) t) (upd a12 i (a12 i + 1)) (upd a10 (4 * i + (a12 i).toNatClampNeg) b) (upd a11 (4 * i + (a12 i).toNatClampNeg) t) := by
  have e7 : p7 i = nI m := (h i hi).1.1.trans e
  rw [rg_in hi (by omega), e7, e, nI_1, nI_clamp (by omega), nx4, rs_in hi (by omega), rs_in (by omega) (by omega), rs_in (by omega) (by omega)]
  intro j hj
  by_cases c : j = i
  · subst c
    rw [pk_us, pk_us]
    refine ⟨⟨rfl, ?_, ?_⟩, fun k hk => ?_⟩
    · rw [nI_toInt (by omega)]; omega
    · rw [nI_toInt (by omega)]; omega
    · rw [nI_clamp (by omega)] at hk
      by_cases d : k = m
      · subst d; rw [pk_us, pk_us, pk_us, pk_us]; exact ⟨⟨rfl, hb⟩, rfl⟩
      · rw [pk_un (by omega), pk_un (by omega), pk_un (by omega), pk_un (by omega)]
        refine (h j hj).2 k ?_
        rw [e, nI_clamp (by omega)]; omega
  · rw [pk_un c, pk_un c]
    refine ⟨(h j hj).1, fun k hk => ?_⟩
    have h4 := (h j hj).1.2.2
    have hk4 : k < 4 := by
      have : (a12 j).toNatClampNeg = (a12 j).toInt.toNat := rfl
      omega
    rw [pk_un (by omega), pk_un (by omega), pk_un (by omega), pk_un (by omega)]
    exact (h j hj).2 k hk
theorem q4.put {p10 p11 a13 : Nat → Int32} (h : q4 p10 p11 a13) {i : Nat} (hi : i < 3) {x y z : Int32} (bx : bdd x 0 60) (b_y : bdd y 0 60) (bz : bdd z 0 60) :
    q4 (rs 6 (rs 6 p10 (2 * nI i) x) (2 * nI i + 1) y) (rs 3 p11 (nI i) z) (upd (upd (upd a13 (3 * i) x) (3 * i + 1) y) (3 * i + 2) z) := by
  rw [nx21, nx2, rs_in (by omega) (by omega), rs_in (by omega) (by omega), rs_in hi (by omega)]
  refine ⟨fun k hk => ?_, fun j hj => ?_⟩
  · by_cases c : k = i
    · subst c
      rw [pk_un (j := 2 * k) (k := 2 * k + 1) (by omega), pk_us, pk_us, pk_us, pk_us, pk_un (j := 3 * k) (k := 3 * k + 2) (by omega), pk_un (j := 3 * k) (k := 3 * k + 1) (by omega), pk_us, pk_un (j := 3 * k + 1) (k := 3 * k + 2) (by omega), pk_us]
      exact ⟨rfl, rfl, rfl⟩
    · have q := h.1 k hk
      rw [pk_un (j := 2 * k) (k := 2 * i + 1) (by omega), pk_un (j := 2 * k) (k := 2 * i) (by omega), pk_un (j := 2 * k + 1) (k := 2 * i + 1) (by omega), pk_un (j := 2 * k + 1) (k := 2 * i) (by omega), pk_un c,
        pk_un (j := 3 * k) (k := 3 * i + 2) (by omega), pk_un (j := 3 * k) (k := 3 * i + 1) (by omega), pk_un (j := 3 * k) (k := 3 * i) (by omega),
        pk_un (j := 3 * k + 1) (k := 3 * i + 2) (by omega), pk_un (j := 3 * k + 1) (k := 3 * i + 1) (by omega), pk_un (j := 3 * k + 1) (k := 3 * i) (by omega),
        pk_un (j := 3 * k + 2) (k := 3 * i + 2) (by omega), pk_un (j := 3 * k + 2) (k := 3 * i + 1) (by omega), pk_un (j := 3 * k + 2) (k := 3 * i) (by omega)]
      exact q
  · by_cases c : j = 3 * i + 2
    · subst c; rw [pk_us]; exact bz
    · rw [pk_un c]
      by_cases d : j = 3 * i + 1
      · subst d; rw [pk_us]; exact b_y
      · rw [pk_un d]
        by_cases e : j = 3 * i
        · subst e; rw [pk_us]; exact bx
        · rw [pk_un e]; exact h.2 j hj
theorem q5.put {p12 a14 : Nat → Int32} (h : q5 p12 a14) {i : Nat} (hi : i < 3) {x y z : Int32} (bx : bdd x 0 10) (b_y : bdd y 0 10) (bz : bdd z 0 10) :
    q5 (rs 9 (rs 9 (rs 9 p12 (3 * nI i) x) (3 * nI i + 1) y) (3 * nI i + 2) z) (upd (upd (upd a14 (3 * i) x) (3 * i + 1) y) (3 * i + 2) z) := by
  have e0 : 3 * nI i = nI (3 * i) := by rw [show (3 : Int32) = nI 3 from rfl, nI_mul]
  have e2 : nI (3 * i) + 2 = nI (3 * i + 2) := nI_add (3 * i) 2
  rw [e0, nI_1, e2, rs_in (by omega) (by omega), rs_in (by omega) (by omega), rs_in (by omega) (by omega)]
  intro j hj
  by_cases c : j = 3 * i + 2
  · subst c; rw [pk_us, pk_us]; exact ⟨rfl, bz⟩
  · rw [pk_un c, pk_un c]
    by_cases d : j = 3 * i + 1
    · subst d; rw [pk_us, pk_us]; exact ⟨rfl, b_y⟩
    · rw [pk_un d, pk_un d]
      by_cases e : j = 3 * i
      · subst e; rw [pk_us, pk_us]; exact ⟨rfl, bx⟩
      · rw [pk_un e, pk_un e]; exact h j hj
/-! a whole item, on both sides -/
section SITEM
variable {ML : Nat → Nat → Int32} {MS : Nat → Int32} {RA : Nat → Nat → Int32} {RN : Nat → Nat} {pl : Nat → Nat → Int32} {ps : Nat → Int32}
theorem item_eq (h : txt ML MS RA RN) {t : Nat} (ht : t < RN 1) (e3 : MS 3 = nI t) (e35 : RN 35 = t) {K : Int32 × (Nat → Int32) × Nat} (hK : K = m_readsItem RA RN) :
    (K.1 = 0 ∧ (r_readItem pl ps ML MS).1 = 0) ∨ (K.1 = 1 ∧ t < K.2.2 ∧ K.2.2 ≤ RN 1 ∧ ∃ κ ml1, κ < 10 ∧ K.2.1 (7 * RN 3) = gStr κ ∧ r_readItem pl ps ML MS = r_readItem_k62 pl ps ML ml1 (nI K.2.2) (nI κ) ∧ ∀ q, q < (gNum κ).toNatClampNeg → ml1 q = K.2.1 (((7 * (RN 3)) + 1) + q)) := by
  have hl := h.2.1
  obtain ⟨-, b0, b1⟩ := h.2.2 t ht
  have e0 : RA 0 t = nI (RA 0 t).toNatClampNeg := kNat b0
  have hl2 : (RA 0 t).toNatClampNeg < 256 := kNat_lt (by omega) (by omega)
  have hb : t_byteAt ML MS (MS 3) = RA 0 t := by rw [e3]; exact by_in h ht
  have h0 : (0 : Int32) ≤ RA 0 t := by rw [ti_le, ti_0]; exact b0
  unfold m_readsItem at hK
  rw [e35] at hK
  unfold r_readItem
  rw [hb, if_pos h0]
  have tab := kind_tab (RA 0 t).toNatClampNeg hl2
  rw [← e0] at tab
  obtain ⟨kd, hkd⟩ : ∃ z, z = j_indexOf (((RA 0 t).toUInt32 % 65536).toInt32) := ⟨_, rfl⟩
  rw [← hkd] at tab ⊢
  rcases tab with ⟨c1, c2⟩ | ⟨c1, c2, c3⟩
  · rw [if_pos c2] at hK
    rw [if_pos c1]
    refine Or.inl ⟨?_, rfl⟩
    rw [hK]
    exact k51_0 (L51_0 _ _ _ _ _)
  · obtain ⟨κ, hκ⟩ : ∃ z, z = kd.toNatClampNeg := ⟨_, rfl⟩
    rw [← hκ] at c1 c2 c3
    obtain ⟨n1, n2, n3, n4⟩ := num_tab κ c1
    rw [c3] at hK
    rw [← n1, if_neg (show ¬ gNum κ ≤ 0 by rw [n2, ti_le, nI_toInt (by omega), ti_0]; omega)] at hK
    rw [c2, if_neg (nI_pos (by omega)), if_pos (show nI κ < 10 from nI_lt (b := 10) c1 (by omega)), nI_clamp (by omega), e3, nI_1]
    obtain ⟨n, hn⟩ : ∃ n, (gNum κ).toNatClampNeg = n + 1 := ⟨(gNum κ).toNatClampNeg - 1, by omega⟩
    rw [hn] at hK ⊢
    have q := it_L (pl := pl) (ps := ps) h c1 n 0 (ML 1) (t + 1) (upd (RA 2) (7 * (RN 3)) (gStr κ)) (t + 1) (by omega) (by omega) (Or.inl ⟨rfl, rfl⟩) (fun q hq => absurd hq (Nat.not_lt_zero q)) K hK
    rcases q with q | ⟨w1, w2, w3, ml1, w4, w5⟩
    · exact Or.inl q
    · refine Or.inr ⟨w1, by omega, w3, κ, ml1, c1, ?_, w4, w5⟩
      have r1 := rd_L RA RN (gStr κ) (n + 1) 0 1 (upd (RA 2) (7 * (RN 3)) (gStr κ)) (t + 1) (fun _ j h1 h2 => by omega)
      rw [hK, (rd_k RA RN _ _ _).1, r1.1 _ (Nat.le_refl _), pk_us]
end SITEM
