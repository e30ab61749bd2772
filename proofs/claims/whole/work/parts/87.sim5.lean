/-! on -/
section SIM5
variable {ML : Nat → Nat → Int32} {MS : Nat → Int32} {PL : Nat → Nat → Nat → Int32} {PS : Nat → Nat → Int32} {VL VL' : Nat → Nat → Nat → Int32} {VS VS' : Nat → Nat → Int32} {RA RA' : Nat → Nat → Int32} {RS RS' : Nat → Int32} {RN RN' : Nat → Nat} {vl pl : Nat → Nat → Int32} {vs ps : Nat → Int32}
theorem on_21 {g : Nat → Int32} : ∀ (f : Nat → Int32) (j : Nat), j < 16 → m_on_L34 g 16 0 f j = g j := fun f j hj => by
  have q := upL (L := m_on_L34 g) 16 (fun i _ => g i) (fun i f => by rw [m_on_L34.eq_1]) (fun n i f _ => by rw [m_on_L34.eq_2]) 16 0 f j (by omega)
  rw [q, if_pos (by omega)]
theorem on_24 {g : Nat → Int32} : ∀ (f : Nat → Int32) (j : Nat), j < 24 → m_on_L60 g 24 0 f j = g j := fun f j hj => by
  have q := upL (L := m_on_L60 g) 24 (fun i _ => g i) (fun i f => by rw [m_on_L60.eq_1]) (fun n i f _ => by rw [m_on_L60.eq_2]) 24 0 f j (by omega)
  rw [q, if_pos (by omega)]
/-- the hour itself, of the village and of the view of it -/
theorem on_hour (h : sD vl vs pl ps RA RS RN) {k : Nat} (hk : k < 3) (r : Int32) {m : (Nat → Int32) × (Nat → Int32) × (Nat → Int32)} (hm : m = m_goHour (nR RA (m_load RA RS).1 (m_load RA RS).2.1 (m_load RA RS).2.2.1) (va_up RS 38 (m_load RA RS).2.2.2) RN r k (RS 15) (-4)) {c : (Nat → Int32) × (Nat → Int32) × (Nat → Int32) × Int32 × Int32} (hc : c = v_passHour vl vs pl ps r (nI k) (RS 15)) :
    sE (va_up (va_up (va_up vl 1 c.1) 5 c.2.1) 6 c.2.2.1) (va_up (va_up vs 10 c.2.2.2.1) 11 c.2.2.2.2) pl ps (va_up (va_up (va_up (va_up (va_up RA 21 (m_on_L34 m.1 16 0 (RA 21))) 24 (m_on_L60 m.2.1 24 0 (RA 24))) 36 m.1) 37 m.2.1) 39 m.2.2) (va_up (va_up RS 27 (RS 27 + 1)) 38 (m_load RA RS).2.2.2) (va_up RN 28 k) := by
  have h8 := h.many
  have hb := rB_hands h.b
  obtain ⟨l1, l2, l3, l4⟩ := load_eq RA RS
  have hs0 := (h.start (vl' := va_up vl 6 (fun _ => 0)) (vs' := vs) (fun _ _ => rfl) (fun _ _ => rfl) (fun _ _ => rfl) (fun _ _ => rfl) (fun _ _ => rfl) rfl)
  have hS : sH vl vs pl ps (nR RA (m_load RA RS).1 (m_load RA RS).2.1 (m_load RA RS).2.2.1) (va_up RS 38 (m_load RA RS).2.2.2) RN 999 := hs0.1
  have q := hh_L hS hk r (fun _ => ⟨h.v12, h.told⟩) (RS 15).toNatClampNeg 0 (vl 1) (nR RA (m_load RA RS).1 (m_load RA RS).2.1 (m_load RA RS).2.2.1 36) 999 (by have := hands_le (x := RS 15) (by omega); omega) hS.e1 (by rw [va_eta]; exact hS.W)
  have z := wx0 hS hs0.2.2 hk q.1 q.2 (by have := hands_le (x := RS 15) (by omega); omega)
  have ec : v_passWeather (va_up vl 1 (v_passHour_L3 vl vs pl ps r (nI k) (RS 15).toNatClampNeg 0 (vl 1))) vs pl ps (nI k) = c := by rw [hc]; rfl
  have em : m_goHour_k3 (nR RA (m_load RA RS).1 (m_load RA RS).2.1 (m_load RA RS).2.2.1) (va_up RS 38 (m_load RA RS).2.2.2) RN (m_goHour_L3 (nR RA (m_load RA RS).1 (m_load RA RS).2.1 (m_load RA RS).2.2.1) (va_up RS 38 (m_load RA RS).2.2.2) RN r k (-4) (RS 15).toNatClampNeg 0 (nR RA (m_load RA RS).1 (m_load RA RS).2.1 (m_load RA RS).2.2.1 36)) k = m := by rw [hm]; rfl
  rw [ec, em] at z
  obtain ⟨⟨z1, z2⟩, ⟨z3, z4⟩, z5, z6⟩ := z
  have o1 := on_21 (g := m.1) (RA 21)
  have o2 := on_24 (g := m.2.1) (RA 24)
  refine ⟨⟨⟨h.P, mI_sky_up h.M hk⟩, h.z, h.b⟩, ⟨⟨fun j hj => ?_, h.e2⟩, ⟨h.e3, h.e4⟩, fun i k' hi hk2 => ?_⟩, ⟨⟨h.v8, h.v9⟩, ⟨?_, z6⟩, h.v12, h.told⟩, ⟨fun j hj => ?_, fun i hi hf => ?_, h.w3⟩, fun j hj => ?_, h.cr⟩
  · have hj : j < 2 * RN 4 := hj
    show c.1 j = m_on_L34 m.1 16 0 (RA 21) j
    rw [o1 j (by omega)]; exact z1 j hj
  · have hi : i < RN 4 := hi
    have hk2 : k' < (RA 25 i).toNatClampNeg := hk2
    have := mI_pm h.M i (by omega)
    show c.2.1 (3 * i + k') = m_on_L60 m.2.1 24 0 (RA 24) (3 * i + k')
    rw [o2 _ (by omega)]; exact z3 i k' hi hk2
  · show c.2.2.2.1 = RS 27 + 1
    rw [z5, h.v10]
  · have hj : j < 2 * RN 4 := hj
    show 0 ≤ (m_on_L34 m.1 16 0 (RA 21) j).toInt ∧ (m_on_L34 m.1 16 0 (RA 21) j).toInt ≤ 999
    rw [o1 j (by omega)]; exact z2.1 j hj
  · have hi : i < RN 4 := hi
    have hf : bt (RS 26) i = false := hf
    show m_on_L34 m.1 16 0 (RA 21) (2 * i) = 0 ∧ m_on_L34 m.1 16 0 (RA 21) (2 * i + 1) = 0
    rw [o1 _ (by omega), o1 _ (by omega)]
    exact z2.2.1 i hi (by show bt (m_load RA RS).2.2.2 i = false; rw [l4]; exact hf)
  · show 0 ≤ (m_on_L60 m.2.1 24 0 (RA 24) j).toInt
    rw [o2 j hj]; exact z4 j hj
theorem sim_on (h : sX ML MS PL PS VL VS RA RS RN) (v1 v2 : Int32) : (o_on VL VS PL PS v1 v2).1 = (m_on RA RS RN v1 v2).1 ∧
    sX ML MS PL PS (va_up VL 0 (va_up (va_up (va_up (va_up (va_up (VL 0) 1 ((o_on VL VS PL PS v1 v2).2.1)) 2 ((o_on VL VS PL PS v1 v2).2.2.1)) 3 ((o_on VL VS PL PS v1 v2).2.2.2.1)) 5 ((o_on VL VS PL PS v1 v2).2.2.2.2.1)) 6 ((o_on VL VS PL PS v1 v2).2.2.2.2.2.1))) (va_up VS 0 (va_up (va_up (va_up (VS 0) 8 ((o_on VL VS PL PS v1 v2).2.2.2.2.2.2.1)) 10 ((o_on VL VS PL PS v1 v2).2.2.2.2.2.2.2.1)) 11 ((o_on VL VS PL PS v1 v2).2.2.2.2.2.2.2.2)))
      (va_up (va_up (va_up (va_up (va_up (va_up (va_up RA 21 ((m_on RA RS RN v1 v2).2.1)) 22 ((m_on RA RS RN v1 v2).2.2.1)) 23 ((m_on RA RS RN v1 v2).2.2.2.1)) 24 ((m_on RA RS RN v1 v2).2.2.2.2.1)) 36 ((m_on RA RS RN v1 v2).2.2.2.2.2.1)) 37 ((m_on RA RS RN v1 v2).2.2.2.2.2.2.1)) 39 ((m_on RA RS RN v1 v2).2.2.2.2.2.2.2.1)) (va_up (va_up (va_up RS 26 ((m_on RA RS RN v1 v2).2.2.2.2.2.2.2.2.2.1)) 27 ((m_on RA RS RN v1 v2).2.2.2.2.2.2.2.2.2.2.1)) 38 ((m_on RA RS RN v1 v2).2.2.2.2.2.2.2.2.2.2.2)) (va_up RN 28 ((m_on RA RS RN v1 v2).2.2.2.2.2.2.2.2.1)) := by
  have stay : ∀ x : Int32, sX ML MS PL PS (va_up VL 0 (va_up (va_up (va_up (va_up (va_up (VL 0) 1 (VL 0 1)) 2 (VL 0 2)) 3 (VL 0 3)) 5 (VL 0 5)) 6 (VL 0 6))) (va_up VS 0 (va_up (va_up (va_up (VS 0) 8 (VS 0 8)) 10 (VS 0 10)) 11 (VS 0 11))) (va_up (va_up (va_up (va_up (va_up (va_up (va_up RA 21 (RA 21)) 22 (RA 22)) 23 (RA 23)) 24 (RA 24)) 36 (RA 36)) 37 (RA 37)) 39 (RA 39)) (va_up (va_up (va_up RS 26 (RS 26)) 27 (RS 27)) 38 (RS 38)) (va_up RN 28 (RN 28)) := fun x => by
    simp only [va_eta]; exact h
  by_cases c : m_isRule v1 = 0
  · have e1 : o_on VL VS PL PS v1 v2 = ((-1), (VL 0 1), (VL 0 2), (VL 0 3), (VL 0 5), (VL 0 6), (VS 0 8), (VS 0 10), (VS 0 11)) := by unfold o_on; rw [if_pos ((rule_eq v1).mpr c)]
    have e2 : m_on RA RS RN v1 v2 = ((-1), (RA 21), (RA 22), (RA 23), (RA 24), (RA 36), (RA 37), (RA 39), (RN 28), (RS 26), (RS 27), (RS 38)) := by unfold m_on; rw [if_pos c]
    rw [e1, e2]; exact ⟨rfl, stay 0⟩
  · by_cases c2 : m_isSky v2 = 0
    · have e1 : o_on VL VS PL PS v1 v2 = ((-1), (VL 0 1), (VL 0 2), (VL 0 3), (VL 0 5), (VL 0 6), (VS 0 8), (VS 0 10), (VS 0 11)) := by unfold o_on; rw [if_neg (show ¬ o_isRule v1 = 0 from fun q => c ((rule_eq v1).mp q)), if_pos ((sky_eq v2).mpr c2)]
      have e2 : m_on RA RS RN v1 v2 = ((-1), (RA 21), (RA 22), (RA 23), (RA 24), (RA 36), (RA 37), (RA 39), (RN 28), (RS 26), (RS 27), (RS 38)) := by unfold m_on; rw [if_neg c, if_pos c2]
      rw [e1, e2]; exact ⟨rfl, stay 0⟩
    · have hv := m_isSky_t c2
      obtain ⟨k, hk3, rfl⟩ : ∃ k, k < 3 ∧ v2 = nI k := ⟨v2.toNatClampNeg, kNat_lt hv.2 (by omega), kNat hv.1⟩
      obtain ⟨C, hC⟩ : ∃ C, C = v_passHour (VL 0) (VS 0) (PL 0) (PS 0) v1 (nI k) (RS 15) := ⟨_, rfl⟩
      obtain ⟨m, hm⟩ : ∃ m, m = m_goHour (nR RA (m_load RA RS).1 (m_load RA RS).2.1 (m_load RA RS).2.2.1) (va_up RS 38 (m_load RA RS).2.2.2) RN v1 k (RS 15) (-4) := ⟨_, rfl⟩
      have hE := on_hour h.D hk3 v1 hm hC
      obtain ⟨d, ha⟩ := feel_D hE
      obtain ⟨F, hF⟩ : ∃ F, F = v_feelAll (va_up (va_up (va_up (VL 0) 1 C.1) 5 C.2.1) 6 C.2.2.1) (va_up (va_up (VS 0) 10 C.2.2.2.1) 11 C.2.2.2.2) (PL 0) (PS 0) := ⟨_, rfl⟩
      obtain ⟨G, hG⟩ : ∃ G, G = m_feel (va_up (va_up (va_up (va_up (va_up RA 21 (m_on_L34 m.1 16 0 (RA 21))) 24 (m_on_L60 m.2.1 24 0 (RA 24))) 36 m.1) 37 m.2.1) 39 m.2.2) (va_up (va_up RS 27 (RS 27 + 1)) 38 (m_load RA RS).2.2.2) (va_up RN 28 k) := ⟨_, rfl⟩
      rw [← hF, ← hG] at d ha
      have e1 : o_on VL VS PL PS v1 (nI k) = (F.1, F.2.1, F.2.2.1, F.2.2.2.1, C.2.1, C.2.2.1, F.2.2.2.2, C.2.2.2.1, C.2.2.2.2) := by
        unfold o_on
        rw [if_neg (show ¬ o_isRule v1 = 0 from fun q => c ((rule_eq v1).mp q)), if_neg (show ¬ o_isSky (nI k) = 0 from fun q => c2 ((sky_eq (nI k)).mp q)), show PS 0 14 = RS 15 from h.D.P.2.2.2.2.2.1.1, ← hC, ← hF]
      have e2 : m_on RA RS RN v1 (nI k) = (RS 26 &&& (G.2.2.2.2.2.2.1 ^^^ (-1)), G.1, G.2.1, G.2.2.1, m_on_L60 m.2.1 24 0 (RA 24), G.2.2.2.1, G.2.2.2.2.1, G.2.2.2.2.2.1, k, G.2.2.2.2.2.2.1, RS 27 + 1, G.2.2.2.2.2.2.2) := by
        unfold m_on
        rw [if_neg c, if_neg c2, nI_clamp (by omega)]
        unfold nR at hm
        rw [← hm]
        unfold m_on_k34 m_on_k60
        rw [← hG]
      rw [e1, e2]
      refine ⟨ha, h.vill (d.cg ⟨⟨⟨rfl, rfl⟩, ⟨rfl, rfl⟩, ⟨rfl, rfl⟩, ⟨rfl, rfl⟩, rfl, rfl⟩, ⟨⟨rfl, rfl⟩, ⟨rfl, rfl⟩, rfl, rfl⟩, rfl⟩ ⟨⟨fun _ _ => rfl, fun _ _ => rfl, fun _ _ => rfl, fun _ _ => rfl, fun _ _ => rfl⟩, ⟨rfl, rfl, rfl⟩, rfl, rfl⟩ ⟨⟨fun _ _ => rfl, fun _ _ => rfl, fun _ _ => rfl, fun _ _ => rfl, fun _ _ => rfl⟩, ⟨rfl, rfl⟩, ⟨rfl, rfl⟩, rfl⟩ (mG_of (RS := RS) d.M)) ⟨⟨⟨rfl, rfl⟩, ⟨rfl, rfl⟩, ⟨rfl, rfl⟩, ⟨rfl, rfl⟩, rfl, rfl⟩, ⟨⟨rfl, rfl⟩, ⟨rfl, rfl⟩, rfl, rfl⟩, rfl⟩ rfl rfl rfl rfl rfl rfl ⟨⟨rfl, rfl⟩, rfl, rfl⟩⟩
end SIM5
