/-! find, whole, leaves them too -/
section SFIND2
variable {PL : Nat → Nat → Nat → Int32} {PS : Nat → Nat → Int32}
theorem goR_keep : ∀ (k v : Nat) (ML : Nat → Nat → Int32) (VL : Nat → Nat → Nat → Int32) (VS : Nat → Nat → Int32) (LL : Int64) (a b : Int32), ((s_goR PL PS k v ML VL VS LL a b).2.1 0 = ML 0 ∧ (s_goR PL PS k v ML VL VS LL a b).2.1 2 = ML 2) ∧ ∀ j, j < v + 1 → (s_goR PL PS k v ML VL VS LL a b).2.2.1 j = VL j ∧ (s_goR PL PS k v ML VL VS LL a b).2.2.2 j = VS j := by
  intro k
  induction k with
  | zero => intro v ML VL VS LL a b; exact ⟨⟨rfl, rfl⟩, fun j _ => ⟨rfl, rfl⟩⟩
  | succ k ih =>
    intro v ML VL VS LL a b
    have q := goO_keep (PL := PL) (PS := PS) (F := s_goR PL PS k (v + 1)) (vn := v) (wn := v + 1) (v2 := a) (v3 := b) (by omega) (fun ML VL VS LL a b => ⟨(ih (v + 1) ML VL VS LL a b).1, fun j hj => (ih (v + 1) ML VL VS LL a b).2 j (by omega)⟩) 17 0 LL ML VL VS
    have e : s_goR PL PS (k + 1) v ML VL VS LL a b = s_goOn (s_goR PL PS k (v + 1)) v (v + 1) ML VL VS PL PS LL a b := rfl
    rw [e]
    unfold s_goOn s_goOn_k20
    by_cases c : a < b
    · rw [if_pos c]; exact q
    · rw [if_neg c]; exact ⟨⟨rfl, rfl⟩, fun j _ => ⟨rfl, rfl⟩⟩
theorem find_keep (ML : Nat → Nat → Int32) (VL : Nat → Nat → Nat → Int32) (VS : Nat → Nat → Int32) (b : Int32) : ((s_find ML VL VS PL PS b).2.1 0 = ML 0 ∧ (s_find ML VL VS PL PS b).2.1 2 = ML 2) ∧ ∀ j, j < 4 → (s_find ML VL VS PL PS b).2.2.1 j = VL j ∧ (s_find ML VL VS PL PS b).2.2.2 j = VS j := by
  unfold s_find
  exact goR_keep 5 3 ML VL VS _ 0 b
end SFIND2
