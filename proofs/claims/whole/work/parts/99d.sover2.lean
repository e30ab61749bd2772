/-! over leaves the first villages as they stand -/
section SOVER2
variable {PL : Nat → Nat → Nat → Int32} {PS : Nat → Nat → Int32}
theorem loA_keep {F : (Nat → Nat → Nat → Int32) → (Nat → Nat → Int32) → Int32 → Int32 → Int64 × (Nat → Nat → Nat → Int32) × (Nat → Nat → Int32)} {vn wn : Nat} (hw : vn < wn) {v1 v2 : Int32} (HF : ∀ VL VS a b j, j < wn → (F VL VS a b).2.1 j = VL j ∧ (F VL VS a b).2.2 j = VS j) :
    ∀ (n i : Nat) (acc : Int64) (VL : Nat → Nat → Nat → Int32) (VS : Nat → Nat → Int32) (j : Nat), j < wn → (o_lossOverAll_L24 F vn wn PL PS v1 v2 n i acc VL VS).2.1 j = VL j ∧ (o_lossOverAll_L24 F vn wn PL PS v1 v2 n i acc VL VS).2.2 j = VS j := by
  intro n
  induction n with
  | zero => intro i acc VL VS j _; rw [o_lossOverAll_L24.eq_1]; exact ⟨rfl, rfl⟩
  | succ n ih =>
    intro i acc VL VS j hj
    rw [o_lossOverAll_L24.eq_2]
    split
    · exact ih _ _ _ _ j hj
    · exact ⟨(ih _ _ _ _ j hj).1.trans ((HF _ _ _ _ j hj).1.trans (va_up_ne _ _ (by omega))), (ih _ _ _ _ j hj).2.trans ((HF _ _ _ _ j hj).2.trans (va_up_ne _ _ (by omega)))⟩
theorem loR_keep : ∀ (k v : Nat) (VL : Nat → Nat → Nat → Int32) (VS : Nat → Nat → Int32) (a b : Int32) (j : Nat), j < v + 1 → (o_loR PL PS k v VL VS a b).2.1 j = VL j ∧ (o_loR PL PS k v VL VS a b).2.2 j = VS j := by
  intro k
  induction k with
  | zero => intro v VL VS a b j _; exact ⟨rfl, rfl⟩
  | succ k ih =>
    intro v VL VS a b j hj
    show (o_lossOverAll (o_loR PL PS k (v + 1)) v (v + 1) VL VS PL PS a b).2.1 j = _ ∧ (o_lossOverAll (o_loR PL PS k (v + 1)) v (v + 1) VL VS PL PS a b).2.2 j = _
    unfold o_lossOverAll o_lossOverAll_k24
    by_cases c : b ≤ 0
    · rw [if_pos c]; exact ⟨rfl, rfl⟩
    · rw [if_neg c]
      exact loA_keep (by omega) (fun VL VS a b j hj => ih (v + 1) VL VS a b j (by omega)) 3 0 0 VL VS j hj
end SOVER2
