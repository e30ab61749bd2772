/-! find leaves the text, the skies and the first villages as they stand -/
section SFIND
variable {PL : Nat → Nat → Nat → Int32} {PS : Nat → Nat → Int32}
theorem goO_keep {F : (Nat → Nat → Int32) → (Nat → Nat → Nat → Int32) → (Nat → Nat → Int32) → Int64 → Int32 → Int32 → Int64 × (Nat → Nat → Int32) × (Nat → Nat → Nat → Int32) × (Nat → Nat → Int32)} {vn wn : Nat} (hw : vn < wn) {v2 v3 : Int32} (HF : ∀ ML VL VS LL a b, ((F ML VL VS LL a b).2.1 0 = ML 0 ∧ (F ML VL VS LL a b).2.1 2 = ML 2) ∧ ∀ j, j < wn → (F ML VL VS LL a b).2.2.1 j = VL j ∧ (F ML VL VS LL a b).2.2.2 j = VS j) :
    ∀ (n i : Nat) (LL : Int64) (ML : Nat → Nat → Int32) (VL : Nat → Nat → Nat → Int32) (VS : Nat → Nat → Int32), ((s_goOn_L20 F vn wn PL PS v2 v3 n i LL ML VL VS).2.1 0 = ML 0 ∧ (s_goOn_L20 F vn wn PL PS v2 v3 n i LL ML VL VS).2.1 2 = ML 2) ∧ ∀ j, j < wn → (s_goOn_L20 F vn wn PL PS v2 v3 n i LL ML VL VS).2.2.1 j = VL j ∧ (s_goOn_L20 F vn wn PL PS v2 v3 n i LL ML VL VS).2.2.2 j = VS j := by
  intro n
  induction n with
  | zero => intro i LL ML VL VS; rw [s_goOn_L20.eq_1]; exact ⟨⟨rfl, rfl⟩, fun j _ => ⟨rfl, rfl⟩⟩
  | succ n ih =>
    intro i LL ML VL VS
    rw [s_goOn_L20.eq_2]
    repeat' split
    all_goals first
      | exact ih _ _ _ _ _
      | exact ⟨⟨(ih _ _ _ _ _).1.1.trans ((HF _ _ _ _ _ _).1.1.trans rfl), (ih _ _ _ _ _).1.2.trans ((HF _ _ _ _ _ _).1.2.trans rfl)⟩, fun j hj => ⟨((ih _ _ _ _ _).2 j hj).1.trans (((HF _ _ _ _ _ _).2 j hj).1.trans (va_up_ne _ _ (by omega))), ((ih _ _ _ _ _).2 j hj).2.trans (((HF _ _ _ _ _ _).2 j hj).2.trans (va_up_ne _ _ (by omega)))⟩⟩
      | exact ⟨⟨(ih _ _ _ _ _).1.1.trans rfl, (ih _ _ _ _ _).1.2.trans rfl⟩, fun j hj => ⟨((ih _ _ _ _ _).2 j hj).1.trans (va_up_ne _ _ (by omega)), ((ih _ _ _ _ _).2 j hj).2.trans (va_up_ne _ _ (by omega))⟩⟩
end SFIND
