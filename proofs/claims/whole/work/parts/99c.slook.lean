/-! the state behind looks ahead -/
section SLOOK
variable {ML : Nat → Nat → Int32} {MS : Nat → Int32} {PL : Nat → Nat → Nat → Int32} {PS : Nat → Nat → Int32} {VL : Nat → Nat → Nat → Int32} {VS : Nat → Nat → Int32} {RA : Nat → Nat → Int32} {RS : Nat → Int32} {RN : Nat → Nat}
/-- behind night -/
theorem sX.look4 (h : sX ML MS PL PS VL VS RA RS RN) (U : Nat → Int32) (X : Nat → Nat → Int32) (Y : Nat → Int32) (a b c e : Nat → Int32) (d : Int32) : sX (va_up ML 5 U) MS PL PS (va_up VL 3 X) (va_up VS 3 Y) (va_up (nR RA a b c) 41 e) (va_up RS 38 d) RN :=
  h.look ⟨⟨⟨rfl, rfl⟩, ⟨rfl, rfl⟩, ⟨rfl, rfl⟩, ⟨rfl, rfl⟩, rfl, rfl⟩, ⟨⟨rfl, rfl⟩, ⟨rfl, rfl⟩, rfl, rfl⟩, rfl⟩ ⟨⟨fun _ _ => rfl, fun _ _ => rfl, fun _ _ => rfl, fun _ _ => rfl, fun _ _ => rfl⟩, ⟨rfl, rfl, rfl⟩, rfl, rfl⟩ rfl rfl rfl rfl rfl rfl rfl rfl rfl rfl rfl (fun k hk => ⟨va_up_ne _ _ (by omega), va_up_ne _ _ (by omega)⟩)
/-- behind instead -/
theorem sX.look5 (h : sX ML MS PL PS VL VS RA RS RN) (v1 v2 : Int32) (X : Nat → Nat → Int32) (Y : Nat → Int32) (a b c : Nat → Int32) (d : Int32) : sX ML MS PL PS (va_up VL 3 X) (va_up VS 3 Y) (va_up (va_up (va_up (va_up RA 25 (m_instead RA RS RN v1 v2).2.1) 36 a) 37 b) 39 c) (va_up RS 38 d) RN := by
  rw [inst_25, va_eta]
  exact h.look3 X Y a b c d
/-- behind calls that go through many villages: the first three stand as they stood -/
theorem sX.look6 {ML' : Nat → Nat → Int32} {VL' : Nat → Nat → Nat → Int32} {VS' : Nat → Nat → Int32} (h : sX ML MS PL PS VL VS RA RS RN) (m0 : ML' 0 = ML 0) (m2 : ML' 2 = ML 2) (hv : ∀ k, k < 3 → VL' k = VL k ∧ VS' k = VS k) (a b c : Nat → Int32) (d : Int32) : sX ML' MS PL PS VL' VS' (nR RA a b c) (va_up RS 38 d) RN :=
  h.look ⟨⟨⟨rfl, rfl⟩, ⟨rfl, rfl⟩, ⟨rfl, rfl⟩, ⟨rfl, rfl⟩, rfl, rfl⟩, ⟨⟨rfl, rfl⟩, ⟨rfl, rfl⟩, rfl, rfl⟩, rfl⟩ ⟨⟨fun _ _ => rfl, fun _ _ => rfl, fun _ _ => rfl, fun _ _ => rfl, fun _ _ => rfl⟩, ⟨rfl, rfl, rfl⟩, rfl, rfl⟩ rfl rfl rfl rfl rfl rfl m0 m2 rfl rfl rfl hv
end SLOOK
