/-! least distances are one: R where the roots lead, E where fields lead -/
def Dst (R : Nat → Prop) (E : Nat → Nat → Prop) (D : Nat → Int) : Prop := (∀ w, -1 ≤ D w) ∧ (∀ w, R w → D w = 0) ∧ (∀ w, D w = 0 → R w) ∧ (∀ v w, 0 ≤ D v → E v w → 0 ≤ D w ∧ D w ≤ D v + 1) ∧ ∀ w, 1 ≤ D w → ∃ v, D v = D w - 1 ∧ E v w
theorem Dst.le {R : Nat → Prop} {E : Nat → Nat → Prop} {D D' : Nat → Int} (h : Dst R E D) (h' : Dst R E D') : ∀ (n w : Nat), D w = n → 0 ≤ D' w ∧ D' w ≤ n := by
  intro n
  induction n with
  | zero =>
    intro w hw
    have := h'.2.1 w (h.2.2.1 w (by omega))
    omega
  | succ n ih =>
    intro w hw
    obtain ⟨v, v1, v2⟩ := h.2.2.2.2 w (by omega)
    have a := ih v (by omega)
    have b := h'.2.2.2.1 v w a.1 v2
    omega
theorem Dst.one {R : Nat → Prop} {E : Nat → Nat → Prop} {D D' : Nat → Int} (h : Dst R E D) (h' : Dst R E D') (w : Nat) : D w = D' w := by
  have a := h.1 w
  have a' := h'.1 w
  by_cases c : 0 ≤ D w
  · have b := h.le h' (D w).toNat w (by omega)
    have b' := h'.le h (D' w).toNat w (by omega)
    omega
  · by_cases c' : 0 ≤ D' w
    · have b' := h'.le h (D' w).toNat w (by omega)
      omega
    · omega
