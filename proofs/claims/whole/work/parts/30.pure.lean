/-! plain functions: how they are opened -/
theorem xlet_eq {α β : Type} (a : α) (k : α → β) : xlet a k = k a := rfl
theorem xb1_some {α γ : Type} (a : α) (k : α → Option γ) : xb1 (some a) k = k a := rfl
theorem xb2_some {α β γ : Type} (a : α) (b : β) (k : α → β → Option γ) : xb2 (some (a, b)) k = k a b := rfl
theorem xb3_some {α β δ γ : Type} (a : α) (b : β) (d : δ) (k : α → β → δ → Option γ) : xb3 (some (a, b, d)) k = k a b d := rfl
theorem xb4_some {α β δ ε γ : Type} (a : α) (b : β) (d : δ) (e : ε) (k : α → β → δ → ε → Option γ) : xb4 (some (a, b, d, e)) k = k a b d e := rfl
theorem xs2_l {α β γ : Type} (a : α) (k1 : α → Option γ) (k2 : β → Option γ) : xs2 (some (.inl a)) k1 k2 = k1 a := rfl
theorem xs2_r {α β γ : Type} (a : β) (k1 : α → Option γ) (k2 : β → Option γ) : xs2 (some (.inr a)) k1 k2 = k2 a := rfl
theorem up2_ap {α : Type} (M : Nat → Nat → α) (k i : Nat) (v : α) (q j : Nat) : up2 M k i v q j = if q = k ∧ j = i then v else M q j := by
  unfold up2
  by_cases h : q = k
  · subst h
    by_cases h2 : j = i
    · subst h2; simp
    · simp [h2]
  · simp [h]
theorem up2_same {α : Type} (M : Nat → Nat → α) (k i : Nat) (v : α) : up2 M k i v k i = v := by simp [up2_ap]
theorem up2_ne {α : Type} {M : Nat → Nat → α} {k i q j : Nat} {v : α} (h : ¬ (q = k ∧ j = i)) : up2 M k i v q j = M q j := by rw [up2_ap, if_neg h]
/-- an index that is a small number -/
theorem xin_nI {i n : Nat} (h : i < n) (hn : n < 2 ^ 31) : xin (nI i) n = true := by
  unfold xin
  rw [Bool.and_eq_true, decide_eq_true_eq, decide_eq_true_eq]
  exact ⟨nI_pos (by omega), by rw [nI_clamp (by omega)]; exact h⟩
/-- an index by its value -/
theorem xin_iff {x : Int32} {n : Nat} : xin x n = true ↔ 0 ≤ x.toInt ∧ x.toInt < n := by
  rw [← vp_in_iff]
  constructor
  · exact xin_p
  · intro h
    unfold xin
    rw [Bool.and_eq_true, decide_eq_true_eq, decide_eq_true_eq]
    exact ⟨fun q => h (Or.inl q), Nat.not_le.mp (fun q => h (Or.inr q))⟩
theorem f_isRoot_eq (x : Int32) : f_X9_isRoot x = if 0 ≤ x.toInt ∧ x.toInt < 6 then 1 else 0 := by
  unfold f_X9_isRoot
  by_cases h1 : x < 0
  · rw [if_pos h1, if_neg (fun q => by have := Int32.lt_iff_toInt_lt.mp h1; have h0 : (0 : Int32).toInt = 0 := rfl; omega)]
  · rw [if_neg h1]
    by_cases h2 : (6 : Int32) ≤ x
    · rw [if_pos h2, if_neg (fun q => by have := Int32.le_iff_toInt_le.mp h2; have h0 : (6 : Int32).toInt = 6 := rfl; omega)]
    · rw [if_neg h2, if_pos]
      have h0 : (0 : Int32).toInt = 0 := rfl
      have h6 : (6 : Int32).toInt = 6 := rfl
      have h3 : ¬ x.toInt < 0 := fun q => h1 (Int32.lt_iff_toInt_lt.mpr (by rw [h0]; exact q))
      have h4 : ¬ (6 : Int) ≤ x.toInt := fun q => h2 (Int32.le_iff_toInt_le.mpr (by rw [h6]; exact q))
      omega
theorem i_lt (x y : Int32) : x < y ↔ x.toInt < y.toInt := Int32.lt_iff_toInt_lt
theorem i_le (x y : Int32) : x ≤ y ↔ x.toInt ≤ y.toInt := Int32.le_iff_toInt_le
theorem i_eq (x y : Int32) : x = y ↔ x.toInt = y.toInt := ⟨fun h => by rw [h], fun h => Int32.toInt_inj.mp h⟩
theorem try_simp (x : Int32) (h : ¬ x < 0) (h2 : x < 6) : x.toInt < 6 ∧ 0 ≤ x.toInt := by
  simp only [i_lt, Int32.reduceToInt] at h h2
  omega
theorem try_bmod (x y : Int32) (h : 0 ≤ x.toInt) (h1 : x.toInt < 100) (h2 : 0 ≤ y.toInt) (h3 : y.toInt < 100) : (x + y).toInt = x.toInt + y.toInt := by
  rw [Int32.toInt_add]
  apply Int.bmod_eq_of_le <;> omega
