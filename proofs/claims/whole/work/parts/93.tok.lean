/-! the vocabulary; a token at a place -/
def voc : List (List Nat) := [[112, 105, 99, 107, 115], [112, 97, 99, 101, 115], [109, 97, 107, 101], [108, 111, 97, 100], [115, 116, 111, 114, 101], [100, 114, 111, 112], [100, 97, 121], [111, 102], [102, 114, 111, 109], [116, 111], [108, 105, 118, 101], [117, 115, 101, 100], [105, 102], [116, 104, 101, 110], [101, 108, 115, 101], [101, 110, 100], [111, 114], [97, 110, 100], [110, 111, 116], [99, 108, 111, 99, 107], [112, 104, 97, 115, 101], [102, 114, 101, 101], [115, 116, 97, 99, 107], [112, 97, 103, 101], [108, 105, 118, 101, 115], [119, 111, 114, 100, 115], [102, 105, 101, 108, 100, 115]]
def vLn (k : Nat) : Nat := (voc.getD k []).length
def vO (k m : Nat) : Int := (((voc.getD k []).getD m 0 : Nat) : Int)
def vcd (k : Nat) : Nat := wcd (vO k) (vLn k)
theorem vO_let : ∀ k, k < 27 → ∀ m, m < vLn k → lcP (vO k m) := by decide +kernel
theorem vLn_in : ∀ k, k < 27 → 2 ≤ vLn k ∧ vLn k ≤ 6 := by decide +kernel
theorem vcd_ne : ∀ k, k < 27 → ∀ l, l < 27 → vcd k = vcd l → k = l := by decide +kernel
def wkP (B : Nat → Int) (n j e k : Nat) : Prop := k < 27 ∧ e - j = vLn k ∧ ∀ m, m < vLn k → bt B n (j + m) = vO k m
def WkD (B : Nat → Int) (n j e kd : Nat) : Prop := wkP B n j e kd ∨ (kd = 42 ∧ ∀ k, k < 27 → ¬ wkP B n j e k)
theorem wk_code {B : Nat → Int} {n j e k : Nat} (hr : Rn lcP B n j e) (hk : k < 27) : wcd (fun i => bt B n (j + i)) (e - j) = vcd k ↔ wkP B n j e k := by
  constructor
  · intro h
    have := wcd_inj (a := fun i => bt B n (j + i)) (b := vO k) (vLn k) (e - j) (vLn_in k hk).2 (fun i hi => hr.2.1 (j + i) (by omega) (by have := hr.1; omega)) (vO_let k hk) h
    exact ⟨hk, this.1, this.2⟩
  · rintro ⟨_, h2, h3⟩
    have key : ∀ m, m ≤ vLn k → wcd (fun i => bt B n (j + i)) m = wcd (vO k) m := by
      intro m
      induction m with
      | zero => intro _; rfl
      | succ m ih =>
        intro hm
        rw [wcd, wcd, ih (by omega), h3 m (by omega)]
    unfold vcd
    rw [h2]
    exact key _ (Nat.le_refl _)
def sgK (c : Int) : Nat := if c = 60 then 27 else if c = 62 then 28 else if c = 61 then 29 else if c = 35 then 30 else if c = 43 then 31 else if c = 45 then 32 else if c = 42 then 33 else if c = 47 then 34 else if c = 40 then 35 else if c = 41 then 36 else if c = 59 then 37 else 42
def twP (B : Nat → Int) (n j : Nat) : Prop := (bt B n j = 60 ∨ bt B n j = 62) ∧ bt B n (j + 1) = 61
def Tok (B : Nat → Int) (n j kd nm e : Nat) : Prop := (bt B n j = -1 ∧ kd = 41 ∧ e = j) ∨ (dgP (bt B n j) ∧ kd = 40 ∧ Rn dgP B n j e ∧ nm = min 10000 (ynm B n j (e - j))) ∨ (lcP (bt B n j) ∧ Rn lcP B n j e ∧ WkD B n j e kd) ∨ ((0 ≤ bt B n j ∧ ¬ dgP (bt B n j) ∧ ¬ lcP (bt B n j)) ∧ twP B n j ∧ e = j + 2 ∧ kd = if bt B n j = 60 then 38 else 39) ∨ ((0 ≤ bt B n j ∧ ¬ dgP (bt B n j) ∧ ¬ lcP (bt B n j)) ∧ ¬ twP B n j ∧ e = j + 1 ∧ kd = sgK (bt B n j))
def tkc (kd : Nat) : Int := if kd < 27 then 2 else if kd = 27 then 60 else if kd = 28 then 62 else if kd = 29 then 61 else if kd = 30 then 35 else if kd = 31 then 43 else if kd = 32 then 45 else if kd = 33 then 42 else if kd = 34 then 47 else if kd = 35 then 40 else if kd = 36 then 41 else if kd = 37 then 59 else if kd = 38 then 4 else if kd = 39 then 5 else if kd = 40 then 1 else if kd = 41 then 0 else 3
def TkY (M : xm) (L : xn) (kd nm : Nat) : Prop := ((M 0 9).toInt = tkc kd ∨ (kd = 42 ∧ ((M 0 9).toInt = 58 ∨ (M 0 9).toInt = 2))) ∧ (kd = 40 → 0 ≤ (M 0 10).toInt ∧ nm = min 10000 (M 0 10).toInt.toNat) ∧ ((M 0 9).toInt = 2 → ∀ k, k < 27 → ((L 0 11).toInt = (vcd k : Int) ↔ kd = k)) ∧ kd ≤ 42
theorem sgK_in (c : Int) : 27 ≤ sgK c ∧ sgK c ≤ 42 := by
  unfold sgK
  repeat' split
  all_goals omega
theorem ySign : ∀ c, c < 256 → ∃ x : Int32, x = nI c ∧ ((f_X10_isSign x = 0 ∧ sgK (c : Nat) = 42) ∨ (f_X10_isSign x = 1 ∧ ((sgK (c : Nat) = 42 ∧ c = 58) ∨ (sgK (c : Nat) ≠ 42 ∧ tkc (sgK (c : Nat)) = (c : Nat))))) := by
  have key : ∀ c, c < 256 → (decide (f_X10_isSign (nI c) = 0 ∧ sgK (c : Nat) = 42) || decide (f_X10_isSign (nI c) = 1 ∧ sgK (c : Nat) = 42 ∧ c = 58) || decide (f_X10_isSign (nI c) = 1 ∧ sgK (c : Nat) ≠ 42 ∧ tkc (sgK (c : Nat)) = (c : Nat))) = true := by decide +kernel
  intro c hc
  refine ⟨nI c, rfl, ?_⟩
  have := key c hc
  rw [Bool.or_eq_true, Bool.or_eq_true, decide_eq_true_iff, decide_eq_true_iff, decide_eq_true_iff] at this
  rcases this with (h | h) | h
  · exact Or.inl h
  · exact Or.inr ⟨h.1, Or.inl h.2⟩
  · exact Or.inr ⟨h.1, Or.inr h.2⟩
