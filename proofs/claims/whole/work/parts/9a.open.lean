/-! what is open on the pile; whether it is compared -/
/-- the place of the topmost one that is so, below b: b' with b' the place and one more, 0: none -/
def tpP (P : Int → Prop) (p : Nat → Int) (b c : Nat) : Prop := c ≤ b ∧ (∀ j, c ≤ j → j < b → ¬ P (p j)) ∧ (1 ≤ c → P (p (c - 1)))
theorem y_openAt_loop {M : xm} {p : Nat → Int} : ∀ (b f : Nat) (x : Int32) (c : Nat), x.toInt = (b : Int) - 1 → b ≤ 160 → b < f → (∀ j, j < b → (M 5 j).toInt = p j) → tpP (fun z => 40 ≤ z) p b c → ∃ r, g_X10_openAt_7 M f x = some r ∧ r.toInt = (c : Int) - 1 := by
  intro b
  induction b with
  | zero =>
    intro f x c hx hb hf hp ht
    obtain ⟨f, rfl⟩ : ∃ q, f = q + 1 := ⟨f - 1, by omega⟩
    unfold g_X10_openAt_7
    rw [if_pos (by rw [i_lt, hx]; simp only [Int32.reduceToInt]; omega)]
    exact ⟨x, rfl, by rw [hx]; have := ht.1; omega⟩
  | succ b ih =>
    intro f x c hx hb hf hp ht
    obtain ⟨f, rfl⟩ : ∃ q, f = q + 1 := ⟨f - 1, by omega⟩
    have hx2 : x.toInt = (b : Int) := by rw [hx]; omega
    have top := hp b (by omega)
    unfold g_X10_openAt_7
    rw [if_neg (by rw [i_lt, hx]; simp only [Int32.reduceToInt]; omega), if_pos (i_in hx2 (by omega)), i_ix hx2]
    by_cases q : 40 ≤ p b
    · rw [if_pos (by rw [i_le, top]; exact q)]
      have cb : c = b + 1 := by
        rcases Nat.lt_or_ge b c with z | z
        · have := ht.1; omega
        · exact absurd q (ht.2.1 b z (by omega))
      exact ⟨x, rfl, by rw [hx2, cb]; omega⟩
    · rw [if_neg (by rw [i_le, top]; exact q), xlet_eq]
      have cb : c ≤ b := by
        rcases Nat.lt_or_ge b c with z | z
        · have e : c = b + 1 := by have := ht.1; omega
          have := ht.2.2 (by omega)
          rw [e] at this
          exact absurd this q
        · exact z
      exact ih f (x + (-1)) c (by rw [i_add hx2 (b := -1) rfl (by omega) (by omega)]; omega) (by omega) (by omega) (fun j hj => hp j (by omega)) ⟨cb, fun j h1 h2 => ht.2.1 j h1 (by omega), ht.2.2⟩
theorem y_openAt {M : xm} {p : Nat → Int} {b c : Nat} (hb : (M 0 16).toInt = (b : Int)) (h1 : b ≤ 160) (hp : ∀ j, j < b → (M 5 j).toInt = p j) (ht : tpP (fun z => 40 ≤ z) p b c) : ∃ r, f_X10_openAt M = some r ∧ r.toInt = (c : Int) - 1 := by
  obtain ⟨r, r1, r2⟩ := y_openAt_loop b xfuel (M 0 16 - 1) c (i_sub hb (b := 1) rfl (by omega) (by omega)) h1 (by unfold xfuel; omega) hp ht
  refine ⟨r, ?_, r2⟩
  unfold f_X10_openAt
  rw [xlet_eq, r1, xb1_some]
theorem y_openNow {M : xm} {p : Nat → Int} {b c : Nat} (hb : (M 0 16).toInt = (b : Int)) (h1 : b ≤ 160) (hp : ∀ j, j < b → (M 5 j).toInt = p j) (ht : tpP (fun z => 40 ≤ z) p b c) : ∃ r, f_X10_openNow M = some r ∧ r.toInt = if c = 0 then -1 else p (c - 1) := by
  obtain ⟨r, r1, r2⟩ := y_openAt hb h1 hp ht
  have cb := ht.1
  unfold f_X10_openNow
  rw [r1, xb1_some]
  rcases Nat.eq_zero_or_pos c with c0 | c0
  · rw [if_neg (c := 0 ≤ r) (by rw [i_le, r2]; simp only [Int32.reduceToInt]; omega), if_pos c0]
    exact ⟨-1, rfl, rfl⟩
  · have r3 : r.toInt = ((c - 1 : Nat) : Int) := by rw [r2]; omega
    rw [if_pos (c := 0 ≤ r) (by rw [i_le, r2]; simp only [Int32.reduceToInt]; omega), xb1_some, if_pos (i_in r3 (by omega)), i_ix r3, if_neg (show ¬ c = 0 by omega)]
    exact ⟨_, rfl, hp (c - 1) (by omega)⟩
theorem y_cmp_loop {M : xm} {p : Nat → Int} : ∀ (b f : Nat) (x : Int32) (c : Nat), x.toInt = (b : Int) - 1 → b ≤ 160 → b < f → (∀ j, j < b → (M 5 j).toInt = p j) → tpP (fun z => rk z ≤ 4) p b c → ∃ r, g_X10_isCompared_7 M f x = some r ∧ r.toInt = (c : Int) - 1 := by
  intro b
  induction b with
  | zero =>
    intro f x c hx hb hf hp ht
    obtain ⟨f, rfl⟩ : ∃ q, f = q + 1 := ⟨f - 1, by omega⟩
    unfold g_X10_isCompared_7
    rw [if_pos (by rw [i_lt, hx]; simp only [Int32.reduceToInt]; omega)]
    exact ⟨x, rfl, by rw [hx]; have := ht.1; omega⟩
  | succ b ih =>
    intro f x c hx hb hf hp ht
    obtain ⟨f, rfl⟩ : ∃ q, f = q + 1 := ⟨f - 1, by omega⟩
    have hx2 : x.toInt = (b : Int) := by rw [hx]; omega
    have top := y_rank (hp b (by omega))
    have z4 : (4 : Int32).toInt = 4 := rfl
    unfold g_X10_isCompared_7
    rw [if_neg (by rw [i_lt, hx]; simp only [Int32.reduceToInt]; omega), if_pos (i_in hx2 (by omega)), i_ix hx2]
    by_cases q : rk (p b) ≤ 4
    · rw [if_pos (by rw [i_le, top, z4]; exact q)]
      have cb : c = b + 1 := by
        rcases Nat.lt_or_ge b c with z | z
        · have := ht.1; omega
        · exact absurd q (ht.2.1 b z (by omega))
      exact ⟨x, rfl, by rw [hx2, cb]; omega⟩
    · rw [if_neg (by rw [i_le, top, z4]; exact q), xlet_eq]
      have cb : c ≤ b := by
        rcases Nat.lt_or_ge b c with z | z
        · have e : c = b + 1 := by have := ht.1; omega
          have := ht.2.2 (by omega)
          rw [e] at this
          exact absurd this q
        · exact z
      exact ih f (x + (-1)) c (by rw [i_add hx2 (b := -1) rfl (by omega) (by omega)]; omega) (by omega) (by omega) (fun j hj => hp j (by omega)) ⟨cb, fun j h1 h2 => ht.2.1 j h1 (by omega), ht.2.2⟩
theorem y_isCompared {M : xm} {p : Nat → Int} {b c : Nat} (hb : (M 0 16).toInt = (b : Int)) (h1 : b ≤ 160) (hp : ∀ j, j < b → (M 5 j).toInt = p j) (ht : tpP (fun z => rk z ≤ 4) p b c) : f_X10_isCompared M = some (if c ≠ 0 ∧ rk (p (c - 1)) = 4 then 1 else 0) := by
  obtain ⟨r, r1, r2⟩ := y_cmp_loop b xfuel (M 0 16 - 1) c (i_sub hb (b := 1) rfl (by omega) (by omega)) h1 (by unfold xfuel; omega) hp ht
  have cb := ht.1
  unfold f_X10_isCompared
  rw [xlet_eq, r1, xb1_some]
  rcases Nat.eq_zero_or_pos c with c0 | c0
  · rw [if_pos (c := r < 0) (by rw [i_lt, r2]; simp only [Int32.reduceToInt]; omega), if_neg (fun q => q.1 c0)]
  · have r3 : r.toInt = ((c - 1 : Nat) : Int) := by rw [r2]; omega
    have top := y_rank (hp (c - 1) (by omega))
    have z4 : (4 : Int32).toInt = 4 := rfl
    rw [if_neg (c := r < 0) (by rw [i_lt, r2]; simp only [Int32.reduceToInt]; omega), if_pos (i_in r3 (by omega)), i_ix r3]
    by_cases q : rk (p (c - 1)) = 4
    · rw [if_pos (by rw [i_eq, top, z4]; exact q), if_pos ⟨by omega, q⟩]
    · rw [if_neg (by rw [i_eq, top, z4]; exact q), if_neg (fun z => q z.2)]
