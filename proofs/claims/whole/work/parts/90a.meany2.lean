/-! of two -/
theorem mTwo_6 (z y : Int) : mTwo (opT 6) z y = cl6 (z + y) := by simp [mTwo, opT]
theorem mTwo_7 (z y : Int) : mTwo (opT 7) z y = cl6 (z - y) := by simp [mTwo, opT]
theorem mTwo_8 (z y : Int) : mTwo (opT 8) z y = cl6 (z * y) := by simp [mTwo, opT]
theorem mTwo_9 (z y : Int) : mTwo (opT 9) z y = if y = 0 then 0 else z.tdiv y := by simp [mTwo, opT]
theorem y_two {a : Int32} {op z y : Int} {x1 x2 : Int64} (ha : a.toInt = op) (hop : op = 6 ∨ op = 7 ∨ op = 8 ∨ op = 9) (h1 : x1.toInt = z) (h2 : x2.toInt = y) (hz : -1000000 ≤ z ∧ z ≤ 1000000) (hy : -1000000 ≤ y ∧ y ≤ 1000000) : ∃ r : Int64, f_X10_two a x1 x2 = some r ∧ r.toInt = mTwo (opT op) z y := by
  unfold f_X10_two
  rcases hop with rfl | rfl | rfl | rfl
  · rw [if_pos (o_is ha 6 rfl)]
    exact ⟨_, rfl, by rw [mTwo_6]; exact y_clip (j_add h1 h2 (by omega) (by omega))⟩
  · rw [if_neg (o_lit ha 6 (by decide)), if_pos (o_is ha 7 rfl)]
    exact ⟨_, rfl, by rw [mTwo_7]; exact y_clip (j_sub h1 h2 (by omega) (by omega))⟩
  · have m := mul6 hz hy
    rw [if_neg (o_lit ha 6 (by decide)), if_neg (o_lit ha 7 (by decide)), if_pos (o_is ha 8 rfl)]
    exact ⟨_, rfl, by rw [mTwo_8]; exact y_clip (j_mul h1 h2 (by omega) (by omega))⟩
  · rw [if_neg (o_lit ha 6 (by decide)), if_neg (o_lit ha 7 (by decide)), if_neg (o_lit ha 8 (by decide))]
    have z0 : (0 : Int64).toInt = 0 := rfl
    by_cases c : y = 0
    · rw [if_pos (by rw [lc_eq, h2, z0]; exact c)]
      exact ⟨0, rfl, by rw [mTwo_9, if_pos c]; rfl⟩
    · rw [if_neg (by rw [lc_eq, h2, z0]; exact c), if_pos (by rw [j_eq, h2, z0]; exact c)]
      refine ⟨_, rfl, ?_⟩
      have t := tdiv6 (b := y) hz
      have e : (x1 / x2).toInt = z.tdiv y := by
        rw [Int64.toInt_div, h1, h2]
        apply Int.bmod_eq_of_le <;> omega
      rw [y_clip e, cl6_id t, mTwo_9, if_neg c]
