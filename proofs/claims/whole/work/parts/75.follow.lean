/-! one pointer followed -/
theorem y_comeTo {M : xm} {s : hs} (h : RY M s) (o : Ok s) {a b c : Int32} {p : Int} (ha : a.toInt = p) (hp : -1 ≤ p ∧ p ≤ 191) (hh : p ≠ -1 → 1000 ≤ s 1 (sWh s p) ∧ sWh s p < 64) : f_X10_comeTo M a b c = some (if p ≠ -1 ∧ (sWh s p : Int) ≠ c.toInt ∧ M 10 (sWh s p) = -1 then up2 M 10 (sWh s p) b else M) := by
  unfold f_X10_comeTo
  by_cases c0 : p = -1
  · rw [if_neg (c := 0 ≤ a) (by rw [i_le, ha, c0]; decide), if_neg (fun q => q.1 c0)]
  · obtain ⟨h1, h2⟩ := hh c0
    obtain ⟨r, r1, r2⟩ := y_whereOf h o ha (by omega)
    rw [if_pos (c := 0 ≤ a) (by rw [i_le, ha]; simp only [Int32.reduceToInt]; omega), r1, xb1_some, y_isHead h r2 h2, xb1_some, if_pos h1, if_neg n10, i_ix r2]
    by_cases c1 : (sWh s p : Int) = c.toInt
    · rw [if_pos (by rw [i_eq, r2]; exact c1), if_neg (fun q => q.2.1 c1)]
    · rw [if_neg (by rw [i_eq, r2]; exact c1), if_pos (i_in r2 h2), xlet_eq]
      by_cases c2 : M 10 (sWh s p) = -1
      · rw [if_pos c2, if_pos ⟨c0, c1, c2⟩]
      · rw [if_neg c2, if_neg (fun q => c2 q.2.2)]
