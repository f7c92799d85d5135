/-! the first clause of a kind, in the reference -/
theorem y_clauseOf_loop {M : xm} {a b : Int32} {t c j : Nat} (ha : a.toInt = (t : Int)) (t4 : t < 4) (hb : b.toInt = (j : Int)) (hc : (M 3 (705 * t)).toInt = (c : Int)) (c24 : c ≤ 24) : ∀ (d i f : Nat) (x : Int32), i + d = c → d < f → x.toInt = (i : Int) → (∀ y, y < i → (M 3 (705 * t + 1 + 4 * y)).toInt ≠ (j : Int)) → (∀ q, q < c → (M 3 (705 * t + 1 + 4 * q)).toInt = (j : Int) → (∀ y, y < q → (M 3 (705 * t + 1 + 4 * y)).toInt ≠ (j : Int)) → ∃ r : Int32, g_X10_clauseOf_2 M a b f x = some (Sum.inl r) ∧ r.toInt = (q : Int)) ∧ ((∀ y, y < c → (M 3 (705 * t + 1 + 4 * y)).toInt ≠ (j : Int)) → g_X10_clauseOf_2 M a b f x = some (Sum.inr ())) := by
  have m12 : ((705 : Int32) * a).toInt = ((705 * t : Nat) : Int) := by rw [i_mul (x := 705) (a := 705) rfl ha (by omega) (by omega)]; omega
  have e1 : ((705 : Int32) * a + 1).toInt = ((705 * t + 1 : Nat) : Int) := k_add m12 (y := 1) (b := 1) rfl (by omega)
  have an : ¬ a < 0 := by rw [i_lt, ha]; simp only [Int32.reduceToInt]; omega
  intro d
  induction d with
  | zero =>
    intro i f x hi hf hx hn
    obtain ⟨f, rfl⟩ : ∃ z, f = z + 1 := ⟨f - 1, by omega⟩
    refine ⟨fun q q1 q2 _ => absurd q2 (hn q (by omega)), fun _ => ?_⟩
    unfold g_X10_clauseOf_2
    rw [if_neg an, if_pos (i_in m12 (by omega)), i_ix m12, if_pos (by rw [i_le, hc, hx]; omega)]
  | succ d ih =>
    intro i f x hi hf hx hn
    obtain ⟨f, rfl⟩ : ∃ z, f = z + 1 := ⟨f - 1, by omega⟩
    have e2 : ((4 : Int32) * x).toInt = ((4 * i : Nat) : Int) := k_mul2 hx 4 4 rfl (by omega) (by omega)
    have e3 : ((705 : Int32) * a + 1 + 4 * x).toInt = ((705 * t + 1 + 4 * i : Nat) : Int) := k_add e1 e2 (by omega)
    have step : g_X10_clauseOf_2 M a b (f + 1) x = if M 3 (705 * t + 1 + 4 * i) = b then some (Sum.inl x) else g_X10_clauseOf_2 M a b f (x + 1) := by
      rw [g_X10_clauseOf_2, if_neg an, if_pos (i_in m12 (by omega)), i_ix m12, if_neg (by rw [i_le, hc, hx]; omega), if_pos (i_in e3 (by omega)), i_ix e3, xlet_eq]
    rw [step]
    by_cases k : (M 3 (705 * t + 1 + 4 * i)).toInt = (j : Int)
    · rw [if_pos (by rw [i_eq, k, hb])]
      refine ⟨fun q q1 q2 q3 => ⟨x, rfl, ?_⟩, fun z => absurd k (z i (by omega))⟩
      have qi : q = i := by
        rcases Nat.lt_trichotomy q i with z | z | z
        · exact absurd q2 (hn q z)
        · exact z
        · exact absurd k (q3 i z)
      rw [hx, qi]
    · rw [if_neg (by rw [i_eq, hb]; exact k)]
      refine ih (i + 1) f (x + 1) (by omega) (by omega) (k_add hx (y := 1) (b := 1) rfl (by omega)) (fun y hy => ?_)
      rcases Nat.lt_or_ge y i with z | z
      · exact hn y z
      · rw [show y = i by omega]; exact k
theorem y_clauseOf {M : xm} {a b : Int32} {t c j : Nat} (ha : a.toInt = (t : Int)) (t4 : t < 4) (hb : b.toInt = (j : Int)) (hc : (M 3 (705 * t)).toInt = (c : Int)) (c24 : c ≤ 24) : (∀ q, q < c → (M 3 (705 * t + 1 + 4 * q)).toInt = (j : Int) → (∀ y, y < q → (M 3 (705 * t + 1 + 4 * y)).toInt ≠ (j : Int)) → ∃ r : Int32, f_X10_clauseOf M a b = some r ∧ r.toInt = (q : Int)) ∧ ((∀ y, y < c → (M 3 (705 * t + 1 + 4 * y)).toInt ≠ (j : Int)) → f_X10_clauseOf M a b = some (-1)) := by
  obtain ⟨l1, l2⟩ := y_clauseOf_loop (M := M) ha t4 hb hc c24 c 0 xfuel 0 (by omega) (by unfold xfuel; omega) rfl (fun y hy => by omega)
  unfold f_X10_clauseOf
  refine ⟨fun q q1 q2 q3 => ?_, fun z => ?_⟩
  · obtain ⟨r, r1, r2⟩ := l1 q q1 q2 q3
    exact ⟨r, by rw [r1, xs2_l], r2⟩
  · rw [l2 z, xs2_r]
/-- the names of all sums -/
theorem y_name4 {M : xm} {s : hs} (h : RY M s) : ∃ M', f_X10_name M = some M' ∧ (M' 6 0).toInt = s 0 17 ∧ (M' 6 1).toInt = s 0 14 ∧ (M' 6 2).toInt = ((popc (sFB s) : Nat) : Int) ∧ (M' 6 3).toInt = s 0 13 ∧ ∀ q, q ≠ 6 → M' q = M q := by
  have z1 : up2 (up2 M 6 0 (M 1 4)) 6 1 (M 1 6) 1 = M 1 := by rw [up2_cell (by decide), up2_cell (by decide)]
  have r2 : RY (up2 (up2 M 6 0 (M 1 4)) 6 1 (M 1 6)) s := by
    unfold RY
    rw [z1]
    exact h
  have fp := y_freePages r2
  have bt := y_bits (sFB_lt s)
  have pl := popc_le _ (sFB_lt s)
  refine ⟨up2 (up2 (up2 (up2 M 6 0 (M 1 4)) 6 1 (M 1 6)) 6 2 (nI (popc (sFB s)))) 6 3 (M 1 8), ?_, ?_, ?_, ?_, ?_, fun q hq => ?_⟩
  · unfold f_X10_name
    rw [xlet_eq, up2_cell (show 1 ≠ 6 by decide), xlet_eq, fp, xb1_some, bt, xb1_some, xlet_eq, up2_cell (show 1 ≠ 6 by decide), z1, xlet_eq]
  · rw [up2_ne (by omega), up2_ne (by omega), up2_ne (by omega), up2_same]; exact RYr.clock h
  · rw [up2_ne (by omega), up2_ne (by omega), up2_same]; exact RYr.phase h
  · rw [up2_ne (by omega), up2_same, nI_toInt (by omega)]
  · rw [up2_same]; exact RYr.stacked h
  · rw [up2_cell hq, up2_cell hq, up2_cell hq, up2_cell hq]
theorem y_held {x : Int64} {z : Int} (hx : x.toInt = z) : (f_X10_held x 0 9).toInt = max 0 (min 9 z) := by
  have e0 : ((0 : Int32).toInt64).toInt = 0 := rfl
  have e9 : ((9 : Int32).toInt64).toInt = 9 := rfl
  unfold f_X10_held
  simp only [lc_ge, lc_le, hx, e0, e9]
  by_cases c : 0 ≤ z
  · rw [if_pos c]
    by_cases d : z ≤ 9
    · rw [if_pos d, Int64.toInt_toInt32, hx]
      have : z = 0 ∨ z = 1 ∨ z = 2 ∨ z = 3 ∨ z = 4 ∨ z = 5 ∨ z = 6 ∨ z = 7 ∨ z = 8 ∨ z = 9 := by omega
      rcases this with q | q | q | q | q | q | q | q | q | q <;> rw [q] <;> decide
    · rw [if_neg d]
      have n9 : (9 : Int32).toInt = 9 := rfl
      omega
  · rw [if_neg c]
    have n0 : (0 : Int32).toInt = 0 := rfl
    omega
theorem x_held {v : Int32} {z : Int} (h : v.toInt = z) : (xmax 0 (xmin 9 v)).toInt = max 0 (min 9 z) := by
  have n9 : (9 : Int32).toInt = 9 := rfl
  have n0 : (0 : Int32).toInt = 0 := rfl
  have e : (xmin 9 v).toInt = min 9 z := by
    unfold xmin
    by_cases c : v < 9
    · rw [if_pos c, h]; rw [i_lt, h, n9] at c; omega
    · rw [if_neg c, n9]; rw [i_lt, h, n9] at c; omega
  unfold xmax
  by_cases c : 0 < xmin 9 v
  · rw [if_pos c, e]; rw [i_lt, e, n0] at c; omega
  · rw [if_neg c, n0]; rw [i_lt, e, n0] at c; omega
