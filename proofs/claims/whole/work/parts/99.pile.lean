/-! the reference's pile -/
def rk (z : Int) : Int := if z < 40 then (if z = 22 then 1 else if z = 21 then 2 else if z = 20 then 3 else if z < 10 then (if z < 8 then (if z < 6 then 7 else 5) else 6) else 4) else 0
theorem y_rank {x : Int32} {z : Int} (h : x.toInt = z) : (f_X10_rank x).toInt = rk z := by
  unfold f_X10_rank rk
  simp only [i_lt, i_eq, h, Int32.reduceToInt]
  repeat' split
  all_goals first | rfl | omega
theorem rk_in (z : Int) : 0 ≤ rk z ∧ rk z ≤ 7 := by
  unfold rk
  repeat' split
  all_goals omega
/-- text t, b on the pile, w written, op open -/
def YQ (M : xm) (t b w : Nat) (op : Int) : Prop := (M 0 12).toInt = ((705 * t : Nat) : Int) ∧ t < 4 ∧ (M 0 16).toInt = (b : Int) ∧ (M 0 13).toInt = (w : Int) ∧ (M 0 17).toInt = op
/-- what emitting leaves: rows but 0 and 3, slots of cell 0 but 13 16 17, texts outside the new code -/
def frE (t w w' : Nat) (M M' : xm) : Prop := (∀ q, q ≠ 0 → q ≠ 3 → M' q = M q) ∧ (∀ j, j ≠ 13 → j ≠ 16 → j ≠ 17 → M' 0 j = M 0 j) ∧ ∀ i, (i < 705 * t + 97 + 2 * w ∨ 705 * t + 97 + 2 * w' ≤ i) → M' 3 i = M 3 i
theorem frE.tr {t w w' w'' : Nat} {M M' M'' : xm} (h : frE t w w' M M') (h' : frE t w' w'' M' M'') (h1 : w ≤ w') (h2 : w' ≤ w'') : frE t w w'' M M'' := ⟨fun q a b => (h'.1 q a b).trans (h.1 q a b), fun j a b c => (h'.2.1 j a b c).trans (h.2.1 j a b c), fun i hi => (h'.2.2 i (by omega)).trans (h.2.2 i (by omega))⟩
theorem y_emit {M : xm} {t b w : Nat} {op : Int} (h : YQ M t b w op) (hw : w < 304) {a1 a2 : Int32} : ∃ M', f_X10_emit M a1 a2 = some M' ∧ YQ M' t b (w + 1) op ∧ M' 3 (705 * t + 97 + 2 * w) = a1 ∧ M' 3 (705 * t + 97 + 2 * w + 1) = a2 ∧ frE t w (w + 1) M M' := by
  obtain ⟨h1, h2, h3, h4, h5⟩ := h
  have e1 : (M 0 12 + 97).toInt = ((705 * t + 97 : Nat) : Int) := k_add h1 (y := 97) (b := 97) rfl (by omega)
  have e2 : ((2 : Int32) * M 0 13).toInt = ((2 * w : Nat) : Int) := k_mul2 h4 2 2 rfl (by omega) (by omega)
  have e3 : (M 0 12 + 97 + 2 * M 0 13).toInt = ((705 * t + 97 + 2 * w : Nat) : Int) := k_add e1 e2 (by omega)
  have e4 : (M 0 12 + 97 + 2 * M 0 13 + 1).toInt = ((705 * t + 97 + 2 * w + 1 : Nat) : Int) := k_add e3 (y := 1) (b := 1) rfl (by omega)
  have e5 : (M 0 13 + 1).toInt = ((w + 1 : Nat) : Int) := k_add h4 (y := 1) (b := 1) rfl (by omega)
  have q1 : up2 M 3 (705 * t + 97 + 2 * w) a1 0 = M 0 := up2_cell (by decide)
  have q2 : up2 (up2 M 3 (705 * t + 97 + 2 * w) a1) 3 (705 * t + 97 + 2 * w + 1) a2 0 = M 0 := by rw [up2_cell (by decide), q1]
  refine ⟨up2 (up2 (up2 M 3 (705 * t + 97 + 2 * w) a1) 3 (705 * t + 97 + 2 * w + 1) a2) 0 13 (M 0 13 + 1), ?_, ⟨?_, h2, ?_, ?_, ?_⟩, ?_, ?_, ?_, ?_, ?_⟩
  · unfold f_X10_emit
    rw [if_pos (i_in e3 (by omega)), i_ix e3, xlet_eq, q1, if_pos (i_in e4 (by omega)), i_ix e4, xlet_eq, q2, xlet_eq]
  · rw [up2_ne (by omega), q2]; exact h1
  · rw [up2_ne (by omega), q2]; exact h3
  · rw [up2_same]; exact e5
  · rw [up2_ne (by omega), q2]; exact h5
  · rw [up2_cell (by decide), up2_ne (by omega), up2_same]
  · rw [up2_cell (by decide), up2_same]
  · intro q a b; rw [up2_cell a, up2_cell b, up2_cell b]
  · intro j a b c; rw [up2_ne (by omega), q2]
  · intro i hi; rw [up2_cell (by decide), up2_ne (by omega), up2_ne (by omega)]
def cntO (p : Nat → Int) (b r : Nat) : Int := sm (fun j => if rk (p (b + j)) = 7 ∨ p (b + j) = 20 then 1 else 0) r
theorem y_settle_loop {t b : Nat} {p : Nat → Int} {x : Int32} {lv : Int} (hx : x.toInt = lv) (hb : b = 0 ∨ rk (p (b - 1)) < lv) : ∀ (r f : Nat) (M : xm) (w : Nat) (op : Int), YQ M t (b + r) w op → w + r ≤ 304 → b + r ≤ 160 → -1000 ≤ op - r → op ≤ 1000 → r < f → (∀ j, j < b + r → (M 5 j).toInt = p j) → (∀ j, j < r → lv ≤ rk (p (b + j))) → ∃ M', g_X10_settle_0 x f M = some M' ∧ YQ M' t b (w + r) (op - cntO p b r) ∧ (∀ j, j < r → (M' 3 (705 * t + 97 + 2 * (w + j))).toInt = p (b + r - 1 - j) ∧ M' 3 (705 * t + 97 + 2 * (w + j) + 1) = 0) ∧ frE t w (w + r) M M' := by
  intro r
  induction r with
  | zero =>
    intro f M w op h hw hb1 ho ho2 hf hp hl
    obtain ⟨f, rfl⟩ : ∃ q, f = q + 1 := ⟨f - 1, by omega⟩
    have e : cntO p b 0 = 0 := rfl
    have h3 : (M 0 16).toInt = (b : Int) := h.2.2.1
    refine ⟨M, ?_, by rw [e, Int.sub_zero]; exact h, fun j hj => by omega, fun _ _ _ => rfl, fun _ _ _ _ => rfl, fun _ _ => rfl⟩
    unfold g_X10_settle_0
    rcases Nat.eq_zero_or_pos b with b0 | b0
    · rw [if_pos (c := M 0 16 ≤ 0) (by rw [i_le, h3]; simp only [Int32.reduceToInt]; omega)]
    · have e1 : (M 0 16 - 1).toInt = ((b - 1 : Nat) : Int) := k_sub h3 (y := 1) (b := 1) rfl (by omega) (by omega)
      have lt : rk (p (b - 1)) < lv := by rcases hb with q | q; omega; exact q
      rw [if_neg (c := M 0 16 ≤ 0) (by rw [i_le, h3]; simp only [Int32.reduceToInt]; omega), if_pos (i_in e1 (by omega)), i_ix e1, if_pos (by rw [i_lt, y_rank (hp (b - 1) (by omega)), hx]; exact lt)]
  | succ r ih =>
    intro f M w op h hw hb1 ho ho2 hf hp hl
    obtain ⟨f, rfl⟩ : ∃ q, f = q + 1 := ⟨f - 1, by omega⟩
    obtain ⟨h1, h2, h3, h4, h5⟩ := h
    have e1 : (M 0 16 - 1).toInt = ((b + r : Nat) : Int) := by rw [k_sub h3 (y := 1) (b := 1) rfl (by omega) (by omega)]; omega
    have top := hp (b + r) (by omega)
    have lt := hl r (by omega)
    have q5 : up2 M 0 16 (M 0 16 - 1) 5 = M 5 := up2_cell (by decide)
    have y1 : YQ (up2 M 0 16 (M 0 16 - 1)) t (b + r) w op := ⟨by rw [up2_ne (by omega)]; exact h1, h2, by rw [up2_same]; exact e1, by rw [up2_ne (by omega)]; exact h4, by rw [up2_ne (by omega)]; exact h5⟩
    obtain ⟨M2, m1, m2, m3, m4, m5⟩ := y_emit y1 (a1 := M 5 (b + r)) (a2 := 0) (by omega)
    have f1 : frE t w w M (up2 M 0 16 (M 0 16 - 1)) := ⟨fun q a _ => up2_cell a, fun j _ b' _ => up2_ne (by omega), fun i _ => by rw [up2_cell (by decide)]⟩
    have f2 := f1.tr m5 (Nat.le_refl _) (by omega)
    have m16 : (M2 0 16).toInt = ((b + r : Nat) : Int) := m2.2.2.1
    have M25 : M2 5 = M 5 := f2.1 5 (by decide) (by decide)
    have cs : cntO p b (r + 1) = cntO p b r + if rk (p (b + r)) = 7 ∨ p (b + r) = 20 then 1 else 0 := rfl
    have step : g_X10_settle_0 x (f + 1) M = if f_X10_rank (M 5 (b + r)) = 7 then g_X10_settle_0 x f (up2 M2 0 17 (M2 0 17 - 1)) else if M 5 (b + r) = 20 then g_X10_settle_0 x f (up2 M2 0 17 (M2 0 17 - 1)) else g_X10_settle_0 x f M2 := by
      rw [g_X10_settle_0, if_neg (c := M 0 16 ≤ 0) (by rw [i_le, h3]; simp only [Int32.reduceToInt]; omega), if_pos (i_in e1 (by omega)), i_ix e1, if_neg (by rw [i_lt, y_rank top, hx]; omega), xlet_eq, up2_same, if_pos (i_in e1 (by omega)), i_ix e1, q5, m1, xb1_some, if_pos (i_in m16 (by omega)), i_ix m16, M25, xlet_eq]
    have rest : ∀ (M3 : xm) (o3 : Int), YQ M3 t (b + r) (w + 1) o3 → -1000 ≤ o3 - r → o3 ≤ 1000 → frE t (w + 1) (w + 1) M2 M3 → o3 - cntO p b r = op - cntO p b (r + 1) → ∃ M', g_X10_settle_0 x f M3 = some M' ∧ YQ M' t b (w + (r + 1)) (op - cntO p b (r + 1)) ∧ (∀ j, j < r + 1 → (M' 3 (705 * t + 97 + 2 * (w + j))).toInt = p (b + (r + 1) - 1 - j) ∧ M' 3 (705 * t + 97 + 2 * (w + j) + 1) = 0) ∧ frE t w (w + (r + 1)) M M' := by
      intro M3 o3 y3 o1 o2 f3 oe
      have M35 : M3 5 = M 5 := (f3.1 5 (by decide) (by decide)).trans M25
      obtain ⟨M', k1, k2, k3, k4⟩ := ih f M3 (w + 1) o3 y3 (by omega) (by omega) o1 o2 (by omega) (fun j hj => by rw [M35]; exact hp j (by omega)) (fun j hj => hl j (by omega))
      refine ⟨M', k1, ?_, fun j hj => ?_, ?_⟩
      · rw [oe] at k2
        rw [show w + (r + 1) = w + 1 + r by omega]
        exact k2
      · rcases Nat.eq_zero_or_pos j with j0 | j0
        · rw [j0, show w + 0 = w by omega, k4.2.2 _ (by omega), k4.2.2 _ (by omega), f3.2.2 _ (by omega), f3.2.2 _ (by omega), m3, m4, show b + (r + 1) - 1 - 0 = b + r by omega]
          exact ⟨top, rfl⟩
        · have := k3 (j - 1) (by omega)
          rw [show w + 1 + (j - 1) = w + j by omega, show b + r - 1 - (j - 1) = b + (r + 1) - 1 - j by omega] at this
          exact this
      · rw [show w + (r + 1) = w + 1 + r by omega]
        exact (f2.tr f3 (by omega) (Nat.le_refl _)).tr k4 (by omega) (by omega)
    have dec : YQ (up2 M2 0 17 (M2 0 17 - 1)) t (b + r) (w + 1) (op - 1) := ⟨by rw [up2_ne (by omega)]; exact m2.1, h2, by rw [up2_ne (by omega)]; exact m16, by rw [up2_ne (by omega)]; exact m2.2.2.2.1, by rw [up2_same, i_sub m2.2.2.2.2 (b := 1) rfl (by omega) (by omega)]⟩
    have fdec : frE t (w + 1) (w + 1) M2 (up2 M2 0 17 (M2 0 17 - 1)) := ⟨fun q a _ => up2_cell a, fun j _ _ c => up2_ne (by omega), fun i _ => by rw [up2_cell (by decide)]⟩
    rw [step]
    by_cases c7 : rk (p (b + r)) = 7
    · rw [if_pos (by rw [i_eq, y_rank top, c7]; rfl)]
      rw [if_pos (Or.inl c7)] at cs
      exact rest _ (op - 1) dec (by omega) (by omega) fdec (by omega)
    · rw [if_neg (by rw [i_eq, y_rank top]; exact c7)]
      by_cases c20 : p (b + r) = 20
      · rw [if_pos (by rw [i_eq, top, c20]; rfl)]
        rw [if_pos (Or.inr c20)] at cs
        exact rest _ (op - 1) dec (by omega) (by omega) fdec (by omega)
      · rw [if_neg (by rw [i_eq, top]; exact c20)]
        rw [if_neg (fun q => by rcases q with q | q; exact c7 q; exact c20 q)] at cs
        exact rest M2 op m2 (by omega) (by omega) ⟨fun _ _ _ => rfl, fun _ _ _ _ => rfl, fun _ _ => rfl⟩ (by omega)
