/-! one pointer followed -/
theorem y_comeTo {M : xm} {s : hs} (h : RY M s) (o : Ok s) {a b c : Int32} {p : Int} (ha : a.toInt = p) (hp : -1 ≤ p ∧ p ≤ 191) (hh : p ≠ -1 → 1000 ≤ s 1 (sWh s p) ∧ sWh s p < 64) : f_X10_comeTo M a b c = some (if p ≠ -1 ∧ (sWh s p : Int) ≠ c.toInt ∧ M 10 (sWh s p) = -1 then up2 M 10 (sWh s p) b else M) := by
  unfold f_X10_comeTo
  by_cases c0 : p = -1
  · rw [if_neg (c := 0 ≤ a) (by rw [i_le, ha, c0]; decide), if_neg (fun q => q.1 c0)]
  · obtain ⟨h1, h2⟩ := hh c0
    obtain ⟨r, r1, r2⟩ := y_whereOf h o ha (by omega)
    rw [if_pos (c := 0 ≤ a) (by rw [i_le, ha]; simp only [Int32.reduceToInt]; omega), r1, xb1_some, y_isHead h r2 h2, xb1_some, if_pos h1, if_neg n10, i_ix r2]
    by_cases c1 : (sWh s p : Int) = c.toInt
    · rw [if_pos (by rw [i_eq, r2]; exact c1), if_neg (fun q => q.2.1 c1)]
    · rw [if_neg (by rw [i_eq, r2]; exact c1), if_pos (i_in r2 h2), xlet_eq]
      by_cases c2 : M 10 (sWh s p) = -1
      · rw [if_pos c2, if_pos ⟨c0, c1, c2⟩]
      · rw [if_neg c2, if_neg (fun q => c2 q.2.2)]
/-- the class's: slot 3 how many, 4 their words, 5 stale, 6 safe; 987 distances, 988 the row of those found -/
theorem fol_in {M : xm} {s : hs} (h : RX 1 M s) (o : Ok s) {a b c : Int32} {p : Int} {n : Nat} (ha : a.toInt = p) (hp : 0 ≤ p ∧ p ≤ 191) (h1 : 1000 ≤ s 1 (sWh s p)) (h2 : sWh s p < 64) (h3 : s 7 (sWh s p / 8) ≠ 0) (hn : (M 986 3).toInt = (n : Int)) (hn64 : (sWh s p : Int) ≠ c.toInt → M 987 (sWh s p) = -1 → n < 64) : ∃ w : Int32, (xb1 (f_X1_leadsTo 1 M a) (fun v5 => xb1 (f_X1_sizeAt 1 M v5) (fun v8 => (if v8 = 0 then xlet (up2 M 986 6 (0 : Int32)) (fun M11 => some M11) else (if (f_X9_isAddress v5) = 0 then xlet (up2 M 986 6 (0 : Int32)) (fun M14 => some M14) else if xin (v5 / (8 : Int32)) 8 = true then (if (M (1 + 7) (Int32.toNatClampNeg (v5 / (8 : Int32)))) = 0 then xlet (up2 M 986 6 (0 : Int32)) (fun M26 => some M26) else if xin v5 64 = true then (if (M (986 + 1) (Int32.toNatClampNeg v5)) = (-1 : Int32) then (if v5 = c then some M else (if (64 : Int32) ≤ (M 986 3) then some M else xlet (up2 M (986 + 1) (Int32.toNatClampNeg v5) b) (fun M21 => if xin (M21 986 3) 64 = true then xlet (up2 M21 (986 + 2) (Int32.toNatClampNeg (M21 986 3)) v5) (fun M23 => xlet (up2 M23 986 3 ((M23 986 3) + (1 : Int32))) (fun M24 => xlet (up2 M24 986 4 ((M24 986 4) + v8)) (fun M25 => some M25))) else none))) else some M) else none) else none))))) = some (if (sWh s p : Int) ≠ c.toInt ∧ M 987 (sWh s p) = -1 then up2 (up2 (up2 (up2 M 987 (sWh s p) b) 988 n (nI (sWh s p))) 986 3 (M 986 3 + 1)) 986 4 (M 986 4 + w) else M) ∧ w.toInt = (sSz s (sWh s p) : Int) := by
  obtain ⟨r, r1, r2⟩ := x_leadsTo h o ha hp
  obtain ⟨w, w1, w2⟩ := x_sizeAt h o r2 h2
  have sz : 1 ≤ sSz s (sWh s p) := by unfold sSz; rw [if_pos h1]; omega
  have d8 : (r / 8).toInt = ((sWh s p / 8 : Nat) : Int) := by rw [i_div r2 (y := 8) (b := 8) rfl (by omega) (by omega) (by omega)]; omega
  have er : r = nI (sWh s p) := by rw [i_eq, r2, nI_toInt (by omega)]
  refine ⟨w, ?_, w2⟩
  rw [r1, xb1_some, w1, xb1_some, if_neg (c := w = 0) (by rw [i_eq, w2]; simp only [Int32.reduceToInt]; omega), f_isAddress_eq, if_pos (c := 0 ≤ r.toInt ∧ r.toInt < 64) (by omega), if_neg n10, if_pos (i_in d8 (by omega)), i_ix d8, if_neg (by rw [i_eq, h.h (show sWh s p / 8 < 8 by omega)]; exact h3), if_pos (i_in r2 h2), i_ix r2]
  by_cases c2 : M 987 (sWh s p) = -1
  · rw [if_pos (c := M (986 + 1) (sWh s p) = -1) c2]
    by_cases c1 : (sWh s p : Int) = c.toInt
    · rw [if_pos (c := r = c) (by rw [i_eq, r2]; exact c1), if_neg (fun q => q.1 c1)]
    · have hl := hn64 c1 c2
      rw [if_neg (c := r = c) (by rw [i_eq, r2]; exact c1), if_neg (c := (64 : Int32) ≤ M 986 3) (by rw [i_le, hn]; simp only [Int32.reduceToInt]; omega), if_pos ⟨c1, c2⟩]
      simp only [xlet_eq]
      have q1 : up2 M (986 + 1) (sWh s p) b 986 = M 986 := up2_cell (by decide)
      rw [q1, if_pos (i_in hn hl), i_ix hn, ← er]
      rfl
  · rw [if_neg (c := M (986 + 1) (sWh s p) = -1) c2, if_neg (fun q => c2 q.2)]
theorem x_follow {M : xm} {s : hs} (h : RX 1 M s) (o : Ok s) {a b c : Int32} {p : Int} {n : Nat} (ha : a.toInt = p) (hp : -1 ≤ p ∧ p ≤ 191) (hh : p ≠ -1 → 1000 ≤ s 1 (sWh s p) ∧ sWh s p < 64 ∧ s 7 (sWh s p / 8) ≠ 0) (hn : (M 986 3).toInt = (n : Int)) (hn64 : p ≠ -1 → (sWh s p : Int) ≠ c.toInt → M 987 (sWh s p) = -1 → n < 64) : (p = -1 → f_X6_follow 1 M a b c = some M) ∧ (p ≠ -1 → ∃ v w, v = (if p / 64 = s 0 15 then M 986 5 else M 986 5 + 1) ∧ w.toInt = (sSz s (sWh s p) : Int) ∧ f_X6_follow 1 M a b c = some (if (sWh s p : Int) ≠ c.toInt ∧ M 987 (sWh s p) = -1 then up2 (up2 (up2 (up2 (up2 M 986 5 v) 987 (sWh s p) b) 988 n (nI (sWh s p))) 986 3 (M 986 3 + 1)) 986 4 (M 986 4 + w) else up2 M 986 5 v)) := by
  unfold f_X6_follow
  constructor
  · intro c0
    rw [if_neg (c := 0 ≤ a) (by rw [i_le, ha, c0]; decide)]
  · intro c0
    obtain ⟨h1, h2, h3⟩ := hh c0
    have hd := i_div ha (y := 64) (b := 64) rfl (by omega) (by omega) (by omega)
    rw [if_pos (c := 0 ≤ a) (by rw [i_le, ha]; simp only [Int32.reduceToInt]; omega)]
    have hx : ∀ v : Int32, RX 1 (up2 M 986 5 v) s := fun v => h.fr (fun q _ _ => up2_cell (by omega))
    by_cases cc : p / 64 = s 0 15
    · obtain ⟨w, w1, w2⟩ := fol_in (M := M) (b := b) (c := c) h o ha (by omega) h1 h2 h3 hn (hn64 c0)
      refine ⟨M 986 5, w, by rw [if_pos cc], w2, ?_⟩
      rw [up2_id (M := M) (k := 986) (i := 5) rfl, xlet_eq, if_pos (c := a / 64 = M 1 15) (by rw [i_eq, hd, h.good]; exact cc)]
      exact w1
    · obtain ⟨w, w1, w2⟩ := fol_in (M := up2 M 986 5 (M 986 5 + 1)) (b := b) (c := c) (hx _) o ha (by omega) h1 h2 h3 hn (hn64 c0)
      refine ⟨M 986 5 + 1, w, by rw [if_neg cc], w2, ?_⟩
      rw [xlet_eq, if_neg (c := a / 64 = M 1 15) (by rw [i_eq, hd, h.good]; exact cc), xlet_eq]
      exact w1
