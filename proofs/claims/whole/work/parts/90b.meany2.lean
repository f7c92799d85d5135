/-! asked -/
theorem mAsk_10 (z y : Int) : mAsk (opC 10) z y = decide (z < y) := by simp [mAsk, opC]
theorem mAsk_11 (z y : Int) : mAsk (opC 11) z y = decide (z ≤ y) := by simp [mAsk, opC]
theorem mAsk_12 (z y : Int) : mAsk (opC 12) z y = decide (y < z) := by simp [mAsk, opC]
theorem mAsk_13 (z y : Int) : mAsk (opC 13) z y = decide (y ≤ z) := by simp [mAsk, opC]
theorem mAsk_14 (z y : Int) : mAsk (opC 14) z y = decide (z = y) := by simp [mAsk, opC]
theorem mAsk_15 (z y : Int) : mAsk (opC 15) z y = decide (z ≠ y) := by simp [mAsk, opC]
theorem ite_ne {P Q : Prop} [Decidable P] {b : Bool} (h : P ↔ ¬ Q) (hb : b = true ↔ Q) : (if P then (0 : Int32) else 1) = if b = true then 1 else 0 := by
  by_cases c : P
  · rw [if_pos c, if_neg (fun q => h.mp c (hb.mp q))]
  · rw [if_neg c]
    by_cases d : b = true
    · rw [if_pos d]
    · exact absurd (h.mpr (fun q => d (hb.mpr q))) c
theorem ite_po {P : Prop} [Decidable P] {b : Bool} (hb : b = true ↔ P) : (if P then (1 : Int32) else 0) = if b = true then 1 else 0 := by
  by_cases c : P
  · rw [if_pos c, if_pos (hb.mpr c)]
  · rw [if_neg c, if_neg (fun q => c (hb.mp q))]
theorem y_asked {a : Int32} {op z y : Int} {x1 x2 : Int64} (ha : a.toInt = op) (hop : 10 ≤ op ∧ op ≤ 15) (h1 : x1.toInt = z) (h2 : x2.toInt = y) : f_X10_isAsked a x1 x2 = if mAsk (opC op) z y = true then 1 else 0 := by
  have hcc : op = 10 ∨ op = 11 ∨ op = 12 ∨ op = 13 ∨ op = 14 ∨ op = 15 := by omega
  unfold f_X10_isAsked
  rcases hcc with rfl | rfl | rfl | rfl | rfl | rfl
  · rw [if_pos (o_is ha 10 rfl), mAsk_10]
    exact ite_ne (Q := z < y) (by rw [lc_ge, h1, h2]; omega) decide_eq_true_iff
  · rw [if_neg (o_lit ha 10 (by decide)), if_pos (o_is ha 11 rfl), mAsk_11]
    exact ite_ne (Q := z ≤ y) (by rw [lc_gt, h1, h2]; omega) decide_eq_true_iff
  · rw [if_neg (o_lit ha 10 (by decide)), if_neg (o_lit ha 11 (by decide)), if_pos (o_is ha 12 rfl), mAsk_12]
    exact ite_ne (Q := y < z) (by rw [lc_le, h1, h2]; omega) decide_eq_true_iff
  · rw [if_neg (o_lit ha 10 (by decide)), if_neg (o_lit ha 11 (by decide)), if_neg (o_lit ha 12 (by decide)), if_pos (o_is ha 13 rfl), mAsk_13]
    exact ite_ne (Q := y ≤ z) (by rw [lc_lt, h1, h2]; omega) decide_eq_true_iff
  · rw [if_neg (o_lit ha 10 (by decide)), if_neg (o_lit ha 11 (by decide)), if_neg (o_lit ha 12 (by decide)), if_neg (o_lit ha 13 (by decide)), if_pos (o_is ha 14 rfl), mAsk_14]
    exact ite_po (by rw [decide_eq_true_iff, lc_eq, h1, h2])
  · rw [if_neg (o_lit ha 10 (by decide)), if_neg (o_lit ha 11 (by decide)), if_neg (o_lit ha 12 (by decide)), if_neg (o_lit ha 13 (by decide)), if_neg (o_lit ha 14 (by decide)), mAsk_15]
    exact ite_ne (Q := z ≠ y) (by rw [lc_eq, h1, h2]; omega) decide_eq_true_iff
theorem VC_ask {pk : Bool} {o v : Nat → Int} {k k1 k2 : Nat} {f g : fn} {op : Int} (hf : VY pk o v k k1 f) (hg : VY pk o v k1 k2 g) (ho : o k2 = op) (hop : 10 ≤ op ∧ op ≤ 15) : VC pk o v k (k2 + 1) (fun s p => mAsk (opC op) (f s p) (g s p)) := by
  have h1 := hf.1
  have h2 := hg.1
  refine ⟨by omega, fun M L s x5 x6 h5 c0 e sub n m hst => ?_⟩
  have ⟨a1, a2, a3, a4, a5, a6, a7, a8, a9, a10, a11, a12, a13, a14⟩ := hst
  obtain ⟨M1, L1, r1, r2, r3, r4, r5, r6⟩ := YEn.two (L := L) hst hf hg (by omega)
  have st1 : YSt o v pk M1 s x5 x6 h5 c0 e sub (n + 1 + 1) m k2 (k2 + 1) := hst.sub (by omega) (Nat.le_refl _) (by omega) (by omega) r6
  have n3 : n < 330 := by omega
  have n4 : n + 1 < 330 := by omega
  have m3 : m < 330 := by omega
  have kk1 : k ≤ k2 := by omega
  have go : YGo x5 x6 M1 L1 (n + 1 + 1) m k2 (up2 M1 8 m (if mAsk (opC op) (f s sub) (g s sub) = true then 1 else 0)) L1 n (m + 1) (k2 + 1) := by
    refine YGo.one st1 (Nat.lt_succ_self _) ?_
    intro fu x7 x8 x9 v17 v19 e7 e8 e17 e19
    rw [ho] at e17
    have q1 : (1 : Int32) < v17 := by rw [i_lt, e17]; simp only [Int32.reduceToInt]; omega
    have q2 : ¬ v17 = 3 := o_lit e17 3 (by simp only [Int32.reduceToInt]; omega)
    have q3 : (5 : Int32) < v17 := by rw [i_lt, e17]; simp only [Int32.reduceToInt]; omega
    have q4 : (10 : Int32) ≤ v17 := by rw [i_le, e17]; simp only [Int32.reduceToInt]; omega
    have q5 : ¬ (20 : Int32) ≤ v17 := by rw [i_le, e17]; simp only [Int32.reduceToInt]; omega
    have e81 : (x8 + 1).toInt = ((m + 1 : Nat) : Int) := k_add e8 (y := 1) (b := 1) rfl (by omega)
    have e71 : (x7 + (-2)).toInt = (n : Int) := by rw [i_add e7 (b := -2) rfl (by omega) (by omega)]; omega
    have e72 : (x7 + (-2) + 1).toInt = ((n + 1 : Nat) : Int) := k_add e71 (y := 1) (b := 1) rfl (Nat.lt_of_lt_of_le n4 (by decide))
    refine ⟨x7 + (-2), x8 + 1, e71, e81, ?_⟩
    rw [if_pos q1, if_neg q2, if_pos q3, if_pos q4, if_neg q5, xlet_eq, if_pos (i_in e71 n3), if_pos (i_in e72 n4), if_pos (i_in e8 m3), i_ix e71, i_ix e72, i_ix e8, y_asked e17 hop r2 r3, xlet_eq, xlet_eq, xlet_eq]
  exact ⟨_, L1, r1.tr go kk1 (Nat.le_succ _), up2_same _ _ _ _, r4, fun i hi => (up2_ne (fun q => Nat.ne_of_lt hi q.2)).trans (r5 i hi), fun q hq => (up2_cell hq).trans (r6 q hq)⟩
