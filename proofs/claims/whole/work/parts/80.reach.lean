/-! what is reached, by both -/
abbrev szI (s : hs) (w : Nat) : Int := ((sSz s w : Nat) : Int)
theorem y_size {M : xm} {s : hs} (h : RY M s) (o : Ok s) {a : Int32} {w : Nat} (ha : a.toInt = (w : Int)) (hw : w < 64) (hh : 1000 ≤ s 1 w) : ∃ r, f_X10_sizeOf M a = some r ∧ r.toInt = szI s w := by
  obtain ⟨r, r1, r2⟩ := y_sizeOf h o ha hw
  refine ⟨r, r1, ?_⟩
  unfold szI sSz
  rw [r2, if_pos hh]; omega
theorem inD_sz {s : hs} (o : Ok s) (D : Nat → Int) {i : Nat} (hi : i < 64) : 0 ≤ inD D (szI s) i ∧ inD D (szI s) i ≤ 4 := by
  have := sSz_le o hi
  unfold inD szI; split <;> omega
theorem y_words_loop {M : xm} {s : hs} {D : Nat → Int} (h : RY M s) (o : Ok s) (hD : dM 10 M = D) (hH : ∀ w, D w ≠ -1 → 1000 ≤ s 1 w) : ∀ (k i f : Nat) (x y : Int32), i + k = 64 → k < f → x.toInt = sm (inD D (szI s)) i → y.toInt = (i : Int) → ∃ r, g_X10_reachedWords_9 M f x y = some r ∧ r.toInt = sm (inD D (szI s)) 64 := by
  intro k
  induction k with
  | zero =>
    intro i f x y hi hf hx hy
    obtain ⟨f, rfl⟩ : ∃ q, f = q + 1 := ⟨f - 1, by omega⟩
    have e : i = 64 := by omega
    subst e
    unfold g_X10_reachedWords_9
    rw [if_pos (by rw [i_le, hy]; simp only [Int32.reduceToInt]; omega)]
    exact ⟨x, rfl, hx⟩
  | succ k ih =>
    intro i f x y hi hf hx hy
    obtain ⟨f, rfl⟩ : ∃ q, f = q + 1 := ⟨f - 1, by omega⟩
    have ny : (y + 1).toInt = ((i + 1 : Nat) : Int) := by rw [i_add hy (b := 1) rfl (by omega) (by omega)]; omega
    have b := sm_01 (f := inD D (szI s)) (z := 4) i (fun j hj => inD_sz o D (by omega))
    have b2 := inD_sz o D (i := i) (by omega)
    have e : sm (inD D (szI s)) (i + 1) = sm (inD D (szI s)) i + inD D (szI s) i := rfl
    unfold g_X10_reachedWords_9
    rw [if_neg (by rw [i_le, hy]; simp only [Int32.reduceToInt]; omega), if_pos (i_in hy (by omega)), i_ix hy]
    by_cases c : D i = -1
    · have e2 : inD D (szI s) i = 0 := by unfold inD; rw [if_pos c]
      rw [if_pos ((dM_n1 (show i < 64 by omega)).mpr (by rw [hD]; exact c)), xlet_eq, xlet_eq]
      exact ih (i + 1) f (x + 0) (y + 1) (by omega) (by omega) (by rw [i_add hx (b := 0) rfl (by omega) (by omega), e, e2]) ny
    · have e2 : inD D (szI s) i = szI s i := by unfold inD; rw [if_neg c]
      obtain ⟨r, r1, r2⟩ := y_size h o hy (show i < 64 by omega) (hH i c)
      rw [if_neg (fun q => c (by rw [← hD]; exact (dM_n1 (show i < 64 by omega)).mp q)), r1, xb1_some, xlet_eq, xlet_eq]
      exact ih (i + 1) f (x + r) (y + 1) (by omega) (by omega) (by rw [i_add hx r2 (by omega) (by omega), e, e2]) ny
theorem y_count_loop {M : xm} {D : Nat → Int} {u v : Int32} (hD : dM 10 M = D) : ∀ (k i f : Nat) (x y : Int32), i + k = 64 → k < f → x.toInt = sm (inD D (fun _ => 1)) i → y.toInt = (i : Int) → ∃ r, g_X10_reach_11 M u v f x y = some r ∧ r.toInt = sm (inD D (fun _ => 1)) 64 := by
  intro k
  induction k with
  | zero =>
    intro i f x y hi hf hx hy
    obtain ⟨f, rfl⟩ : ∃ q, f = q + 1 := ⟨f - 1, by omega⟩
    have e : i = 64 := by omega
    subst e
    unfold g_X10_reach_11
    rw [if_pos (by rw [i_le, hy]; simp only [Int32.reduceToInt]; omega)]
    exact ⟨x, rfl, hx⟩
  | succ k ih =>
    intro i f x y hi hf hx hy
    obtain ⟨f, rfl⟩ : ∃ q, f = q + 1 := ⟨f - 1, by omega⟩
    have ny : (y + 1).toInt = ((i + 1 : Nat) : Int) := by rw [i_add hy (b := 1) rfl (by omega) (by omega)]; omega
    have b := sm_01 (f := inD D (fun _ => 1)) (z := 1) i (fun j hj => by unfold inD; split <;> simp)
    have e : sm (inD D (fun _ => 1)) (i + 1) = sm (inD D (fun _ => 1)) i + inD D (fun _ => 1) i := rfl
    unfold g_X10_reach_11
    rw [if_neg (by rw [i_le, hy]; simp only [Int32.reduceToInt]; omega), if_pos (i_in hy (by omega)), i_ix hy]
    by_cases c : D i = -1
    · have e2 : inD D (fun _ => 1) i = 0 := by unfold inD; rw [if_pos c]
      rw [if_pos ((dM_n1 (show i < 64 by omega)).mpr (by rw [hD]; exact c)), xlet_eq, xlet_eq]
      exact ih (i + 1) f (x + 0) (y + 1) (by omega) (by omega) (by rw [i_add hx (b := 0) rfl (by omega) (by omega), e, e2]) ny
    · have e2 : inD D (fun _ => 1) i = 1 := by unfold inD; rw [if_neg c]
      rw [if_neg (fun q => c (by rw [← hD]; exact (dM_n1 (show i < 64 by omega)).mp q)), xlet_eq, xlet_eq]
      exact ih (i + 1) f (x + 1) (y + 1) (by omega) (by omega) (by rw [i_add hx (b := 1) rfl (by omega) (by omega), e, e2]) ny
/-- the words that are reached, by both -/
theorem both_words {MX MY : xm} {s : hs} (h : RX 1 MX s) (hy : RY MY s) (ho : Inv s) {a : Int32} {x : Int} (ha : a.toInt = x) : ∃ MX' MY' D r, f_X6_take 1 MX a = some MX' ∧ f_X10_reachedWords MY a = some (r, MY') ∧ MX' 986 4 = r ∧ Pic MX MY MX' MY' s D x := by
  obtain ⟨MX', MY', D, a1, a2, P⟩ := both_take h hy ho ha
  obtain ⟨G, hi⟩ := ho
  have o := hi.1
  have ⟨p1, p2, p3, p4, p5, p6, p7, p8, p9⟩ := P
  obtain ⟨n, F, t1, t2, t3, t4, t5, t6, t7⟩ := p1
  obtain ⟨r, r1, r2⟩ := y_words_loop p6 o p2 (fun w hw => (p3 w hw).2.1) 64 0 xfuel 0 0 (by omega) (by unfold xfuel; omega) rfl rfl
  refine ⟨MX', MY', D, r, a1, ?_, i_inj t2 r2, P⟩
  unfold f_X10_reachedWords
  rw [a2, xb1_some, r1, xb1_some]
theorem both_reached {MX MY : xm} {s : hs} (h : RX 1 MX s) (hy : RY MY s) (ho : Inv s) (a : Int32) : ∃ MX' MY' D r, f_X9_isReached MX a = some (r, MX') ∧ f_X10_isReached MY a = some (r, MY') ∧ (r = 0 ∨ (r = 1 ∧ ∃ w : Nat, a.toInt = (w : Int) ∧ w < 64 ∧ D w ≠ -1)) ∧ Pic MX MY MX' MY' s D (-1) := by
  obtain ⟨MX', MY', D, a1, a2, P⟩ := both_take h hy ho (a := -1) (x := -1) rfl
  have ⟨p1, p2, p3, p4, p5, p6, p7, p8, p9⟩ := P
  obtain ⟨n, F, t1, t2, t3, t4, t5, t6, t7⟩ := p1
  unfold f_X9_isReached f_X10_isReached
  rw [a1, xb1_some, a2, xb1_some, f_isAddress_eq]
  by_cases c : 0 ≤ a.toInt ∧ a.toInt < 64
  · obtain ⟨w, hw⟩ : ∃ w : Nat, a.toInt = w := ⟨a.toInt.toNat, by omega⟩
    have w64 : w < 64 := by omega
    rw [if_pos c, if_neg n10, if_pos (i_in hw w64), if_pos (i_in hw w64), i_ix hw, y_isHead p6 hw w64, xb1_some]
    by_cases cd : D w = -1
    · rw [if_pos (c := MX' (986 + 1) w = -1) ((dM_n1 w64).mpr (by rw [t5]; exact cd)), if_pos (c := MY' 10 w = -1) ((dM_n1 w64).mpr (by rw [p2]; exact cd))]
      refine ⟨MX', MY', D, 0, rfl, ?_, Or.inl rfl, P⟩
      split <;> rfl
    · rw [if_neg (c := MX' (986 + 1) w = -1) (fun q => cd (by rw [← t5]; exact (dM_n1 w64).mp q)), if_neg (c := MY' 10 w = -1) (fun q => cd (by rw [← p2]; exact (dM_n1 w64).mp q)), if_pos (p3 w cd).2.1, if_neg n10]
      exact ⟨MX', MY', D, 1, rfl, rfl, Or.inr ⟨rfl, w, hw, w64, cd⟩, P⟩
  · rw [if_neg c, if_pos rfl, y_isHead0 (by omega), xb1_some, if_pos rfl]
    exact ⟨MX', MY', D, 0, rfl, rfl, Or.inl rfl, P⟩
theorem Rel.pic {MX MY MX' MY' : xm} {LY LY' : xn} (h : Rel MX MY LY) (h1 : ∀ q, q ≠ 986 → q ≠ 987 → q ≠ 988 → q ≠ 989 → MX' q = MX q) (h2 : ∀ q, q ≠ 10 → q ≠ 11 → q ≠ 12 → MY' q = MY q) : Rel MX' MY' LY' := h.look (fun q hq => h1 q (by omega) (by omega) (by omega) (by omega)) (fun q hq => h2 q (by omega) (by omega) (by omega))
theorem s_reached : sim_reached Rel := by
  intro MX MY LY a0 h
  have hr := h
  obtain ⟨nt, nti, ⟨s, St, n, ru, sd, sp, sk, a1, a2, a3, _⟩, _⟩ := h
  obtain ⟨MX', MY', D, r, b1, b2, b3, P⟩ := both_reached a1 a2 a3.1 a0
  unfold f_X9_reached f_X10_reached
  rw [b1, b2, xb2_some, xb2_some]
  exact ⟨r, MX', MY', rfl, rfl, hr.pic (fun q q1 q2 q3 _ => P.2.2.2.2.2.2.2.1 q q1 q2 q3) (fun q q1 _ _ => P.2.2.2.2.2.2.2.2 q q1)⟩
theorem s_far : sim_far Rel := by
  intro MX MY LY a0 h
  have hr := h
  obtain ⟨nt, nti, ⟨s, St, n, ru, sd, sp, sk, a1, a2, a3, _⟩, _⟩ := h
  obtain ⟨MX', MY', D, r, b1, b2, b3, P⟩ := both_reached a1 a2 a3.1 a0
  have rel : Rel MX' MY' LY := hr.pic (fun q q1 q2 q3 _ => P.2.2.2.2.2.2.2.1 q q1 q2 q3) (fun q q1 _ _ => P.2.2.2.2.2.2.2.2 q q1)
  unfold f_X9_far f_X10_far
  rw [b1, b2, xb2_some, xb2_some]
  rcases b3 with rfl | ⟨rfl, w, hw, w64, cd⟩
  · exact ⟨-1, MX', MY', rfl, rfl, rel⟩
  · have ⟨p1, p2, p3, p4, p5, p6, p7, p8, p9⟩ := P
    obtain ⟨n', F, t1, t2, t3, t4, t5, t6, t7⟩ := p1
    rw [if_neg n10, if_neg n10, if_pos (i_in hw w64), if_pos (i_in hw w64), i_ix hw]
    have e : MX' (986 + 1) w = MY' 10 w := i_inj (z := D w) (by rw [← t5, dM_lt w64]) (by rw [← p2, dM_lt w64])
    rw [e]
    exact ⟨_, MX', MY', rfl, rfl, rel⟩
theorem s_reach : sim_reach Rel := by
  intro MX MY LY a0 h
  have hr := h
  obtain ⟨nt, nti, ⟨s, St, n, ru, sd, sp, sk, a1, a2, a3, _⟩, _⟩ := h
  obtain ⟨MX', MY', D, r, b1, b2, b3, P⟩ := both_words a1 a2 a3.1 (a := -1) (x := -1) rfl
  have rel : Rel MX' MY' LY := hr.pic (fun q q1 q2 q3 _ => P.2.2.2.2.2.2.2.1 q q1 q2 q3) (fun q q1 _ _ => P.2.2.2.2.2.2.2.2 q q1)
  have ⟨p1, p2, p3, p4, p5, p6, p7, p8, p9⟩ := P
  obtain ⟨n', F, t1, t2, t3, t4, t5, t6, t7⟩ := p1
  obtain ⟨c, c1, c2⟩ := y_count_loop (u := a0) (v := r) p2 64 0 xfuel 0 0 (by omega) (by unfold xfuel; omega) rfl rfl
  have e := t7.2.2 (fun _ => 1)
  rw [sm_const] at e
  unfold f_X9_reach f_X10_reach
  rw [b1, xb1_some, b2, xb2_some, c1, xb1_some, b3, i_inj (x := MX' 986 3) (y := c) (z := n') t1 (by rw [c2]; omega)]
  by_cases c0 : a0 = 0
  · rw [if_pos c0, if_pos c0]
    exact ⟨c, MX', MY', rfl, rfl, rel⟩
  · rw [if_neg c0, if_neg c0]
    exact ⟨r, MX', MY', rfl, rfl, rel⟩
theorem s_retained : sim_retained Rel := by
  intro MX MY LY a0 h
  have hr := h
  obtain ⟨nt, nti, ⟨s, St, n, ru, sd, sp, sk, a1, a2, a3, _⟩, _⟩ := h
  obtain ⟨MX', MY', D, r, b1, b2, b3, P⟩ := both_reached a1 a2 a3.1 a0
  have rel : Rel MX' MY' LY := hr.pic (fun q q1 q2 q3 _ => P.2.2.2.2.2.2.2.1 q q1 q2 q3) (fun q q1 _ _ => P.2.2.2.2.2.2.2.2 q q1)
  unfold f_X9_retained f_X10_retained
  rw [b1, b2, xb2_some, xb2_some]
  rcases b3 with rfl | ⟨rfl, w, hw, w64, cd⟩
  · exact ⟨-1, MX', MY', rfl, rfl, rel⟩
  · have ⟨p1, p2, p3, p4, p5, p6, p7, p8, p9⟩ := P
    obtain ⟨M2, N2, D2, r2, c1, c2, c3, P2⟩ := both_words p5 p6 a3.1 (a := -1) (x := -1) rfl
    obtain ⟨M3, N3, D3, r3, d1, d2, d3, P3⟩ := both_words p5 P2.2.2.2.2.2.1 a3.1 (a := a0) rfl
    have e : MX' 986 4 = r2 := by
      obtain ⟨n1, F1, u1, u2, u3, u4, u5, u6, u7⟩ := p1
      obtain ⟨n2, F2, v1, v2, v3, v4, v5, v6, v7⟩ := P2.1
      have k3 : D = D2 := funext (fun w => p7.one P2.2.2.2.2.2.2.1 w)
      rw [← c3]
      exact i_inj u2 (by rw [k3]; exact v2)
    rw [if_neg n10, if_neg n10, xlet_eq, e, c2, xb2_some, d1, xb1_some, d2, xb2_some, d3]
    exact ⟨r2 - r3, M3, N3, rfl, rfl, rel.pic (fun q q1 q2 q3 _ => P3.2.2.2.2.2.2.2.1 q q1 q2 q3) (fun q q1 _ _ => (P3.2.2.2.2.2.2.2.2 q q1).trans (P2.2.2.2.2.2.2.2.2 q q1))⟩
