/-! pack: the counts -/
def ofS (s : hs) (k : Nat) (w : Nat) : Int := if sSz s w = k then 1 else 0
theorem ofS_01 (s : hs) (k w : Nat) : 0 ≤ ofS s k w ∧ ofS s k w ≤ 1 := by unfold ofS; split <;> omega
theorem inD_of (D : Nat → Int) (s : hs) (k w : Nat) : 0 ≤ inD D (ofS s k) w ∧ inD D (ofS s k) w ≤ 1 := by
  have := ofS_01 s k w
  unfold inD; split <;> omega
theorem x_obj_loop {M : xm} {s : hs} (h : RX 1 M s) (o : Ok s) {n : Nat} {F : Nat → Nat} (hn : (M 986 3).toInt = (n : Int)) (n64 : n ≤ 64) (hF : ∀ a, a < n → (M 988 a).toInt = (F a : Int) ∧ F a < 64) {x2 : Int32} {k : Nat} (h2 : x2.toInt = (k : Int)) : ∀ (d i f : Nat) (x y : Int32), i + d = n → d < f → x.toInt = sm (fun a => ofS s k (F a)) i → y.toInt = (i : Int) → ∃ r, g_X6_objectsOf_5 1 M x2 f x y = some r ∧ r.toInt = sm (fun a => ofS s k (F a)) n := by
  intro d
  induction d with
  | zero =>
    intro i f x y hi hf hx hy
    obtain ⟨f, rfl⟩ : ∃ q, f = q + 1 := ⟨f - 1, by omega⟩
    have e : i = n := by omega
    subst e
    unfold g_X6_objectsOf_5
    rw [if_pos (by rw [i_le, hy, hn]; omega)]
    exact ⟨x, rfl, hx⟩
  | succ d ih =>
    intro i f x y hi hf hx hy
    obtain ⟨f, rfl⟩ : ∃ q, f = q + 1 := ⟨f - 1, by omega⟩
    have ny : (y + 1).toInt = ((i + 1 : Nat) : Int) := by rw [i_add hy (b := 1) rfl (by omega) (by omega)]; omega
    have b := sm_01 (f := fun a => ofS s k (F a)) (z := 1) i (fun j _ => ofS_01 s k (F j))
    have e : sm (fun a => ofS s k (F a)) (i + 1) = sm (fun a => ofS s k (F a)) i + ofS s k (F i) := rfl
    obtain ⟨f1, f2⟩ := hF i (by omega)
    obtain ⟨w, w1, w2⟩ := x_sizeAt h o f1 f2
    unfold g_X6_objectsOf_5
    rw [if_neg (by rw [i_le, hy, hn]; omega), if_neg (c := (64 : Int32) ≤ y) (by rw [i_le, hy]; simp only [Int32.reduceToInt]; omega), if_pos (i_in hy (by omega)), i_ix hy, show M (986 + 2) i = M 988 i from rfl, w1, xb1_some]
    by_cases c : sSz s (F i) = k
    · rw [if_pos (by rw [i_eq, w2, h2, c]), xlet_eq, xlet_eq]
      refine ih (i + 1) f (x + 1) (y + 1) (by omega) (by omega) ?_ ny
      rw [i_add hx (b := 1) rfl (by omega) (by omega), e]
      unfold ofS; rw [if_pos c]
    · rw [if_neg (by rw [i_eq, w2, h2]; omega), xlet_eq]
      refine ih (i + 1) f x (y + 1) (by omega) (by omega) ?_ ny
      rw [hx, e]
      unfold ofS; rw [if_neg c]; omega
theorem y_p7 : ∀ (k n f : Nat) (M : xm) (y : Int32), (∀ w, w < n → M 11 w = 0) → n + k = 5 → k < f → y.toInt = (n : Int) → ∃ M', g_X10_pack_7 f M y = some M' ∧ (∀ w, w < 5 → M' 11 w = 0) ∧ ∀ q, q ≠ 11 → M' q = M q := by
  intro k
  induction k with
  | zero =>
    intro v f M y h hk hf hy
    obtain ⟨f, rfl⟩ : ∃ q, f = q + 1 := ⟨f - 1, by omega⟩
    unfold g_X10_pack_7
    rw [if_pos (by rw [i_le, hy]; simp only [Int32.reduceToInt]; omega)]
    exact ⟨M, rfl, fun w hw => h w (by omega), fun _ _ => rfl⟩
  | succ k ih =>
    intro v f M y h hk hf hy
    obtain ⟨f, rfl⟩ : ∃ q, f = q + 1 := ⟨f - 1, by omega⟩
    unfold g_X10_pack_7
    rw [if_neg (by rw [i_le, hy]; simp only [Int32.reduceToInt]; omega), if_pos (i_in hy (by omega)), i_ix hy, xlet_eq, xlet_eq]
    obtain ⟨M', k1, k2, k3⟩ := ih (v + 1) f (up2 M 11 v 0) (y + 1) (fun w hw => by
      rw [up2_row]
      split
      · rfl
      · exact h w (by omega)) (by omega) (by omega) (by rw [i_add hy (b := 1) rfl (by omega) (by omega)]; omega)
    exact ⟨M', k1, k2, fun q hq => (k3 q hq).trans (up2_cell hq)⟩
theorem y_p27 {s : hs} (o : Ok s) {D : Nat → Int} (hH : ∀ w, D w ≠ -1 → 1000 ≤ s 1 w) : ∀ (k i f : Nat) (M : xm) (y : Int32), RY M s → dM 10 M = D → (∀ j, j < 5 → (M 11 j).toInt = sm (inD D (ofS s j)) i) → i + k = 64 → k < f → y.toInt = (i : Int) → ∃ M', g_X10_pack_27 f M y = some M' ∧ (∀ j, j < 5 → (M' 11 j).toInt = sm (inD D (ofS s j)) 64) ∧ ∀ q, q ≠ 11 → M' q = M q := by
  intro k
  induction k with
  | zero =>
    intro i f M y h hD hM hk hf hy
    obtain ⟨f, rfl⟩ : ∃ q, f = q + 1 := ⟨f - 1, by omega⟩
    have e : i = 64 := by omega
    subst e
    unfold g_X10_pack_27
    rw [if_pos (by rw [i_le, hy]; simp only [Int32.reduceToInt]; omega)]
    exact ⟨M, rfl, hM, fun _ _ => rfl⟩
  | succ k ih =>
    intro i f M y h hD hM hk hf hy
    obtain ⟨f, rfl⟩ : ∃ q, f = q + 1 := ⟨f - 1, by omega⟩
    have i64 : i < 64 := by omega
    have ny : (y + 1).toInt = ((i + 1 : Nat) : Int) := by rw [i_add hy (b := 1) rfl (by omega) (by omega)]; omega
    have e : ∀ j, sm (inD D (ofS s j)) (i + 1) = sm (inD D (ofS s j)) i + inD D (ofS s j) i := fun _ => rfl
    unfold g_X10_pack_27
    rw [if_neg (by rw [i_le, hy]; simp only [Int32.reduceToInt]; omega), if_pos (i_in hy i64), i_ix hy]
    by_cases c : D i = -1
    · rw [if_pos ((dM_n1 i64).mpr (by rw [hD]; exact c)), xlet_eq]
      refine ih (i + 1) f M (y + 1) h hD (fun j hj => ?_) (by omega) (by omega) ny
      have e2 : inD D (ofS s j) i = 0 := by unfold inD; rw [if_pos c]
      rw [hM j hj, e, e2]; omega
    · obtain ⟨r, r1, r2⟩ := y_size h o hy i64 (hH i c)
      have r2 : r.toInt = ((sSz s i : Nat) : Int) := r2
      have s4 := sSz_le o i64
      rw [if_neg (fun q => c (by rw [← hD]; exact (dM_n1 i64).mp q)), r1, xb1_some, if_pos (i_in r2 (by omega)), i_ix r2, xlet_eq, xlet_eq]
      obtain ⟨M', k1, k2, k3⟩ := ih (i + 1) f (up2 M 11 (sSz s i) (M 11 (sSz s i) + 1)) (y + 1) (by show RYr _ s; rw [up2_cell (by decide)]; exact h) (by rw [dM_fr (M := M) (up2_cell (by decide))]; exact hD) (fun j hj => by
        have b := sm_01 (f := inD D (ofS s j)) (z := 1) i (fun w _ => inD_of D s j w)
        have e2 : inD D (ofS s j) i = ofS s j i := by unfold inD; rw [if_neg c]
        rw [up2_row, e, e2]
        unfold ofS
        by_cases cj : j = sSz s i
        · rw [if_pos cj, if_pos cj.symm, ← cj, i_add (hM j hj) (b := 1) rfl (by omega) (by omega)]; rfl
        · rw [if_neg cj, if_neg (fun q => cj q.symm), hM j hj]; unfold ofS; omega) (by omega) (by omega) ny
      exact ⟨M', k1, k2, fun q hq => (k3 q hq).trans (up2_cell hq)⟩
theorem sz_sum {s : hs} (o : Ok s) {D : Nat → Int} (hH : ∀ w, D w ≠ -1 → 1000 ≤ s 1 w) : ∀ n : Nat, n ≤ 64 → sm (inD D (szI s)) n = sm (inD D (ofS s 1)) n + 2 * sm (inD D (ofS s 2)) n + 3 * sm (inD D (ofS s 3)) n + 4 * sm (inD D (ofS s 4)) n ∧ sm (inD D (ofS s 1)) n + sm (inD D (ofS s 2)) n + sm (inD D (ofS s 3)) n + sm (inD D (ofS s 4)) n ≤ n := by
  intro n
  induction n with
  | zero => intro _; rw [sm, sm, sm, sm, sm]; omega
  | succ n ih =>
    intro hn
    have a := ih (by omega)
    have h4 := sSz_le o (show n < 64 by omega)
    have key : inD D (szI s) n = inD D (ofS s 1) n + 2 * inD D (ofS s 2) n + 3 * inD D (ofS s 3) n + 4 * inD D (ofS s 4) n ∧ inD D (ofS s 1) n + inD D (ofS s 2) n + inD D (ofS s 3) n + inD D (ofS s 4) n ≤ 1 := by
      unfold inD
      by_cases c : D n = -1
      · simp only [if_pos c]; omega
      · simp only [if_neg c]
        have h1 : 1 ≤ sSz s n := by
          have := hH n c
          unfold sSz; rw [if_pos this]; omega
        have hc : sSz s n = 1 ∨ sSz s n = 2 ∨ sSz s n = 3 ∨ sSz s n = 4 := by omega
        unfold szI ofS
        rcases hc with q | q | q | q <;> rw [q] <;> decide
    rw [sm, sm, sm, sm, sm]
    omega
theorem s_pack : sim_pack Rel := by
  intro MX MY LY h
  have hr := h
  obtain ⟨nt, nti, ⟨s, St, n, ru, sd, sp, sk, a1, a2, a3, _⟩, _⟩ := h
  obtain ⟨MX', MY', D, b1, b2, P⟩ := both_take a1 a2 a3.1 (a := -1) (x := -1) rfl
  have ⟨p1, p2, p3, p4, p5, p6, p7, p8, p9⟩ := P
  obtain ⟨n', F, t1, t2, t3, t4, t5, t6, t7⟩ := p1
  have n64 := t7.n.1
  have hH : ∀ w, D w ≠ -1 → 1000 ≤ s 1 w := fun w hw => (p3 w hw).2.1
  obtain ⟨N1, c1, c2, c3⟩ := y_p7 5 0 xfuel MY' 0 (fun w hw => by omega) (by omega) (by unfold xfuel; omega) rfl
  obtain ⟨N2, d1, d2, d3⟩ := y_p27 a3.ok hH 64 0 xfuel N1 0 (by show RYr _ s; rw [c3 1 (by decide)]; exact p6) (by rw [dM_fr (M := MY') (c3 10 (by decide))]; exact p2) (fun j hj => by rw [c2 j hj]; rfl) (by omega) (by unfold xfuel; omega) rfl
  have key := sz_sum a3.ok hH 64 (Nat.le_refl _)
  have nat : ∀ k, ∃ c : Nat, sm (inD D (ofS s k)) 64 = (c : Int) := fun k => ⟨(sm (inD D (ofS s k)) 64).toNat, by have := sm_01 (f := inD D (ofS s k)) (z := 1) 64 (fun w _ => inD_of D s k w); omega⟩
  obtain ⟨k1, e1⟩ := nat 1
  obtain ⟨k2, e2⟩ := nat 2
  obtain ⟨k3, e3⟩ := nat 3
  obtain ⟨k4, e4⟩ := nat 4
  rw [e1, e2, e3, e4] at key
  have obj : ∀ (x : Int32) (k c : Nat), x.toInt = (k : Int) → sm (inD D (ofS s k)) 64 = (c : Int) → ∃ r, f_X6_objectsOf 1 MX' x = some r ∧ r.toInt = (c : Int) := fun x k c hx hc => by
    obtain ⟨r, r1, r2⟩ := x_obj_loop p5 a3.ok t1 n64 t6 hx n' 0 xfuel 0 0 (by omega) (by unfold xfuel; omega) rfl rfl
    refine ⟨r, ?_, by rw [r2, t7.2.2 (ofS s k), hc]⟩
    unfold f_X6_objectsOf
    rw [r1, xb1_some]
  obtain ⟨x2, g2, g2'⟩ := obj 2 2 k2 rfl e2
  obtain ⟨x3, g3, g3'⟩ := obj 3 3 k3 rfl e3
  obtain ⟨x4, g4, g4'⟩ := obj 4 4 k4 rfl e4
  obtain ⟨r, r', l1, l2, l3, l4, l5⟩ := x_few_loop (M := MX') g2' g3' g4' (by omega) (by omega) (by omega) (k3 / 2 + 1) 0 xfuel 64 0 64 (by omega) (by unfold xfuel; omega) rfl (by omega) rfl
  obtain ⟨z, z', m1, m2, m3, m4, m5⟩ := y_p69 ((d2 1 (by omega)).trans e1) ((d2 2 (by omega)).trans e2) ((d2 3 (by omega)).trans e3) ((d2 4 (by omega)).trans e4) (by omega) (k4 / 2 + 1) 0 xfuel 1000000 0 1000000 (by omega) (by unfold xfuel; omega) rfl (by omega) rfl
  have wd : (MX' 986 4).toInt = ((k1 + 2 * k2 + 3 * k3 + 4 * k4 : Nat) : Int) := by
    have t2 : (MX' 986 4).toInt = sm (inD D (szI s)) 64 := t2
    rw [t2, key.1]; omega
  have w8 := k_div (k_sub (k_add wd (y := 8) (b := 8) rfl (by omega)) (y := 1) (b := 1) rfl (by omega) (by omega)) (y := 8) (b := 8) rfl (by omega) (by omega)
  have mx := k_max l2 w8
  have fin : max r' ((k1 + 2 * k2 + 3 * k3 + 4 * k4 + 8 - 1) / 8) = z' := by
    have q0 := m4 0 0 0 ⟨by omega, by omega, by omega⟩
    have q1 := pkV_top (F := 0) (B := 0) (T := 0) (c1 := k1) (c2 := k2) (c3 := k3) (c4 := k4) (by omega) (by omega) (by omega)
    rcases m5 with m5 | ⟨F', B', T', ⟨s1, s2, s3⟩, s4⟩
    · omega
    · have u1 := pkv_ge (c1 := k1) (c2 := k2) s2 s3
      have u2 := l4 T' (by omega) (by omega)
      have u3 : ∃ Q, 2 * Q ≤ k3 ∧ r' = pkF k2 k3 k4 Q := by
        rcases l5 with l5 | l5
        · have := l4 0 (by omega) (by omega)
          refine ⟨0, by omega, ?_⟩
          have f0 : pkF k2 k3 k4 0 ≤ 64 := by unfold pkF; omega
          omega
        · exact l5
      obtain ⟨Q, v1, v2⟩ := u3
      obtain ⟨F2, B2, v3, v4, v5⟩ := pkv_le (c1 := k1) (c2 := k2) (c4 := k4) v1
      have u4 := m4 F2 B2 Q ⟨by omega, v3, v4⟩
      omega
  unfold f_X9_pack f_X10_pack f_X6_fewestPages
  rw [b1, xb1_some, g2, xb1_some, g3, xb1_some, g4, xb1_some, l1, xb1_some, xb1_some, b2, xb1_some, c1, xb1_some, d1, xb1_some, m1, xb1_some, i_inj mx (by rw [m2, fin])]
  exact ⟨z, MX', N2, rfl, rfl, hr.pic (fun q q1 q2 q3 _ => p8 q q1 q2 q3) (fun q q1 q2 _ => ((d3 q q2).trans (c3 q q2)).trans (p9 q q1))⟩
