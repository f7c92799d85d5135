/-! an image, and back to it -/
theorem lay_loop {o1 o2 : Nat} (ho : o1 ≠ o2) : ∀ (d i f : Nat), i + d = 9878 → d < f → ∀ (M : xm) (x : Int32), x.toInt = (i : Int) → ∃ M', g_X10_layRow_2 o1 o2 f M x = some M' ∧ (∀ q, q ≠ o2 → M' q = M q) ∧ ∀ j, M' o2 j = if i ≤ j ∧ j < 9878 then M o1 j else M o2 j := by
  intro d
  induction d with
  | zero =>
    intro i f hi hf M x hx
    obtain ⟨f, rfl⟩ : ∃ q, f = q + 1 := ⟨f - 1, by omega⟩
    unfold g_X10_layRow_2
    rw [if_pos (by rw [i_le, hx]; simp only [Int32.reduceToInt]; omega)]
    exact ⟨M, rfl, fun _ _ => rfl, fun j => by rw [if_neg (by omega)]⟩
  | succ d ih =>
    intro i f hi hf M x hx
    obtain ⟨f, rfl⟩ : ∃ q, f = q + 1 := ⟨f - 1, by omega⟩
    unfold g_X10_layRow_2
    rw [if_neg (by rw [i_le, hx]; simp only [Int32.reduceToInt]; omega), if_pos (i_in hx (by omega)), i_ix hx, xlet_eq, xlet_eq]
    obtain ⟨M', k1, k2, k3⟩ := ih (i + 1) f (by omega) (by omega) (up2 M o2 i (M o1 i)) (x + 1) (by rw [i_add hx (b := 1) rfl (by omega) (by omega)]; omega)
    refine ⟨M', k1, fun q hq => (k2 q hq).trans (up2_cell hq), fun j => ?_⟩
    rw [k3 j]
    by_cases c1 : i + 1 ≤ j ∧ j < 9878
    · rw [if_pos c1, up2_cell ho, if_pos (by omega)]
    · rw [if_neg c1, up2_row]
      by_cases c2 : j = i
      · rw [if_pos c2, if_pos (by omega), c2]
      · rw [if_neg c2, if_neg (by omega)]
theorem y_layRow {o1 o2 : Nat} (ho : o1 ≠ o2) (M : xm) : ∃ M', f_X10_layRow o1 o2 M = some M' ∧ (∀ q, q ≠ o2 → M' q = M q) ∧ ∀ j, j < 9878 → M' o2 j = M o1 j := by
  obtain ⟨M', k1, k2, k3⟩ := lay_loop ho 9878 0 xfuel (by omega) (by unfold xfuel; omega) M 0 rfl
  refine ⟨M', by unfold f_X10_layRow; rw [k1, xb1_some], k2, fun j hj => by rw [k3, if_pos (by omega)]⟩
theorem x_stOver_loop {b b' n : Nat} (hbb : b + 467 ≤ b' ∨ b' + 467 ≤ b) {St : Nat → hs} (os : ∀ i, i < n → Ok (St i)) (hn : n ≤ 30) {f0 : Nat} (hf0 : f0 < 31) : ∀ (d i f : Nat) (M : xm) (x : Int32), i + d = n → d < f → (M b 2).toInt = (n : Int) → (M b 1).toInt = 0 → (M b' 1).toInt = (f0 : Int) → (∀ j, j < n → RX (rwX b' f0 j) M (St j)) → (∀ j, j < i → RX (rwX b 0 j) M (St j)) → x.toInt = (i : Int) → ∃ M', g_X5_takeOver_15 b b' f M x = some M' ∧ (∀ j, j < n → RX (rwX b 0 j) M' (St j)) ∧ M' b = M b ∧ (∀ q, (q < b + 2 ∨ b + 467 ≤ q) → M' q = M q) := by
  intro d
  induction d with
  | zero =>
    intro i f M x hi hf h2 h1 h1' hs hm hx
    obtain ⟨f, rfl⟩ : ∃ q, f = q + 1 := ⟨f - 1, by omega⟩
    unfold g_X5_takeOver_15
    rw [if_pos (by rw [i_le, h2, hx]; omega)]
    exact ⟨M, rfl, fun j hj => hm j (by omega), rfl, fun _ _ => rfl⟩
  | succ d ih =>
    intro i f M x hi hf h2 h1 h1' hs hm hx
    obtain ⟨f, rfl⟩ : ∃ q, f = q + 1 := ⟨f - 1, by omega⟩
    have r1 := x_row (b := b) (M := M) (f := 0) (i := i) h1 (by omega) hx (by omega)
    have r2 := x_row (b := b') (M := M) (f := f0) (i := i) h1' hf0 hx (by omega)
    have in1 := rwX_in b 0 i
    have in2 := rwX_in b' f0 i
    obtain ⟨M1, k1, k2, k3⟩ := x_takeOver (u0 := rwX b 0 i) (u1 := rwX b' f0 i) (by omega) (hs i (by omega)) (os i (by omega))
    unfold g_X5_takeOver_15
    rw [if_neg (by rw [i_le, h2, hx]; omega), r1, xb1_some, r2, xb1_some]
    simp only [xopt, xlet_eq]
    rw [k1, xb1_some]
    have eb : M1 b = M b := k3 b (by omega)
    have eb' : M1 b' = M b' := k3 b' (by omega)
    obtain ⟨M', q1, q2, q3, q4⟩ := ih (i + 1) f M1 (x + 1) (by omega) (by omega) (by rw [eb]; exact h2) (by rw [eb]; exact h1) (by rw [eb']; exact h1') (fun j hj => by
      have in3 := rwX_in b' f0 j
      exact (hs j hj).fr (fun q a c => k3 q (by omega))) (fun j hj => by
      by_cases z : j = i
      · subst z; exact k2
      · refine (hm j (by omega)).fr (fun q a c => k3 q ?_)
        unfold rwX at a c ⊢
        omega) (by rw [i_add hx (b := 1) rfl (by omega) (by omega)]; omega)
    exact ⟨M', q1, q2, q3.trans eb, fun q hq => (q4 q hq).trans (k3 q (by omega))⟩
theorem x_stOver {b b' n : Nat} (hbb : b + 467 ≤ b' ∨ b' + 467 ≤ b) {M : xm} {St : Nat → hs} (h : StX b' M St n) (os : ∀ i, i < n → Ok (St i)) : ∃ M', f_X5_takeOver b b' M = some M' ∧ StX b M' St n ∧ ∀ q, (q < b ∨ b + 467 ≤ q) → M' q = M q := by
  obtain ⟨h1, h2, h3, h4⟩ := h
  obtain ⟨f0, hf0⟩ : ∃ f : Nat, (M b' 1).toInt = f := ⟨(M b' 1).toInt.toNat, by omega⟩
  have e : ∀ q, q ≠ b → up2 (up2 M b 1 0) b 2 ((up2 M b 1 0) b' 2) q = M q := fun q hq => by rw [up2_cell hq, up2_cell hq]
  have e2 : (up2 (up2 M b 1 0) b 2 ((up2 M b 1 0) b' 2) b 2).toInt = (n : Int) := by rw [up2_same, up2_cell (by omega)]; exact h2
  obtain ⟨M', k1, k2, k3, k4⟩ := x_stOver_loop hbb os h1 (f0 := f0) (by omega) n 0 xfuel (up2 (up2 M b 1 0) b 2 ((up2 M b 1 0) b' 2)) 0 (by omega) (by unfold xfuel; omega) e2 (by rw [up2_ne (by omega), up2_same]; rfl) (by rw [e b' (by omega)]; exact hf0) (fun j hj => by
    have := h4 j hj
    rw [hf0, Int.toNat_natCast] at this
    have in3 := rwX_in b' f0 j
    exact this.fr (fun q a c => e q (by omega))) (fun j hj => absurd hj (by omega)) rfl
  unfold f_X5_takeOver
  rw [xlet_eq, xlet_eq, k1, xb1_some]
  have m1 : (M' b 1).toInt = 0 := by rw [k3, up2_ne (by omega), up2_same]; rfl
  refine ⟨M', rfl, ⟨h1, by rw [k3]; exact e2, by rw [m1]; omega, fun i hi => by rw [m1]; exact k2 i hi⟩, fun q hq => (k4 q (by omega)).trans (e q (by omega))⟩
theorem x_tdOver {u0 u1 nt sd : Nat} (hd : u0 + 3 ≤ u1 ∨ u1 + 3 ≤ u0) {M : xm} {ru : Int} {sp sk : Nat → Int} (h : TdX u1 M nt ru sd sp sk) (h8 : sd ≤ 8) : ∃ M', f_X8_takeOver u0 u1 M = some M' ∧ TdX u0 M' nt ru sd sp sk ∧ ∀ q, (q < u0 ∨ u0 + 3 ≤ q) → M' q = M q := by
  obtain ⟨h1, h2, h3, h4⟩ := h
  unfold f_X8_takeOver
  simp only [xlet_eq]
  obtain ⟨N1, e1⟩ : ∃ N, N = xcopy M (u1 + 1) (u0 + 1) 8 := ⟨_, rfl⟩
  rw [← e1]
  obtain ⟨N2, e2⟩ : ∃ N, N = xcopy N1 (u1 + 2) (u0 + 2) 8 := ⟨_, rfl⟩
  rw [← e2]
  obtain ⟨N3, e3⟩ : ∃ N, N = up2 N2 u0 2 (N2 u1 2) := ⟨_, rfl⟩
  rw [← e3]
  obtain ⟨N4, e4⟩ : ∃ N, N = up2 N3 u0 3 (N3 u1 3) := ⟨_, rfl⟩
  rw [← e4]
  obtain ⟨N5, e5⟩ : ∃ N, N = up2 N4 u0 4 (N4 u1 4) := ⟨_, rfl⟩
  rw [← e5]
  have f1 : ∀ q, q ≠ u0 + 1 → N1 q = M q := fun q hq => by rw [e1, xcp_ne hq]
  have f2 : ∀ q, q ≠ u0 + 2 → N2 q = N1 q := fun q hq => by rw [e2, xcp_ne hq]
  have f3 : ∀ q, q ≠ u0 → N3 q = N2 q := fun q hq => by rw [e3, up2_cell hq]
  have f4 : ∀ q, q ≠ u0 → N4 q = N3 q := fun q hq => by rw [e4, up2_cell hq]
  have f5 : ∀ q, q ≠ u0 → N5 q = N4 q := fun q hq => by rw [e5, up2_cell hq]
  have F2 : N2 u1 = M u1 := by rw [f2 u1 (by omega), f1 u1 (by omega)]
  have F3 : N3 u1 = M u1 := by rw [f3 u1 (by omega)]; exact F2
  have F4 : N4 u1 = M u1 := by rw [f4 u1 (by omega)]; exact F3
  refine ⟨N5, rfl, ⟨?_, ?_, ?_, fun i hi => ?_⟩, fun q hq => by rw [f5 q (by omega), f4 q (by omega), f3 q (by omega), f2 q (by omega), f1 q (by omega)]⟩
  · rw [e5, up2_ne (by omega), e4, up2_ne (by omega), e3, up2_same, F2]; exact h1
  · rw [e5, up2_ne (by omega), e4, up2_same, F3]; exact h2
  · rw [e5, up2_same, F4]; exact h3
  · rw [f5 _ (by omega), f4 _ (by omega), f3 _ (by omega), f5 _ (by omega), f4 _ (by omega), f3 _ (by omega), f2 (u0 + 1) (by omega), e1, xcp_at (n := 8) i (by omega), e2, xcp_at (n := 8) i (by omega), f1 (u1 + 2) (by omega)]
    exact h4 i hi
/-- a picture is laid over another, by both -/
theorem snap_over {u b c u' b' c' : Nat} (h1 : u' + 15 ≤ b' ∧ b' + 467 ≤ c' ∧ c' + 3 ≤ u ∨ c + 3 ≤ u') (h2 : u + 15 ≤ b ∧ b + 467 ≤ c) (h3 : u' + 15 ≤ b' ∧ b' + 467 ≤ c') (h4 : c' + 3 ≤ u ∨ c + 3 ≤ u') {MX MY : xm} {o1 o2 nt : Nat} (ho : o1 ≠ o2) (h : Sna u' b' c' MX (MY o1) nt) : ∃ M1 M2 M3 N, f_X1_takeOver u u' MX = some M1 ∧ f_X5_takeOver b b' M1 = some M2 ∧ f_X8_takeOver c c' M2 = some M3 ∧ f_X10_layRow o1 o2 MY = some N ∧ Sna u b c M3 (N o2) nt ∧ (∀ q, (q < u ∨ c + 3 ≤ q) → M3 q = MX q) ∧ (∀ q, q ≠ o2 → N q = MY q) ∧ M3 u 17 = N o2 4 := by
  obtain ⟨s, St, n, ru, sd, sp, sk, a1, a2, a3, a4, a5, a6, a7, a8, a9⟩ := h
  obtain ⟨M1, k1, k2, k3⟩ := x_takeOver (u0 := u) (u1 := u') (by omega) a1 a3.ok
  have a4' : StX b' M1 St n := a4.fr (fun q _ _ => k3 q (by omega))
  obtain ⟨M2, l1, l2, l3⟩ := x_stOver (b := b) (b' := b') (by omega) a4' (fun i hi => (a6 i hi).ok)
  have a7' : TdX c' M2 nt ru sd sp sk := a7.fr (fun q _ _ => (l3 q (by omega)).trans (k3 q (by omega)))
  obtain ⟨M3, m1, m2, m3⟩ := x_tdOver (u0 := c) (u1 := c') (by omega) a7' a9.2.2.1
  obtain ⟨N, n1, n2, n3⟩ := y_layRow ho MY
  have r3 : RX u M3 s := k2.fr (fun q _ _ => (m3 q (by omega)).trans (l3 q (by omega)))
  have y3 : RYr (N o2) s := a2.fr a3.ok (fun j _ _ => n3 j (by omega))
  refine ⟨M1, M2, M3, N, k1, l1, m1, n1, ⟨s, St, n, ru, sd, sp, sk, r3, y3, a3, l2.fr (fun q _ _ => m3 q (by omega)), ⟨a5.1, by rw [n3 2 (by omega)]; exact a5.2.1, fun i hi => ?_⟩, a6, m2, a8.fr a9.2.2.1 (fun j j1 j2 => n3 j (by omega)) (fun j j1 j2 => n3 j (by omega)), a9⟩, fun q hq => (m3 q (by omega)).trans ((l3 q (by omega)).trans (k3 q (by omega))), n2, i_inj r3.clock y3.clock⟩
  have h30 := a5.1
  refine (a5.2.2 i hi).fr (a6 i hi).ok (fun j j1 j2 => ?_)
  unfold rwY
  exact n3 _ (by omega)
theorem s_image : sim_image Rel := by
  intro MX MY LY h
  obtain ⟨nt, nti, h1, h2, h3, h4, h5⟩ := h
  obtain ⟨M1, M2, M3, N, k1, k2, k3, k4, k5, k6, k7, k8⟩ := snap_over (u := 486) (b := 501) (c := 968) (u' := 1) (b' := 16) (c' := 483) (by omega) (by omega) (by omega) (by omega) (o1 := 1) (o2 := 2) (by decide) h1
  unfold f_X9_image f_X10_image
  rw [k1, xb1_some, k2, xb1_some, k3, xb1_some, k4, xb1_some]
  have s1 : Sna 1 16 483 M3 (N 1) nt := by
    rw [k7 1 (by decide)]
    exact h1.fr (fun q _ _ => k6 q (by omega)) (fun q _ _ => k6 q (by omega)) (fun q _ _ => k6 q (by omega))
  have e17 : M3 1 17 = N 1 4 := by
    obtain ⟨s, St, n, ru, sd, sp, sk, a1, a2, _⟩ := s1
    exact i_inj a1.clock a2.clock
  rw [e17]
  exact ⟨_, M3, N, rfl, rfl, nt, nt, s1, k5, by omega, h4.fr (k6 990 (by omega)) (k6 991 (by omega)) (k7 0 (by decide)) (k7 4 (by decide)), fun t ht => (h5 t ht).fr (fun q hq => k6 q (by omega)) (k7 3 (by decide))⟩
theorem s_back : sim_back Rel := by
  intro MX MY LY h
  obtain ⟨nt, nti, h1, h2, h3, h4, h5⟩ := h
  obtain ⟨M1, M2, M3, N, k1, k2, k3, k4, k5, k6, k7, k8⟩ := snap_over (u := 1) (b := 16) (c := 483) (u' := 486) (b' := 501) (c' := 968) (by omega) (by omega) (by omega) (by omega) (o1 := 2) (o2 := 1) (by decide) h2
  unfold f_X9_back f_X10_back
  rw [k1, xb1_some, k2, xb1_some, k3, xb1_some, k4, xb1_some, k8]
  have s1 : Sna 486 501 968 M3 (N 2) nti := by
    rw [k7 2 (by decide)]
    exact h2.fr (fun q _ _ => k6 q (by omega)) (fun q _ _ => k6 q (by omega)) (fun q _ _ => k6 q (by omega))
  exact ⟨_, M3, N, rfl, rfl, nti, nti, k5, s1, by omega, h4.fr (k6 990 (by omega)) (k6 991 (by omega)) (k7 0 (by decide)) (k7 4 (by decide)), fun t ht => (h5 t (by omega)).fr (fun q hq => k6 q (by omega)) (k7 3 (by decide))⟩
