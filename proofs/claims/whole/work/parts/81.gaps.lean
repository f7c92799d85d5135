/-! gaps, dead, stale, safe -/
/-- used words of a page, those of what is reached taken away: the first j places -/
def gpS (s : hs) (D : Nat → Int) (p j : Nat) : Int := s 6 p - sm (fun i => inD D (szI s) (8 * p + i)) j
theorem gpS_le {s : hs} (o : Ok s) (D : Nat → Int) {p j : Nat} (hp : p < 8) (hj : j ≤ 8) : -32 ≤ gpS s D p j ∧ gpS s D p j ≤ 8 := by
  have a := sm_01 (f := fun i => inD D (szI s) (8 * p + i)) (z := 4) j (fun i hi => inD_sz o D (by omega))
  have b := o.u hp
  unfold gpS
  omega
theorem y_gaps_loop {M : xm} {s : hs} {D : Nat → Int} (h : RY M s) (o : Ok s) (hD : dM 10 M = D) (hH : ∀ w, D w ≠ -1 → 1000 ≤ s 1 w) {a : Int32} {p : Nat} (ha : a.toInt = (p : Int)) (hp : p < 8) : ∀ (k i f : Nat) (x y : Int32), i + k = 8 → k < f → x.toInt = gpS s D p i → y.toInt = ((8 * p + i : Nat) : Int) → ∃ r, g_X10_gapsOf_20 M a f x y = some r ∧ r.toInt = gpS s D p 8 := by
  have t1 : ((8 : Int32) * a).toInt = 8 * (p : Int) := i_mul rfl ha (by omega) (by omega)
  have t2 : ((8 : Int32) * a + 8).toInt = 8 * (p : Int) + 8 := i_add t1 (b := 8) rfl (by omega) (by omega)
  intro k
  induction k with
  | zero =>
    intro i f x y hi hf hx hy
    obtain ⟨f, rfl⟩ : ∃ q, f = q + 1 := ⟨f - 1, by omega⟩
    have e : i = 8 := by omega
    subst e
    unfold g_X10_gapsOf_20
    rw [if_pos (by rw [i_le, hy, t2]; omega)]
    exact ⟨x, rfl, hx⟩
  | succ k ih =>
    intro i f x y hi hf hx hy
    obtain ⟨f, rfl⟩ : ∃ q, f = q + 1 := ⟨f - 1, by omega⟩
    have w64 : 8 * p + i < 64 := by omega
    have ny : (y + 1).toInt = ((8 * p + (i + 1) : Nat) : Int) := by rw [i_add hy (b := 1) rfl (by omega) (by omega)]; omega
    have b := gpS_le o D hp (j := i) (by omega)
    have b2 := inD_sz o D (i := 8 * p + i) (by omega)
    have e : gpS s D p (i + 1) = gpS s D p i - inD D (szI s) (8 * p + i) := by
      have : sm (fun i => inD D (szI s) (8 * p + i)) (i + 1) = sm (fun i => inD D (szI s) (8 * p + i)) i + inD D (szI s) (8 * p + i) := rfl
      unfold gpS; rw [this]; omega
    unfold g_X10_gapsOf_20
    rw [if_neg (by rw [i_le, hy, t2]; omega), if_pos (i_in hy w64), i_ix hy]
    by_cases c : D (8 * p + i) = -1
    · have e2 : inD D (szI s) (8 * p + i) = 0 := by unfold inD; rw [if_pos c]
      rw [if_pos ((dM_n1 w64).mpr (by rw [hD]; exact c)), xlet_eq, xlet_eq]
      exact ih (i + 1) f (x - 0) (y + 1) (by omega) (by omega) (by rw [i_sub hx (b := 0) rfl (by omega) (by omega), e, e2]) ny
    · have e2 : inD D (szI s) (8 * p + i) = szI s (8 * p + i) := by unfold inD; rw [if_neg c]
      obtain ⟨r, r1, r2⟩ := y_size h o hy w64 (hH _ c)
      rw [if_neg (fun q => c (by rw [← hD]; exact (dM_n1 w64).mp q)), r1, xb1_some, xlet_eq, xlet_eq]
      exact ih (i + 1) f (x - r) (y + 1) (by omega) (by omega) (by rw [i_sub hx r2 (by omega) (by omega), e, e2]) ny
theorem x_gaps_loop {M : xm} {s : hs} {D : Nat → Int} (h : RX 1 M s) (o : Ok s) (hD : dM 987 M = D) {a : Int32} {p : Nat} (ha : a.toInt = (p : Int)) (hp : p < 8) : ∀ (k i f : Nat) (x y : Int32), i + k = 8 → k < f → x.toInt = gpS s D p i → y.toInt = ((8 * p + i : Nat) : Int) → ∃ r, g_X6_gapsOf_22 1 M a f x y = some r ∧ r.toInt = gpS s D p 8 := by
  have t1 : (a + 1).toInt = (p : Int) + 1 := i_add ha (b := 1) rfl (by omega) (by omega)
  have t2 : ((a + 1) * 8).toInt = ((p : Int) + 1) * 8 := i_mul t1 rfl (by omega) (by omega)
  intro k
  induction k with
  | zero =>
    intro i f x y hi hf hx hy
    obtain ⟨f, rfl⟩ : ∃ q, f = q + 1 := ⟨f - 1, by omega⟩
    have e : i = 8 := by omega
    subst e
    unfold g_X6_gapsOf_22
    rw [if_pos (by rw [i_le, hy, t2]; omega)]
    exact ⟨x, rfl, hx⟩
  | succ k ih =>
    intro i f x y hi hf hx hy
    obtain ⟨f, rfl⟩ : ∃ q, f = q + 1 := ⟨f - 1, by omega⟩
    have w64 : 8 * p + i < 64 := by omega
    have ny : (y + 1).toInt = ((8 * p + (i + 1) : Nat) : Int) := by rw [i_add hy (b := 1) rfl (by omega) (by omega)]; omega
    have b := gpS_le o D hp (j := i) (by omega)
    have b2 := inD_sz o D (i := 8 * p + i) (by omega)
    have e : gpS s D p (i + 1) = gpS s D p i - inD D (szI s) (8 * p + i) := by
      have : sm (fun i => inD D (szI s) (8 * p + i)) (i + 1) = sm (fun i => inD D (szI s) (8 * p + i)) i + inD D (szI s) (8 * p + i) := rfl
      unfold gpS; rw [this]; omega
    unfold g_X6_gapsOf_22
    rw [if_neg (by rw [i_le, hy, t2]; omega), if_pos (i_in hy w64), i_ix hy]
    by_cases c : D (8 * p + i) = -1
    · have e2 : inD D (szI s) (8 * p + i) = 0 := by unfold inD; rw [if_pos c]
      rw [if_pos (c := M (986 + 1) (8 * p + i) = -1) ((dM_n1 w64).mpr (by rw [hD]; exact c)), xlet_eq]
      exact ih (i + 1) f x (y + 1) (by omega) (by omega) (by rw [hx, e, e2]; omega) ny
    · have e2 : inD D (szI s) (8 * p + i) = szI s (8 * p + i) := by unfold inD; rw [if_neg c]
      obtain ⟨r, r1, r2⟩ := x_sizeAt h o hy w64
      have r2 : r.toInt = szI s (8 * p + i) := r2
      rw [if_neg (c := M (986 + 1) (8 * p + i) = -1) (fun q => c (by rw [← hD]; exact (dM_n1 w64).mp q)), r1, xb1_some, xlet_eq, xlet_eq]
      exact ih (i + 1) f (x - r) (y + 1) (by omega) (by omega) (by rw [i_sub hx r2 (by omega) (by omega), e, e2]) ny
theorem gpS_0 (s : hs) (D : Nat → Int) (p : Nat) : s 6 p = gpS s D p 0 := by
  have : sm (fun i => inD D (szI s) (8 * p + i)) 0 = 0 := rfl
  unfold gpS; rw [this]; omega
theorem x_gapsOf {M : xm} {s : hs} {D : Nat → Int} (h : RX 1 M s) (o : Ok s) (hD : dM 987 M = D) {a : Int32} {p : Nat} (ha : a.toInt = (p : Int)) (hp : p < 8) : ∃ r, f_X6_gapsOf 1 M a = some r ∧ r.toInt = gpS s D p 8 := by
  obtain ⟨r, r1, r2⟩ := x_gaps_loop h o hD ha hp 8 0 xfuel (M (1 + 6) p) (a * 8) (by omega) (by unfold xfuel; omega) ((h.u hp).trans (gpS_0 s D p)) (by rw [i_mul ha (b := 8) rfl (by omega) (by omega)]; omega)
  refine ⟨r, ?_, r2⟩
  unfold f_X6_gapsOf
  rw [f_isPage_1 ha hp, if_neg n10, if_pos (i_in ha hp), i_ix ha, xlet_eq, xlet_eq, r1, xb1_some]
theorem y_gapsOf {M M1 : xm} {s : hs} {D : Nat → Int} (h : RY M1 s) (o : Ok s) (hl : f_X10_layLoads M (-1) = some M1) (hD : dM 10 M1 = D) (hH : ∀ w, D w ≠ -1 → 1000 ≤ s 1 w) {a : Int32} {p : Nat} (ha : a.toInt = (p : Int)) (hp : p < 8) : ∃ r, f_X10_gapsOf M a = some (r, M1) ∧ r.toInt = gpS s D p 8 := by
  have e21 := yx 21 (b := 21) rfl ha (by omega)
  obtain ⟨r, r1, r2⟩ := y_gaps_loop h o hD hH ha hp 8 0 xfuel (M1 1 (21 + p)) (8 * a) (by omega) (by unfold xfuel; omega) ((h.u hp).trans (gpS_0 s D p)) (by rw [i_mul (a := 8) rfl ha (by omega) (by omega)]; omega)
  refine ⟨r, ?_, r2⟩
  unfold f_X10_gapsOf
  rw [hl, xb1_some, if_pos e21.1, e21.2, xlet_eq, xlet_eq, r1, xb1_some]
theorem s_gaps : sim_gaps Rel := by
  intro MX MY LY a0 h
  have hr := h
  obtain ⟨nt, nti, ⟨s, St, n, ru, sd, sp, sk, a1, a2, a3, _⟩, _⟩ := h
  unfold f_X9_gaps f_X10_gaps
  rw [f_isPage_eq, yPage]
  by_cases c : 0 ≤ a0.toInt ∧ a0.toInt ≤ 7
  · obtain ⟨p, hp⟩ : ∃ p : Nat, a0.toInt = p := ⟨a0.toInt.toNat, by omega⟩
    obtain ⟨MX', MY', D, b1, b2, P⟩ := both_take a1 a2 a3.1 (a := -1) (x := -1) rfl
    have rel : Rel MX' MY' LY := hr.pic (fun q q1 q2 q3 _ => P.2.2.2.2.2.2.2.1 q q1 q2 q3) (fun q q1 _ _ => P.2.2.2.2.2.2.2.2 q q1)
    have ⟨p1, p2, p3, p4, p5, p6, p7, p8, p9⟩ := P
    obtain ⟨n', F, t1, t2, t3, t4, t5, t6, t7⟩ := p1
    obtain ⟨r, r1, r2⟩ := x_gapsOf p5 a3.ok t5 hp (by omega)
    obtain ⟨r', r1', r2'⟩ := y_gapsOf p6 a3.ok b2 p2 (fun w hw => (p3 w hw).2.1) hp (by omega)
    rw [if_pos (c := 0 ≤ a0.toInt ∧ a0.toInt < 8) (by omega), if_neg n10, if_pos c, if_neg n10, b1, xb1_some, r1, xb1_some, r1', xb2_some, i_inj r2 r2']
    exact ⟨r', MX', MY', rfl, rfl, rel⟩
  · rw [if_neg (c := 0 ≤ a0.toInt ∧ a0.toInt < 8) (by omega), if_pos rfl, if_neg c, if_pos rfl]
    exact ⟨-1, MX, MY, rfl, rfl, hr⟩
/-- a free page has no gaps -/
theorem gpS_free {s : hs} (l : Lay s) {D : Nat → Int} (hH : ∀ w, D w ≠ -1 → s 7 (w / 8) ≠ 0) {p : Nat} (hp : p < 8) (h7 : s 7 p = 0) : gpS s D p 8 = 0 := by
  have e : sm (fun i => inD D (szI s) (8 * p + i)) 8 = sm (fun _ => 0) 8 := sm_eq 8 (fun i hi => by
    show inD D (szI s) (8 * p + i) = 0
    unfold inD
    rw [if_pos]
    by_cases c : D (8 * p + i) = -1
    · exact c
    · exact absurd (by rw [show (8 * p + i) / 8 = p by omega]; exact h7) (hH _ c))
  unfold gpS
  rw [e, sm_const, l.2.2.2.2.1 p hp h7]; rfl
theorem x_dead_loop {M : xm} {s : hs} {D : Nat → Int} (h : RX 1 M s) (o : Ok s) (hD : dM 987 M = D) : ∀ (k i f : Nat) (x y : Int32), i + k = 8 → k < f → x.toInt = sm (fun p => gpS s D p 8) i → y.toInt = (i : Int) → ∃ r, g_X9_dead_16 M f x y = some r ∧ r.toInt = sm (fun p => gpS s D p 8) 8 := by
  intro k
  induction k with
  | zero =>
    intro i f x y hi hf hx hy
    obtain ⟨f, rfl⟩ : ∃ q, f = q + 1 := ⟨f - 1, by omega⟩
    have e : i = 8 := by omega
    subst e
    unfold g_X9_dead_16
    rw [if_pos (by rw [i_le, hy]; simp only [Int32.reduceToInt]; omega)]
    exact ⟨x, rfl, hx⟩
  | succ k ih =>
    intro i f x y hi hf hx hy
    obtain ⟨f, rfl⟩ : ∃ q, f = q + 1 := ⟨f - 1, by omega⟩
    have ny : (y + 1).toInt = ((i + 1 : Nat) : Int) := by rw [i_add hy (b := 1) rfl (by omega) (by omega)]; omega
    have b1 := sm_le (f := fun p => gpS s D p 8) (g := fun _ => 8) i (fun j hj => (gpS_le o D (p := j) (j := 8) (by omega) (by omega)).2)
    have b2 := sm_le (f := fun _ => -32) (g := fun p => gpS s D p 8) i (fun j hj => (gpS_le o D (p := j) (j := 8) (by omega) (by omega)).1)
    rw [sm_const] at b1 b2
    have b3 := gpS_le o D (p := i) (j := 8) (by omega) (by omega)
    obtain ⟨r, r1, r2⟩ := x_gapsOf h o hD hy (by omega)
    unfold g_X9_dead_16
    rw [if_neg (by rw [i_le, hy]; simp only [Int32.reduceToInt]; omega), r1, xb1_some, xlet_eq, xlet_eq]
    exact ih (i + 1) f (x + r) (y + 1) (by omega) (by omega) (by rw [i_add hx r2 (by omega) (by omega)]; rfl) ny
theorem y_dead_loop {s : hs} (l : Lay s) (hi : Inv s) {D : Nat → Int} (hdst : Dst (rtE s (-1)) (edE s (-1)) D) (hH : ∀ w, D w ≠ -1 → 1000 ≤ s 1 w ∧ s 7 (w / 8) ≠ 0) : ∀ (k i f : Nat) (M : xm) (x y : Int32), RY M s → i + k = 8 → k < f → x.toInt = sm (fun p => gpS s D p 8) i → y.toInt = (i : Int) → ∃ r M', g_X10_dead_4 f M x y = some (r, M') ∧ r.toInt = sm (fun p => gpS s D p 8) 8 ∧ ∀ q, q ≠ 10 → M' q = M q := by
  obtain ⟨G, hin⟩ := hi
  have o := hin.1
  intro k
  induction k with
  | zero =>
    intro i f M x y h hi hf hx hy
    obtain ⟨f, rfl⟩ : ∃ q, f = q + 1 := ⟨f - 1, by omega⟩
    have e : i = 8 := by omega
    subst e
    unfold g_X10_dead_4
    rw [if_pos (by rw [i_le, hy]; simp only [Int32.reduceToInt]; omega)]
    exact ⟨x, M, rfl, hx, fun _ _ => rfl⟩
  | succ k ih =>
    intro i f M x y h hi hf hx hy
    obtain ⟨f, rfl⟩ : ∃ q, f = q + 1 := ⟨f - 1, by omega⟩
    have ny : (y + 1).toInt = ((i + 1 : Nat) : Int) := by rw [i_add hy (b := 1) rfl (by omega) (by omega)]; omega
    have b1 := sm_le (f := fun p => gpS s D p 8) (g := fun _ => 8) i (fun j hj => (gpS_le o D (p := j) (j := 8) (by omega) (by omega)).2)
    have b2 := sm_le (f := fun _ => -32) (g := fun p => gpS s D p 8) i (fun j hj => (gpS_le o D (p := j) (j := 8) (by omega) (by omega)).1)
    rw [sm_const] at b1 b2
    have b3 := gpS_le o D (p := i) (j := 8) (by omega) (by omega)
    have e13 := yx 13 (b := 13) rfl hy (by omega)
    have es : sm (fun p => gpS s D p 8) (i + 1) = sm (fun p => gpS s D p 8) i + gpS s D i 8 := rfl
    unfold g_X10_dead_4
    rw [if_neg (by rw [i_le, hy]; simp only [Int32.reduceToInt]; omega), if_pos e13.1, e13.2]
    by_cases c : s 7 i = 0
    · rw [if_pos (by rw [i_eq, h.h (show i < 8 by omega)]; exact c), xlet_eq, xlet_eq]
      exact ih (i + 1) f M (x + 0) (y + 1) h (by omega) (by omega) (by rw [i_add hx (b := 0) rfl (by omega) (by omega), es, gpS_free l (fun w hw => (hH w hw).2) (by omega) c]) ny
    · obtain ⟨M1, c1, c2, c3, c4⟩ := y_layLoads h hin (a := -1) (x := -1) rfl
      have h1 : RY M1 s := by show RYr _ s; rw [c4 1 (by decide)]; exact h
      have eD : dM 10 M1 = D := funext (fun w => c2.one hdst w)
      obtain ⟨r, r1, r2⟩ := y_gapsOf h1 o c1 eD (fun w hw => (hH w hw).1) hy (by omega)
      rw [if_neg (by rw [i_eq, h.h (show i < 8 by omega)]; exact c), r1, xb2_some, xlet_eq, xlet_eq]
      obtain ⟨r', M', k1, k2, k3⟩ := ih (i + 1) f M1 (x + r) (y + 1) h1 (by omega) (by omega) (by rw [i_add hx r2 (by omega) (by omega), es]) ny
      exact ⟨r', M', k1, k2, fun q hq => (k3 q hq).trans (c4 q hq)⟩
theorem s_dead : sim_dead Rel := by
  intro MX MY LY h
  have hr := h
  obtain ⟨nt, nti, ⟨s, St, n, ru, sd, sp, sk, a1, a2, a3, _⟩, _⟩ := h
  obtain ⟨MX', MY', D, b1, b2, P⟩ := both_take a1 a2 a3.1 (a := -1) (x := -1) rfl
  have ⟨p1, p2, p3, p4, p5, p6, p7, p8, p9⟩ := P
  obtain ⟨n', F, t1, t2, t3, t4, t5, t6, t7⟩ := p1
  have l : Lay s := by obtain ⟨G, hi⟩ := a3.1; exact hi.2.1
  obtain ⟨r, r1, r2⟩ := x_dead_loop p5 a3.ok t5 8 0 xfuel 0 0 (by omega) (by unfold xfuel; omega) rfl rfl
  obtain ⟨r', M', r1', r2', r3'⟩ := y_dead_loop l a3.1 p7 (fun w hw => ⟨(p3 w hw).2.1, (p3 w hw).2.2.1⟩) 8 0 xfuel MY 0 0 a2 (by omega) (by unfold xfuel; omega) rfl rfl
  unfold f_X9_dead f_X10_dead
  rw [b1, xb1_some, r1, xb1_some, r1', xb2_some, i_inj r2 r2']
  exact ⟨r', MX', M', rfl, rfl, hr.pic (fun q q1 q2 q3 _ => p8 q q1 q2 q3) (fun q q1 _ _ => r3' q q1)⟩
