/-! stale, safe -/
theorem sGood_sl {s : hs} {p : Int} : slP s p = if sGood s p then 0 else 1 := rfl
theorem y_st9 {M : xm} {s : hs} (h : RY M s) (hR : ∀ r, r < 6 → -1 ≤ s 8 r ∧ s 8 r ≤ 191) : ∀ (k i f : Nat) (x y : Int32), i + k = 6 → k < f → x.toInt = slR s i → y.toInt = (i : Int) → ∃ r, g_X10_stale_9 M f x y = some r ∧ r.toInt = slR s 6 := by
  intro k
  induction k with
  | zero =>
    intro i f x y hi hf hx hy
    obtain ⟨f, rfl⟩ : ∃ q, f = q + 1 := ⟨f - 1, by omega⟩
    have e : i = 6 := by omega
    subst e
    unfold g_X10_stale_9
    rw [if_pos (by rw [i_le, hy]; simp only [Int32.reduceToInt]; omega)]
    exact ⟨x, rfl, hx⟩
  | succ k ih =>
    intro i f x y hi hf hx hy
    obtain ⟨f, rfl⟩ : ∃ q, f = q + 1 := ⟨f - 1, by omega⟩
    have ny : (y + 1).toInt = ((i + 1 : Nat) : Int) := by rw [i_add hy (b := 1) rfl (by omega) (by omega)]; omega
    have b := slR_le s i
    have e29 := yx 29 (b := 29) rfl hy (by omega)
    have es : slR s (i + 1) = slR s i + slP s (s 8 i) := rfl
    unfold g_X10_stale_9
    rw [if_neg (by rw [i_le, hy]; simp only [Int32.reduceToInt]; omega), if_pos e29.1, e29.2, y_isGood h (h.r (show i < 6 by omega)) (hR i (by omega))]
    by_cases c : sGood s (s 8 i)
    · rw [if_pos c, if_neg n10, xlet_eq, xlet_eq]
      exact ih (i + 1) f (x + 0) (y + 1) (by omega) (by omega) (by rw [i_add hx (b := 0) rfl (by omega) (by omega), es, sGood_sl, if_pos c]) ny
    · rw [if_neg c, if_pos rfl, xlet_eq, xlet_eq]
      exact ih (i + 1) f (x + 1) (y + 1) (by omega) (by omega) (by rw [i_add hx (b := 1) rfl (by omega) (by omega), es, sGood_sl, if_neg c]) ny
theorem y_st55 {M : xm} {s : hs} (h : RY M s) (o : Ok s) (l : Lay s) {D : Nat → Int} (hD : dM 10 M = D) {v : Int32} {w : Nat} (hv : v.toInt = (w : Int)) (hw : w < 64) (cd : D w ≠ -1) (hh : 1000 ≤ s 1 w) {A : Int} (hA : 0 ≤ A ∧ A ≤ 1000) : ∀ (k j f : Nat) (x y : Int32), j + k = nfS s w → k < f → x.toInt = A + slF s w j → y.toInt = ((j + 1 : Nat) : Int) → ∃ r, g_X10_stale_55 M v f x y = some r ∧ r.toInt = A + slW s w := by
  have ow := o.w hw
  have nf : (nfS s w : Int) = s 1 w - 1000 := by unfold nfS; omega
  intro k
  induction k with
  | zero =>
    intro j f x y hi hf hx hy
    obtain ⟨f, rfl⟩ : ∃ q, f = q + 1 := ⟨f - 1, by omega⟩
    have e : j = nfS s w := by omega
    subst e
    obtain ⟨r, r1, r2⟩ := y_fieldsOf h o hv hw
    unfold g_X10_stale_55
    rw [if_pos (i_in hv hw), i_ix hv, if_neg (fun q => cd (by rw [← hD]; exact (dM_n1 hw).mp q)), r1, xb1_some, if_pos (by rw [i_lt, r2, hy]; omega)]
    exact ⟨x, rfl, hx⟩
  | succ k ih =>
    intro j f x y hi hf hx hy
    obtain ⟨f, rfl⟩ : ∃ q, f = q + 1 := ⟨f - 1, by omega⟩
    have ny : (y + 1).toInt = ((j + 1 + 1 : Nat) : Int) := by rw [i_add hy (b := 1) rfl (by omega) (by omega)]; omega
    obtain ⟨r, r1, r2⟩ := y_fieldsOf h o hv hw
    have hwj := l.1.in64 o hw hh (j := j + 1) (by omega)
    have a1 := i_bx 41 (b := 41) rfl hv (by omega)
    have a2 := i_bx (41 + w) a1 hy (by omega)
    have b := slF_le s w j
    have hM : (M 1 (41 + w + (j + 1))).toInt = s 1 (w + 1 + j) := by rw [Nat.add_assoc, h.w (show w + (j + 1) < 64 by omega), show w + (j + 1) = w + 1 + j by omega]
    have es : slF s w (j + 1) = slF s w j + slP s (s 1 (w + 1 + j)) := rfl
    have hp := l.2.1 w hw hh (j + 1) (by omega) (by omega)
    rw [show w + (j + 1) = w + 1 + j by omega] at hp
    unfold g_X10_stale_55
    rw [if_pos (i_in hv hw), i_ix hv, if_neg (fun q => cd (by rw [← hD]; exact (dM_n1 hw).mp q)), r1, xb1_some, if_neg (by rw [i_lt, r2, hy]; omega), if_pos (i_in a2 (by omega)), i_ix a2, y_isGood h hM hp]
    by_cases c : sGood s (s 1 (w + 1 + j))
    · rw [if_pos c, if_neg n10, xlet_eq, xlet_eq]
      exact ih (j + 1) f (x + 0) (y + 1) (by omega) (by omega) (by rw [i_add hx (b := 0) rfl (by omega) (by omega), es, sGood_sl, if_pos c]; omega) ny
    · rw [if_neg c, if_pos rfl, xlet_eq, xlet_eq]
      exact ih (j + 1) f (x + 1) (y + 1) (by omega) (by omega) (by rw [i_add hx (b := 1) rfl (by omega) (by omega), es, sGood_sl, if_neg c]; omega) ny
theorem inD_slW {s : hs} (o : Ok s) (D : Nat → Int) {i : Nat} (hi : i < 64) : 0 ≤ inD D (slW s) i ∧ inD D (slW s) i ≤ 3 := by
  have := slW_le o hi
  unfold inD; split <;> omega
theorem y_st47 {M : xm} {s : hs} (h : RY M s) (o : Ok s) (l : Lay s) {D : Nat → Int} (hD : dM 10 M = D) (hH : ∀ w, D w ≠ -1 → 1000 ≤ s 1 w) : ∀ (k i f : Nat) (x y : Int32), i + k = 64 → k < f → x.toInt = slR s 6 + sm (inD D (slW s)) i → y.toInt = (i : Int) → ∃ r, g_X10_stale_47 M f x y = some r ∧ r.toInt = slR s 6 + sm (inD D (slW s)) 64 := by
  intro k
  induction k with
  | zero =>
    intro i f x y hi hf hx hy
    obtain ⟨f, rfl⟩ : ∃ q, f = q + 1 := ⟨f - 1, by omega⟩
    have e : i = 64 := by omega
    subst e
    unfold g_X10_stale_47
    rw [if_pos (by rw [i_le, hy]; simp only [Int32.reduceToInt]; omega)]
    exact ⟨x, rfl, hx⟩
  | succ k ih =>
    intro i f x y hi hf hx hy
    obtain ⟨f, rfl⟩ : ∃ q, f = q + 1 := ⟨f - 1, by omega⟩
    have i64 : i < 64 := by omega
    have ny : (y + 1).toInt = ((i + 1 : Nat) : Int) := by rw [i_add hy (b := 1) rfl (by omega) (by omega)]; omega
    have b := sm_01 (f := inD D (slW s)) (z := 3) i (fun j hj => inD_slW o D (by omega))
    have b2 := slR_le s 6
    have e : sm (inD D (slW s)) (i + 1) = sm (inD D (slW s)) i + inD D (slW s) i := rfl
    unfold g_X10_stale_47
    rw [if_neg (by rw [i_le, hy]; simp only [Int32.reduceToInt]; omega)]
    by_cases c : D i = -1
    · have e2 : inD D (slW s) i = 0 := by unfold inD; rw [if_pos c]
      have e3 : g_X10_stale_55 M y xfuel x 1 = some x := by
        rw [show xfuel = 99999 + 1 from rfl]
        unfold g_X10_stale_55
        rw [if_pos (i_in hy i64), i_ix hy, if_pos ((dM_n1 i64).mpr (by rw [hD]; exact c))]
      rw [e3, xb1_some, xlet_eq]
      exact ih (i + 1) f x (y + 1) (by omega) (by omega) (by rw [hx, e, e2]; omega) ny
    · have e2 : inD D (slW s) i = slW s i := by unfold inD; rw [if_neg c]
      have f0 : slF s i 0 = 0 := rfl
      have nf3 : nfS s i ≤ 3 := by have := o.w i64; unfold nfS; omega
      obtain ⟨r, r1, r2⟩ := y_st55 h o l hD hy i64 c (hH i c) (A := slR s 6 + sm (inD D (slW s)) i) (by omega) (nfS s i) 0 xfuel x 1 (by omega) (by unfold xfuel; omega) (by rw [hx, f0]; omega) rfl
      rw [r1, xb1_some, xlet_eq]
      exact ih (i + 1) f r (y + 1) (by omega) (by omega) (by rw [r2, e, e2]; omega) ny
theorem s_stale : sim_stale Rel := by
  intro MX MY LY h
  have hr := h
  obtain ⟨nt, nti, ⟨s, St, n, ru, sd, sp, sk, a1, a2, a3, _⟩, _⟩ := h
  obtain ⟨MX', MY', D, b1, b2, P⟩ := both_take a1 a2 a3.1 (a := -1) (x := -1) rfl
  have rel : Rel MX' MY' LY := hr.pic (fun q q1 q2 q3 _ => P.2.2.2.2.2.2.2.1 q q1 q2 q3) (fun q q1 _ _ => P.2.2.2.2.2.2.2.2 q q1)
  have ⟨p1, p2, p3, p4, p5, p6, p7, p8, p9⟩ := P
  obtain ⟨n', F, t1, t2, t3, t4, t5, t6, t7⟩ := p1
  have l : Lay s := by obtain ⟨G, hi⟩ := a3.1; exact hi.2.1
  obtain ⟨r, r1, r2⟩ := y_st9 p6 (fun r hr => (p4 r hr).1) 6 0 xfuel 0 0 (by omega) (by unfold xfuel; omega) rfl rfl
  have s0 : sm (inD D (slW s)) 0 = 0 := rfl
  obtain ⟨r', r1', r2'⟩ := y_st47 p6 a3.ok l p2 (fun w hw => (p3 w hw).2.1) 64 0 xfuel r 0 (by omega) (by unfold xfuel; omega) (by rw [r2, s0]; omega) rfl
  unfold f_X9_stale f_X10_stale
  rw [b1, xb1_some, b2, xb1_some, r1, xb1_some, r1', xb1_some, i_inj t3 r2']
  exact ⟨r', MX', MY', rfl, rfl, rel⟩
theorem y_isSafe {M : xm} {s : hs} (h : RY M s) (o : Ok s) {a : Int32} {p : Int} (ha : a.toInt = p) (hp : (-1 ≤ p ∧ p ≤ 191) ∧ (p ≠ -1 → 1000 ≤ s 1 (sWh s p) ∧ sWh s p < 64 ∧ s 7 (sWh s p / 8) ≠ 0)) : f_X10_isSafe M a = some 1 := by
  unfold f_X10_isSafe
  by_cases c : p = -1
  · rw [if_pos (by rw [i_eq, ha, c]; rfl)]
  · obtain ⟨h1, h2, h3⟩ := hp.2 c
    obtain ⟨r, r1, r2⟩ := y_whereOf h o ha (by omega)
    have d8 : (r / 8).toInt = ((sWh s p / 8 : Nat) : Int) := by rw [i_div r2 (y := 8) (b := 8) rfl (by omega) (by omega) (by omega)]; omega
    have e13 := yx 13 (b := 13) rfl d8 (by omega)
    rw [if_neg (by rw [i_eq, ha]; exact c), r1, xb1_some, y_isHead h r2 h2, xb1_some, if_pos h1, if_neg n10, xb1_some, if_pos e13.1, e13.2, if_neg (by rw [i_eq, h.h (show sWh s p / 8 < 8 by omega)]; exact h3)]
theorem y_sf7 {M : xm} {s : hs} (h : RY M s) (o : Ok s) (hR : ∀ r, r < 6 → (-1 ≤ s 8 r ∧ s 8 r ≤ 191) ∧ (s 8 r ≠ -1 → 1000 ≤ s 1 (sWh s (s 8 r)) ∧ sWh s (s 8 r) < 64 ∧ s 7 (sWh s (s 8 r) / 8) ≠ 0)) : ∀ (k i f : Nat) (y : Int32), i + k = 6 → k < f → y.toInt = (i : Int) → g_X10_safe_7 M f y = some (Sum.inr ()) := by
  intro k
  induction k with
  | zero =>
    intro i f y hi hf hy
    obtain ⟨f, rfl⟩ : ∃ q, f = q + 1 := ⟨f - 1, by omega⟩
    unfold g_X10_safe_7
    rw [if_pos (by rw [i_le, hy]; simp only [Int32.reduceToInt]; omega)]
  | succ k ih =>
    intro i f y hi hf hy
    obtain ⟨f, rfl⟩ : ∃ q, f = q + 1 := ⟨f - 1, by omega⟩
    have ny : (y + 1).toInt = ((i + 1 : Nat) : Int) := by rw [i_add hy (b := 1) rfl (by omega) (by omega)]; omega
    have e29 := yx 29 (b := 29) rfl hy (by omega)
    unfold g_X10_safe_7
    rw [if_neg (by rw [i_le, hy]; simp only [Int32.reduceToInt]; omega), if_pos e29.1, e29.2, y_isSafe h o (h.r (show i < 6 by omega)) (hR i (by omega)), xb1_some, if_neg n10, xlet_eq]
    exact ih (i + 1) f (y + 1) (by omega) (by omega) ny
theorem y_sf47 {M : xm} {s : hs} (h : RY M s) (o : Ok s) (l : Lay s) {D : Nat → Int} (hD : dM 10 M = D) {v : Int32} {w : Nat} (hv : v.toInt = (w : Int)) (hw : w < 64) (hh : D w ≠ -1 → 1000 ≤ s 1 w ∧ ∀ j : Nat, 1 ≤ j → (j : Int) ≤ s 1 w - 1000 → (-1 ≤ s 1 (w + j) ∧ s 1 (w + j) ≤ 191) ∧ (s 1 (w + j) ≠ -1 → 1000 ≤ s 1 (sWh s (s 1 (w + j))) ∧ sWh s (s 1 (w + j)) < 64 ∧ s 7 (sWh s (s 1 (w + j)) / 8) ≠ 0)) : ∀ (k j f : Nat) (y : Int32), j + k = 4 → 1 ≤ j → k < f → y.toInt = (j : Int) → g_X10_safe_47 M v f y = some (Sum.inr ()) := by
  have ow := o.w hw
  obtain ⟨r, r1, r2⟩ := y_fieldsOf h o hv hw
  intro k
  induction k with
  | zero =>
    intro j f y hi hj hf hy
    obtain ⟨f, rfl⟩ : ∃ q, f = q + 1 := ⟨f - 1, by omega⟩
    unfold g_X10_safe_47
    rw [if_pos (i_in hv hw), i_ix hv, r1, xb1_some, if_pos (c := r < y) (by rw [i_lt, r2, hy]; omega)]
    split <;> rfl
  | succ k ih =>
    intro j f y hi hj hf hy
    obtain ⟨f, rfl⟩ : ∃ q, f = q + 1 := ⟨f - 1, by omega⟩
    have ny : (y + 1).toInt = ((j + 1 : Nat) : Int) := by rw [i_add hy (b := 1) rfl (by omega) (by omega)]; omega
    unfold g_X10_safe_47
    rw [if_pos (i_in hv hw), i_ix hv, r1, xb1_some]
    by_cases cd : D w = -1
    · rw [if_pos (c := M 10 w = -1) ((dM_n1 hw).mpr (by rw [hD]; exact cd))]
    · rw [if_neg (c := M 10 w = -1) (fun q => cd (by rw [← hD]; exact (dM_n1 hw).mp q))]
      by_cases c : s 1 w - 1000 < j
      · rw [if_pos (c := r < y) (by rw [i_lt, r2, hy]; omega)]
      · obtain ⟨h1, h2⟩ := hh cd
        have hwj := l.1.in64 o hw h1 (j := j) (by omega)
        have a1 := i_bx 41 (b := 41) rfl hv (by omega)
        have a2 := i_bx (41 + w) a1 hy (by omega)
        have hM : (M 1 (41 + w + j)).toInt = s 1 (w + j) := by rw [Nat.add_assoc]; exact h.w hwj
        rw [if_neg (c := r < y) (by rw [i_lt, r2, hy]; omega), if_pos (i_in a2 (by omega)), i_ix a2, y_isSafe h o hM (h2 j hj (by omega)), xb1_some, if_neg n10, xlet_eq]
        exact ih (j + 1) f (y + 1) (by omega) (by omega) (by omega) ny
theorem y_sf39 {M : xm} {s : hs} (h : RY M s) (o : Ok s) (l : Lay s) {D : Nat → Int} (hD : dM 10 M = D) (hH : ∀ w, D w ≠ -1 → 1000 ≤ s 1 w ∧ ∀ j : Nat, 1 ≤ j → (j : Int) ≤ s 1 w - 1000 → (-1 ≤ s 1 (w + j) ∧ s 1 (w + j) ≤ 191) ∧ (s 1 (w + j) ≠ -1 → 1000 ≤ s 1 (sWh s (s 1 (w + j))) ∧ sWh s (s 1 (w + j)) < 64 ∧ s 7 (sWh s (s 1 (w + j)) / 8) ≠ 0)) : ∀ (k i f : Nat) (y : Int32), i + k = 64 → k < f → y.toInt = (i : Int) → g_X10_safe_39 M f y = some (Sum.inr ()) := by
  intro k
  induction k with
  | zero =>
    intro i f y hi hf hy
    obtain ⟨f, rfl⟩ : ∃ q, f = q + 1 := ⟨f - 1, by omega⟩
    unfold g_X10_safe_39
    rw [if_pos (by rw [i_le, hy]; simp only [Int32.reduceToInt]; omega)]
  | succ k ih =>
    intro i f y hi hf hy
    obtain ⟨f, rfl⟩ : ∃ q, f = q + 1 := ⟨f - 1, by omega⟩
    have ny : (y + 1).toInt = ((i + 1 : Nat) : Int) := by rw [i_add hy (b := 1) rfl (by omega) (by omega)]; omega
    unfold g_X10_safe_39
    rw [if_neg (by rw [i_le, hy]; simp only [Int32.reduceToInt]; omega), y_sf47 h o l hD hy (by omega) (hH i) 3 1 xfuel 1 (by omega) (by omega) (by unfold xfuel; omega) rfl, xs2_r, xlet_eq]
    exact ih (i + 1) f (y + 1) (by omega) (by omega) ny
theorem s_safe : sim_safe Rel := by
  intro MX MY LY h
  have hr := h
  obtain ⟨nt, nti, ⟨s, St, n, ru, sd, sp, sk, a1, a2, a3, _⟩, _⟩ := h
  obtain ⟨MX', MY', D, b1, b2, P⟩ := both_take a1 a2 a3.1 (a := -1) (x := -1) rfl
  have rel : Rel MX' MY' LY := hr.pic (fun q q1 q2 q3 _ => P.2.2.2.2.2.2.2.1 q q1 q2 q3) (fun q q1 _ _ => P.2.2.2.2.2.2.2.2 q q1)
  have ⟨p1, p2, p3, p4, p5, p6, p7, p8, p9⟩ := P
  obtain ⟨n', F, t1, t2, t3, t4, t5, t6, t7⟩ := p1
  have l : Lay s := by obtain ⟨G, hi⟩ := a3.1; exact hi.2.1
  unfold f_X9_safe f_X10_safe
  rw [b1, xb1_some, b2, xb1_some, t4, if_pos (by decide), y_sf7 p6 a3.ok p4 6 0 xfuel 0 (by omega) (by unfold xfuel; omega) rfl, xs2_r, y_sf39 p6 a3.ok l p2 (fun w hw => ⟨(p3 w hw).2.1, fun j j1 j2 => ⟨((p3 w hw).2.2.2 j j1 j2).1, fun q => have := ((p3 w hw).2.2.2 j j1 j2).2 q; ⟨this.1, this.2.1, this.2.2.1⟩⟩⟩) 64 0 xfuel 0 (by omega) (by unfold xfuel; omega) rfl, xs2_r]
  exact ⟨1, MX', MY', rfl, rfl, rel⟩
