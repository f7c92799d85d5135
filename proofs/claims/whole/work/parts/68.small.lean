/-! what was told; the book -/
theorem s_by : sim_by Rel := by
  intro MX MY LY a0 h
  have hr := h
  obtain ⟨nt, nti, ⟨s, St, n, ru, sd, sp, sk, hs⟩, h2, h3, h4, h5⟩ := h
  have ⟨a1, a2, a3, a4, a5, a6, a7, a8, a9⟩ := hs
  have n4 := a9.1
  unfold f_X9_by f_X10_by
  rw [yIn, i_sub a8.1 (y := 1) (b := 1) rfl (by omega) (by omega)]
  have zm : (-1 : Int32).toInt = -1 := rfl
  rw [zm]
  by_cases c : -1 ≤ a0.toInt ∧ a0.toInt ≤ (nt : Int) - 1
  · rw [if_neg (by rw [i_lt, zm]; omega), if_pos (by rw [i_lt, a7.2.1]; omega), if_pos c, if_neg n10, xlet_eq, xlet_eq]
    refine ⟨_, _, _, rfl, rfl, ?_⟩
    have fx : ∀ q, q ≠ 483 → up2 MX 483 4 a0 q = MX q := fun q hq => up2_cell hq
    have fy : ∀ q, q ≠ 1 → up2 MY 1 1 a0 q = MY q := fun q hq => up2_cell hq
    have fr : ∀ j, j ≠ 1 → up2 MY 1 1 a0 1 j = MY 1 j := fun j hj => by rw [up2_row, if_neg hj]
    refine hr.done nt (fun nt' h' => (Snp.of hs).nt h') ?_ (fun q hq => fx q (by omega)) (fun q hq => fy q (by omega))
    refine Snp.of (s := s) (St := St) (n := n) (ru := a0.toInt) (sd := sd) (sp := sp) (sk := sk) ⟨a1.fr (fun q _ _ => fx q (by omega)), a2.fr a3.ok (fun j _ _ => fr j (by omega)), a3, a4.fr (fun q _ _ => fx q (by omega)), ⟨a5.1, by rw [fr 2 (by omega)]; exact a5.2.1, fun i hi => (a5.2.2 i hi).fr (a6 i hi).ok (fun j j1 j2 => by unfold rwY; exact fr _ (by omega))⟩, a6, ?_, ?_, a9.1, ⟨c.1, by omega⟩, a9.2.2⟩
    · refine ⟨by rw [up2_ne (by omega)]; exact a7.1, by rw [up2_ne (by omega)]; exact a7.2.1, by rw [up2_same], fun i hi => ?_⟩
      rw [fx 484 (by omega), fx 485 (by omega)]; exact a7.2.2.2 i hi
    · refine ⟨by rw [fr 0 (by omega)]; exact a8.1, by rw [up2_same], by rw [fr 3 (by omega)]; exact a8.2.2.1, fun i hi => ?_⟩
      rw [fr _ (by omega), fr _ (by omega)]; exact a8.2.2.2 i hi
  · rw [if_neg c, if_pos rfl]
    refine ⟨0, MX, MY, ?_, rfl, hr⟩
    by_cases d : a0.toInt < -1
    · rw [if_pos (by rw [i_lt, zm]; exact d)]
    · rw [if_neg (by rw [i_lt, zm]; exact d), if_neg (by rw [i_lt, a7.2.1]; omega)]
theorem s_end : sim_end Rel := by
  intro MX MY LY a0 h
  have hr := h
  obtain ⟨nt, nti, h1, h2, h3, ⟨len, t1, t2, t3, t4, t5, t6⟩, h5⟩ := h
  unfold f_X9_end f_X10_end
  rw [yIn, t3]
  have z0 : (0 : Int32).toInt = 0 := rfl
  rw [z0]
  by_cases c : 0 ≤ a0.toInt ∧ a0.toInt ≤ len
  · rw [if_neg (by rw [i_lt, z0]; omega), if_pos (by rw [i_le, t2]; omega), if_pos c, if_neg n10, xlet_eq, xlet_eq]
    refine ⟨_, _, _, rfl, rfl, nt, nti, ?_, ?_, h3, ⟨a0.toInt.toNat, by omega, by rw [up2_same]; omega, by rw [up2_same]; omega, fun i hi => ?_, by rw [up2_ne (by omega), up2_ne (by omega)]; exact t5, by rw [up2_ne (by omega), up2_ne (by omega)]; exact t6⟩, fun t ht => (h5 t ht).fr (fun q hq => up2_cell (by omega)) (up2_cell (by omega))⟩
    · rw [up2_cell (by omega)]
      exact h1.fr (fun q _ _ => up2_cell (by omega)) (fun q _ _ => up2_cell (by omega)) (fun q _ _ => up2_cell (by omega))
    · rw [up2_cell (by omega)]
      exact h2.fr (fun q _ _ => up2_cell (by omega)) (fun q _ _ => up2_cell (by omega)) (fun q _ _ => up2_cell (by omega))
    · rw [up2_cell (by omega), up2_cell (by omega)]
      exact t4 i (by omega)
  · rw [if_neg c, if_pos rfl]
    refine ⟨-1, MX, MY, ?_, rfl, hr⟩
    by_cases d : a0.toInt < 0
    · rw [if_pos (by rw [i_lt, z0]; exact d)]
    · rw [if_neg (by rw [i_lt, z0]; exact d), if_neg (by rw [i_le, t2]; omega)]
theorem s_said : sim_said Rel := by
  intro MX MY LY a0 b0 h
  have hr := h
  obtain ⟨nt, nti, ⟨s, St, n, ru, sd, sp, sk, hs⟩, h2, h3, h4, h5⟩ := h
  have ⟨a1, a2, a3, a4, a5, a6, a7, a8, a9⟩ := hs
  have s8 := a9.2.2.1
  -- what is left is told by two memories that differ in what was said alone
  have fin : ∀ (MX' MY' : xm) (sd' : Nat) (sp' sk' : Nat → Int), (∀ q, q ≠ 483 → q ≠ 484 → q ≠ 485 → MX' q = MX q) → (∀ q, q ≠ 1 → MY' q = MY q) → (∀ j, j ≠ 3 → (j < 322 ∨ 338 ≤ j) → MY' 1 j = MY 1 j) → TdX 483 MX' nt ru sd' sp' sk' → TdY (MY' 1) nt ru sd' sp' sk' → TdO nt ru sd' sp' sk' → Rel MX' MY' LY := by
    intro MX' MY' sd' sp' sk' fx fy fr x y z
    refine hr.done nt (fun nt' h' => (Snp.of hs).nt h') ?_ (fun q hq => fx q (by omega) (by omega) (by omega)) (fun q hq => fy q (by omega))
    exact Snp.of (s := s) (St := St) (n := n) ⟨a1.fr (fun q _ _ => fx q (by omega) (by omega) (by omega)), a2.fr a3.ok (fun j _ _ => fr j (by omega) (by omega)), a3, a4.fr (fun q _ _ => fx q (by omega) (by omega) (by omega)), ⟨a5.1, by rw [fr 2 (by omega) (by omega)]; exact a5.2.1, fun i hi => (a5.2.2 i hi).fr (a6 i hi).ok (fun j j1 j2 => by unfold rwY; exact fr _ (by omega) (by omega))⟩, a6, x, y, z⟩
  unfold f_X9_said f_X10_said
  have zm : (-1 : Int32).toInt = -1 := rfl
  by_cases c : a0 = -1
  · rw [if_pos c, if_pos c, xlet_eq, xlet_eq]
    refine ⟨_, _, _, rfl, rfl, fin _ _ 0 sp sk (fun q q1 _ _ => up2_cell q1) (fun q q1 => up2_cell q1) (fun j j1 j2 => by rw [up2_row, if_neg j1]) ⟨by rw [up2_same]; rfl, by rw [up2_ne (by omega)]; exact a7.2.1, by rw [up2_ne (by omega)]; exact a7.2.2.1, fun i hi => absurd hi (by omega)⟩ ⟨by rw [up2_row, if_neg (by omega)]; exact a8.1, by rw [up2_row, if_neg (by omega)]; exact a8.2.1, by rw [up2_same]; rfl, fun i hi => absurd hi (by omega)⟩ ⟨a9.1, a9.2.1, by omega, fun i hi => absurd hi (by omega)⟩⟩
  · rw [if_neg c, if_neg c, f_isPage_eq, yPage, yIn]
    have z0 : (0 : Int32).toInt = 0 := rfl
    have z1 : (1 : Int32).toInt = 1 := rfl
    rw [z0, z1]
    by_cases d : 0 ≤ a0.toInt ∧ a0.toInt ≤ 7
    · rw [if_pos (c := 0 ≤ a0.toInt ∧ a0.toInt < 8) (by omega), if_neg n10, if_pos d, if_neg n10]
      by_cases e : 0 ≤ b0.toInt ∧ b0.toInt ≤ 1
      · rw [if_neg (c := b0 < 0) (by rw [i_lt, z0]; omega), if_neg (c := 1 < b0) (by rw [i_lt, z1]; omega), if_pos e, if_neg n10]
        by_cases g : sd = 8
        · rw [if_neg (by rw [i_lt, a7.1]; simp only [Int32.reduceToInt]; omega), if_pos (by rw [i_eq, a8.2.2.1, g]; rfl)]
          exact ⟨_, MX, MY, rfl, rfl, hr⟩
        · have y2 : ((322 : Int32) + 2 * MY 1 3).toInt = ((322 + 2 * sd : Nat) : Int) := by
            rw [i_add (x := 322) (a := 322) rfl (i_mul (x := 2) (a := 2) rfl a8.2.2.1 (by omega) (by omega)) (by omega) (by omega)]; omega
          have k8 : (up2 MX (483 + 1) sd a0) 483 2 = MX 483 2 := by rw [up2_cell (by omega)]
          have m8 : (up2 MY 1 (322 + 2 * sd) a0) 1 3 = MY 1 3 := by rw [up2_row, if_neg (by omega)]
          have y3 : ((322 : Int32) + 2 * MY 1 3 + 1).toInt = ((322 + 2 * sd + 1 : Nat) : Int) := by
            rw [i_add y2 (b := 1) rfl (by omega) (by omega)]; omega
          rw [if_pos (by rw [i_lt, a7.1]; simp only [Int32.reduceToInt]; omega), if_pos (i_in a7.1 (by omega)), i_ix a7.1, if_neg (by rw [i_eq, a8.2.2.1]; simp only [Int32.reduceToInt]; omega), if_pos (i_in y2 (by omega)), i_ix y2]
          simp only [xlet_eq]
          rw [k8, if_pos (i_in a7.1 (by omega)), i_ix a7.1, m8, if_pos (i_in y3 (by omega)), i_ix y3]
          have vx : (up2 (up2 MX (483 + 1) sd a0) (483 + 2) sd b0) 483 2 = MX 483 2 := by rw [up2_cell (by omega), up2_cell (by omega)]
          have vy : (up2 (up2 MY 1 (322 + 2 * sd) a0) 1 (322 + 2 * sd + 1) b0) 1 3 = MY 1 3 := by rw [up2_row, if_neg (by omega), up2_row, if_neg (by omega)]
          rw [vx, vy, up2_same, up2_same]
          have nx : (MX 483 2 + 1).toInt = ((sd + 1 : Nat) : Int) := by rw [i_add a7.1 (b := 1) rfl (by omega) (by omega)]; omega
          have ny : (MY 1 3 + 1).toInt = ((sd + 1 : Nat) : Int) := by rw [i_add a8.2.2.1 (b := 1) rfl (by omega) (by omega)]; omega
          refine ⟨_, _, _, rfl, by rw [i_inj nx ny], fin _ _ (sd + 1) (fun i => if i = sd then a0.toInt else sp i) (fun i => if i = sd then b0.toInt else sk i) (fun q q1 q2 q3 => by rw [up2_cell q1, up2_cell (by omega), up2_cell (by omega)]) (fun q q1 => by rw [up2_cell q1, up2_cell q1, up2_cell q1]) (fun j j1 j2 => by rw [up2_row, if_neg j1, up2_row, if_neg (by omega), up2_row, if_neg (by omega)]) ⟨by rw [up2_same]; exact nx, ?_, ?_, fun i hi => ?_⟩ ⟨?_, ?_, by rw [up2_same]; exact ny, fun i hi => ?_⟩ ⟨a9.1, a9.2.1, by omega, fun i hi => ?_⟩⟩
          · rw [up2_ne (by omega), up2_cell (by omega), up2_cell (by omega)]; exact a7.2.1
          · rw [up2_ne (by omega), up2_cell (by omega), up2_cell (by omega)]; exact a7.2.2.1
          · have e1 : up2 (up2 (up2 MX (483 + 1) sd a0) (483 + 2) sd b0) 483 2 (MX 483 2 + 1) (483 + 1) i = if i = sd then a0 else MX (483 + 1) i := by
              rw [up2_cell (by omega), up2_cell (by omega), up2_row]
            have e2 : up2 (up2 (up2 MX (483 + 1) sd a0) (483 + 2) sd b0) 483 2 (MX 483 2 + 1) (483 + 2) i = if i = sd then b0 else MX (483 + 2) i := by
              rw [up2_cell (by omega), up2_row, up2_cell (by omega)]
            rw [e1, e2]
            show _ = (if i = sd then a0.toInt else sp i) ∧ _ = (if i = sd then b0.toInt else sk i)
            by_cases q : i = sd
            · rw [if_pos q, if_pos q, if_pos q, if_pos q]; exact ⟨rfl, rfl⟩
            · rw [if_neg q, if_neg q, if_neg q, if_neg q]; exact a7.2.2.2 i (by omega)
          · rw [up2_row, if_neg (by omega), up2_row, if_neg (by omega), up2_row, if_neg (by omega)]; exact a8.1
          · rw [up2_row, if_neg (by omega), up2_row, if_neg (by omega), up2_row, if_neg (by omega)]; exact a8.2.1
          · have e1 : up2 (up2 (up2 MY 1 (322 + 2 * sd) a0) 1 (322 + 2 * sd + 1) b0) 1 3 (MY 1 3 + 1) 1 (322 + 2 * i) = if i = sd then a0 else MY 1 (322 + 2 * i) := by
              rw [up2_row, if_neg (by omega), up2_row, if_neg (by omega), up2_row]
              by_cases q : i = sd
              · rw [if_pos q, if_pos (by omega)]
              · rw [if_neg q, if_neg (by omega)]
            have e2 : up2 (up2 (up2 MY 1 (322 + 2 * sd) a0) 1 (322 + 2 * sd + 1) b0) 1 3 (MY 1 3 + 1) 1 (322 + 2 * i + 1) = if i = sd then b0 else MY 1 (322 + 2 * i + 1) := by
              rw [up2_row, if_neg (by omega), up2_row]
              by_cases q : i = sd
              · rw [if_pos q, if_pos (by omega)]
              · rw [if_neg q, if_neg (by omega), up2_row, if_neg (by omega)]
            rw [e1, e2]
            show _ = (if i = sd then a0.toInt else sp i) ∧ _ = (if i = sd then b0.toInt else sk i)
            by_cases q : i = sd
            · rw [if_pos q, if_pos q, if_pos q, if_pos q]; exact ⟨rfl, rfl⟩
            · rw [if_neg q, if_neg q, if_neg q, if_neg q]; exact a8.2.2.2 i (by omega)
          · show (0 ≤ (if i = sd then a0.toInt else sp i) ∧ (if i = sd then a0.toInt else sp i) < 8) ∧ (0 ≤ (if i = sd then b0.toInt else sk i) ∧ (if i = sd then b0.toInt else sk i) ≤ 1)
            by_cases q : i = sd
            · rw [if_pos q, if_pos q]; omega
            · rw [if_neg q, if_neg q]; exact a9.2.2.2 i (by omega)
      · rw [if_neg e, if_pos rfl]
        refine ⟨-2, MX, MY, ?_, rfl, hr⟩
        by_cases q : b0.toInt < 0
        · rw [if_pos (by rw [i_lt, z0]; exact q)]
        · rw [if_neg (by rw [i_lt, z0]; exact q), if_pos (by rw [i_lt, z1]; omega)]
    · rw [if_neg (c := 0 ≤ a0.toInt ∧ a0.toInt < 8) (by omega), if_pos rfl, if_neg d, if_pos rfl]
      exact ⟨_, MX, MY, rfl, rfl, hr⟩
/-- a line of the book -/
theorem x_part {u : Nat} {M : xm} {s : hs} (h : RX u M s) (o : Ok s) {a b : Int32} {i j : Nat} (ha : a.toInt = (i : Int)) (hi : (i : Int) < s 13 0) (hb : b.toInt = (j : Int)) (hj : j < 3) : ∃ v, f_X0_part (u + 13) M a b = some v ∧ v.toInt = s 13 (1 + 3 * i + j) := by
  obtain ⟨b1, b2, b3, b4⟩ := h.2
  have on := o.n
  obtain ⟨f, hf⟩ : ∃ f : Nat, (M (u + 13) 1).toInt = f := ⟨(M (u + 13) 1).toInt.toNat, by omega⟩
  have e1 := i_rem (i_add hf ha (by omega) (by omega)) (y := 25) (b := 25) rfl (by omega) (by omega) (by omega)
  have e2 : (xrem (M (u + 13) 1 + a) 25).toInt = (((f + i) % 25 : Nat) : Int) := by rw [e1]; omega
  have e3 := i_mul e2 (y := 3) (b := 3) rfl (by omega) (by omega)
  have e4 : (xrem (M (u + 13) 1 + a) 25 * 3 + b).toInt = (((f + i) % 25 * 3 + j : Nat) : Int) := by rw [i_add e3 hb (by omega) (by omega)]; omega
  unfold f_X0_part
  rw [if_neg (by rw [i_lt, ha]; simp only [Int32.reduceToInt]; omega), if_neg (by rw [i_le, b1, ha]; omega), if_neg (by rw [i_lt, hb]; simp only [Int32.reduceToInt]; omega), if_pos (by rw [i_lt, hb]; simp only [Int32.reduceToInt]; omega), xlet_eq, if_neg (by rw [i_lt, e4]; simp only [Int32.reduceToInt]; omega), if_neg (by rw [i_le, e4]; simp only [Int32.reduceToInt]; omega), if_pos (i_in e4 (by omega)), i_ix e4]
  refine ⟨_, rfl, ?_⟩
  have := b4 i j hi hj
  rw [hf, Int.toNat_natCast] at this
  exact this
theorem y_lineOf {M : xm} {s : hs} (h : RY M s) (o : Ok s) {a b : Int32} {i j : Nat} (ha : a.toInt = (i : Int)) (hi : (i : Int) < s 13 0) (hb : b.toInt = (j : Int)) (hj : j < 3) : ∃ v, f_X10_lineOf M a b = some v ∧ v.toInt = s 13 (1 + 3 * i + j) := by
  have on := o.n
  have ob := o.b hi
  have hl := h.2.2 i hi
  have e := yx 297 (b := 297) rfl ha (by omega)
  unfold f_X10_lineOf
  rw [if_pos e.1, e.2, xlet_eq]
  by_cases j0 : j = 0
  · subst j0
    rw [if_pos (by rw [i_eq, hb]; rfl)]
    refine ⟨_, rfl, ?_⟩
    rw [i_div hl (y := 1536) (b := 1536) rfl (by omega) (by omega) (by omega)]
    show _ = s 13 (1 + 3 * i)
    omega
  · rw [if_neg (by rw [i_eq, hb]; simp only [Int32.reduceToInt]; omega)]
    by_cases j1 : j = 1
    · subst j1
      rw [if_pos (by rw [i_eq, hb]; rfl)]
      refine ⟨_, rfl, ?_⟩
      rw [i_rem (i_div hl (y := 256) (b := 256) rfl (by omega) (by omega) (by omega)) (y := 6) (b := 6) rfl (by omega) (by omega) (by omega), show 1 + 3 * i + 1 = 2 + 3 * i by omega]
      omega
    · have j2 : j = 2 := by omega
      subst j2
      rw [if_neg (by rw [i_eq, hb]; decide)]
      refine ⟨_, rfl, ?_⟩
      rw [i_rem hl (y := 256) (b := 256) rfl (by omega) (by omega) (by omega), show 1 + 3 * i + 2 = 3 + 3 * i by omega]
      omega
theorem s_book : sim_book Rel := by
  intro MX MY LY a0 b0 h
  have hr := h
  obtain ⟨nt, nti, ⟨s, St, n, ru, sd, sp, sk, a1, a2, a3, _⟩, _⟩ := h
  have o := a3.ok
  have on := o.n
  unfold f_X9_book f_X10_book
  rw [yIn, yIn]
  have z0 : (0 : Int32).toInt = 0 := rfl
  have z2 : (2 : Int32).toInt = 2 := rfl
  have w12 : (MY 1 12).toInt = s 13 0 := a2.2.1
  have x2 : (MX (1 + 13) 2).toInt = s 13 0 := a1.2.1
  rw [z0, z2, i_sub w12 (y := 1) (b := 1) rfl (by omega) (by omega)]
  by_cases c : a0 = -1
  · rw [if_pos c, if_pos c, i_inj x2 w12]
    exact ⟨_, rfl, rfl, hr⟩
  · rw [if_neg c, if_neg c]
    by_cases d : (0 ≤ a0.toInt ∧ a0.toInt ≤ s 13 0 - 1) ∧ (0 ≤ b0.toInt ∧ b0.toInt ≤ 2)
    · obtain ⟨i, hi⟩ : ∃ i : Nat, a0.toInt = i := ⟨a0.toInt.toNat, by omega⟩
      obtain ⟨j, hj⟩ : ∃ j : Nat, b0.toInt = j := ⟨b0.toInt.toNat, by omega⟩
      obtain ⟨v, v1, v2⟩ := x_part a1 o hi (by omega) hj (by omega)
      obtain ⟨w, w1, w2⟩ := y_lineOf a2 o hi (by omega) hj (by omega)
      rw [v1, xb1_some, if_pos d.1, if_neg n10, if_pos d.2, if_neg n10, w1, xb1_some, i_inj v2 w2]
      exact ⟨_, rfl, rfl, hr⟩
    · have k : f_X0_part (1 + 13) MX a0 b0 = some (-2) := by
        unfold f_X0_part
        by_cases e1 : a0.toInt < 0
        · rw [if_pos (by rw [i_lt]; exact e1)]
        · rw [if_neg (by rw [i_lt]; exact e1)]
          by_cases e2 : s 13 0 ≤ a0.toInt
          · rw [if_pos (by rw [i_le, x2]; exact e2)]
          · rw [if_neg (by rw [i_le, x2]; exact e2)]
            by_cases e3 : b0.toInt < 0
            · rw [if_pos (by rw [i_lt]; exact e3)]
            · rw [if_neg (by rw [i_lt]; exact e3), if_neg (by rw [i_lt]; simp only [Int32.reduceToInt]; omega)]
      rw [k, xb1_some]
      refine ⟨-2, rfl, ?_, hr⟩
      by_cases e1 : 0 ≤ a0.toInt ∧ a0.toInt ≤ s 13 0 - 1
      · rw [if_pos e1, if_neg n10, if_neg (fun q => d ⟨e1, q⟩), if_pos rfl]
      · rw [if_neg e1, if_pos rfl]
theorem s_ledger : sim_ledger Rel := by
  intro MX MY LY a0 h
  have hr := h
  obtain ⟨nt, nti, ⟨s, St, n, ru, sd, sp, sk, a1, a2, a3, _⟩, _⟩ := h
  have o := a3.ok
  have on := o.n
  have w12 : (MY 1 12).toInt = s 13 0 := a2.2.1
  have x2 : (MX (1 + 13) 2).toInt = s 13 0 := a1.2.1
  obtain ⟨N, hN⟩ : ∃ N : Nat, s 13 0 = N := ⟨(s 13 0).toNat, by omega⟩
  have loop : ∀ (d i f k : Nat) (x y x' y' : Int32), i + d = N → d < f → x.toInt = (k : Int) → y.toInt = (i : Int) → x'.toInt = (k : Int) → y'.toInt = (i : Int) → k ≤ i → ∃ v, g_X0_linesOf_4 (1 + 13) MX a0 f x y = some v ∧ g_X10_ledger_16 MY a0 f x' y' = some v := by
    intro d
    induction d with
    | zero =>
      intro i f k x y x' y' hi hf hx hy hx' hy' hk
      obtain ⟨f, rfl⟩ : ∃ q, f = q + 1 := ⟨f - 1, by omega⟩
      unfold g_X0_linesOf_4 g_X10_ledger_16
      rw [if_pos (by rw [i_le, x2, hy]; omega), if_pos (by rw [i_le, w12, hy']; omega), i_inj hx hx']
      exact ⟨_, rfl, rfl⟩
    | succ d ih =>
      intro i f k x y x' y' hi hf hx hy hx' hy' hk
      obtain ⟨f, rfl⟩ : ∃ q, f = q + 1 := ⟨f - 1, by omega⟩
      obtain ⟨v, v1, v2⟩ := x_part a1 o hy (by omega) (b := 1) (j := 1) rfl (by omega)
      obtain ⟨w, w1, w2⟩ := y_lineOf a2 o hy' (by omega) (b := 1) (j := 1) rfl (by omega)
      have ny : (y + 1).toInt = ((i + 1 : Nat) : Int) := by rw [i_add hy (b := 1) rfl (by omega) (by omega)]; omega
      have ny' : (y' + 1).toInt = ((i + 1 : Nat) : Int) := by rw [i_add hy' (b := 1) rfl (by omega) (by omega)]; omega
      unfold g_X0_linesOf_4 g_X10_ledger_16
      rw [if_neg (by rw [i_le, x2, hy]; omega), if_neg (by rw [i_le, w12, hy']; omega), v1, xb1_some, w1, xb1_some, i_inj v2 w2]
      simp only [xlet_eq]
      by_cases c : w = a0
      · rw [if_pos c, if_pos c]
        exact ih (i + 1) f (k + 1) _ _ _ _ (by omega) (by omega) (by rw [i_add hx (b := 1) rfl (by omega) (by omega)]; omega) ny (by rw [i_add hx' (b := 1) rfl (by omega) (by omega)]; omega) ny' (by omega)
      · rw [if_neg c, if_neg c]
        exact ih (i + 1) f k _ _ _ _ (by omega) (by omega) hx ny (by rw [i_add hx' (b := 0) rfl (by omega) (by omega)]; omega) ny' (by omega)
  unfold f_X9_ledger f_X10_ledger
  rw [yIn]
  have z0 : (0 : Int32).toInt = 0 := rfl
  have z5 : (5 : Int32).toInt = 5 := rfl
  rw [z0, z5]
  by_cases d : 0 ≤ a0.toInt ∧ a0.toInt ≤ 5
  · obtain ⟨v, v1, v2⟩ := loop N 0 xfuel 0 0 0 0 0 (by omega) (by unfold xfuel; omega) rfl rfl rfl rfl (by omega)
    unfold f_X0_linesOf
    rw [if_neg (by rw [i_lt, z0]; omega), if_pos (by rw [i_lt]; simp only [Int32.reduceToInt]; omega), v1, xb1_some, xb1_some, if_pos d, if_neg n10, v2, xb1_some]
    exact ⟨_, rfl, rfl, hr⟩
  · rw [if_neg d, if_pos rfl]
    refine ⟨-2, ?_, rfl, hr⟩
    by_cases c : a0.toInt < 0
    · rw [if_pos (by rw [i_lt]; exact c)]
    · rw [if_neg (by rw [i_lt]; exact c), if_neg (by rw [i_lt]; simp only [Int32.reduceToInt]; omega)]
