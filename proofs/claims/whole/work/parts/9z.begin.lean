/-! how both begin -/
theorem in_roots : ∀ (d i f : Nat), i + d = 6 → d < f → ∀ (M : xm) (x : Int32), x.toInt = (i : Int) → ∃ M', g_X10_init_167 f M x = some M' ∧ (∀ q, q ≠ 1 → M' q = M q) ∧ ∀ j, M' 1 j = if 29 + i ≤ j ∧ j < 35 then (-1 : Int32) else M 1 j := by
  intro d
  induction d with
  | zero =>
    intro i f hi hf M x hx
    obtain ⟨f, rfl⟩ : ∃ q, f = q + 1 := ⟨f - 1, by omega⟩
    unfold g_X10_init_167
    rw [if_pos (by rw [i_le, hx]; simp only [Int32.reduceToInt]; omega)]
    exact ⟨M, rfl, fun _ _ => rfl, fun j => by rw [if_neg (by omega)]⟩
  | succ d ih =>
    intro i f hi hf M x hx
    obtain ⟨f, rfl⟩ : ∃ q, f = q + 1 := ⟨f - 1, by omega⟩
    have e0 := yx 29 (b := 29) rfl hx (by omega)
    unfold g_X10_init_167
    rw [if_neg (by rw [i_le, hx]; simp only [Int32.reduceToInt]; omega), if_pos e0.1, e0.2, xlet_eq, xlet_eq]
    obtain ⟨M', k1, k2, k3⟩ := ih (i + 1) f (by omega) (by omega) (up2 M 1 (29 + i) (-1)) (x + 1) (by rw [i_add hx (b := 1) rfl (by omega) (by omega)]; omega)
    refine ⟨M', k1, fun q hq => by rw [k2 q hq, up2_cell hq], fun j => ?_⟩
    rw [k3 j, up2_row]
    clear k1 k2 k3 ih
    repeat' split
    all_goals first | rfl | (exfalso; omega)
theorem in_reads : ∀ (d i f : Nat), i + d = 2 → d < f → ∀ (M : xm) (x : Int32), x.toInt = (i : Int) → ∃ M', g_X10_init_191 f M x = some M' ∧ (∀ q, q ≠ 1 → M' q = M q) ∧ ∀ j, M' 1 j = if 35 + i ≤ j ∧ j < 37 then (-1 : Int32) else M 1 j := by
  intro d
  induction d with
  | zero =>
    intro i f hi hf M x hx
    obtain ⟨f, rfl⟩ : ∃ q, f = q + 1 := ⟨f - 1, by omega⟩
    unfold g_X10_init_191
    rw [if_pos (by rw [i_le, hx]; simp only [Int32.reduceToInt]; omega)]
    exact ⟨M, rfl, fun _ _ => rfl, fun j => by rw [if_neg (by omega)]⟩
  | succ d ih =>
    intro i f hi hf M x hx
    obtain ⟨f, rfl⟩ : ∃ q, f = q + 1 := ⟨f - 1, by omega⟩
    have e0 := yx 35 (b := 35) rfl hx (by omega)
    unfold g_X10_init_191
    rw [if_neg (by rw [i_le, hx]; simp only [Int32.reduceToInt]; omega), if_pos e0.1, e0.2, xlet_eq, xlet_eq]
    obtain ⟨M', k1, k2, k3⟩ := ih (i + 1) f (by omega) (by omega) (up2 M 1 (35 + i) (-1)) (x + 1) (by rw [i_add hx (b := 1) rfl (by omega) (by omega)]; omega)
    refine ⟨M', k1, fun q hq => by rw [k2 q hq, up2_cell hq], fun j => ?_⟩
    rw [k3 j, up2_row]
    clear k1 k2 k3 ih
    repeat' split
    all_goals first | rfl | (exfalso; omega)
theorem in_words : ∀ (d i f : Nat), i + d = 64 → d < f → ∀ (M : xm) (x : Int32), x.toInt = (i : Int) → ∃ M', g_X10_init_214 f M x = some M' ∧ (∀ q, q ≠ 1 → M' q = M q) ∧ ∀ j, M' 1 j = if 41 + i ≤ j ∧ j < 105 then (-2 : Int32) else if 105 + i ≤ j ∧ j < 169 then (-1 : Int32) else M 1 j := by
  intro d
  induction d with
  | zero =>
    intro i f hi hf M x hx
    obtain ⟨f, rfl⟩ : ∃ q, f = q + 1 := ⟨f - 1, by omega⟩
    unfold g_X10_init_214
    rw [if_pos (by rw [i_le, hx]; simp only [Int32.reduceToInt]; omega)]
    exact ⟨M, rfl, fun _ _ => rfl, fun j => by rw [if_neg (by omega), if_neg (by omega)]⟩
  | succ d ih =>
    intro i f hi hf M x hx
    obtain ⟨f, rfl⟩ : ∃ q, f = q + 1 := ⟨f - 1, by omega⟩
    have e0 := yx 41 (b := 41) rfl hx (by omega)
    have e1 := yx 105 (b := 105) rfl hx (by omega)
    unfold g_X10_init_214
    rw [if_neg (by rw [i_le, hx]; simp only [Int32.reduceToInt]; omega), if_pos e0.1, e0.2, xlet_eq, if_pos e1.1, e1.2, xlet_eq, xlet_eq]
    obtain ⟨M', k1, k2, k3⟩ := ih (i + 1) f (by omega) (by omega) (up2 (up2 M 1 (41 + i) (-2)) 1 (105 + i) (-1)) (x + 1) (by rw [i_add hx (b := 1) rfl (by omega) (by omega)]; omega)
    refine ⟨M', k1, fun q hq => by rw [k2 q hq, up2_cell hq, up2_cell hq], fun j => ?_⟩
    rw [k3 j, up2_row, up2_row]
    clear k1 k2 k3 ih
    repeat' split
    all_goals first | rfl | (exfalso; omega)
def rowY (j : Nat) : Int32 := if 41 ≤ j ∧ j < 105 then -2 else if 105 ≤ j ∧ j < 169 then -1 else if 35 ≤ j ∧ j < 37 then -1 else if 29 ≤ j ∧ j < 35 then -1 else if j = 10 then -1 else if j = 9 then -1 else if j = 11 then 1 else if j = 7 then 2 else if j = 1 then -1 else if j = 5 then 463 else 0
theorem y_begin : ∃ M1, f_X10_init Y0 = some M1 ∧ M1 0 = Y0 0 ∧ (∀ j, j < 9878 → M1 1 j = rowY j) ∧ ∀ j, j < 9878 → M1 2 j = rowY j := by
  have xf : 70 < xfuel := by unfold xfuel; omega
  unfold f_X10_init
  rw [xlet_eq, xlet_eq, xlet_eq, xlet_eq, xlet_eq, xlet_eq]
  obtain ⟨N0, e0⟩ : ∃ N, N = up2 (up2 (up2 (up2 (up2 (up2 Y0 1 5 (463 : Int32)) 1 1 (-1 : Int32)) 1 7 (2 : Int32)) 1 11 (1 : Int32)) 1 9 (-1 : Int32)) 1 10 (-1 : Int32) := ⟨_, rfl⟩
  rw [← e0]
  obtain ⟨N1, a1, a2, a3⟩ := in_roots 6 0 xfuel (by omega) (by omega) N0 0 rfl
  obtain ⟨N2, b1, b2, b3⟩ := in_reads 2 0 xfuel (by omega) (by omega) N1 0 rfl
  obtain ⟨N3, c1, c2, c3⟩ := in_words 64 0 xfuel (by omega) (by omega) N2 0 rfl
  obtain ⟨N4, d1, d2, d3⟩ := y_layRow (o1 := 1) (o2 := 2) (by decide) N3
  have r3 : ∀ j, N3 1 j = rowY j := fun j => by
    rw [c3 j, b3 j, a3 j, e0, up2_row, up2_row, up2_row, up2_row, up2_row, up2_row]
    rfl
  rw [a1, xb1_some, b1, xb1_some, c1, xb1_some, d1, xb1_some]
  refine ⟨N4, rfl, ?_, fun j hj => by rw [d2 1 (by decide)]; exact r3 j, fun j hj => by rw [d3 j hj]; exact r3 j⟩
  rw [d2 0 (by decide), c2 0 (by decide), b2 0 (by decide), a2 0 (by decide), e0, up2_cell (by decide), up2_cell (by decide), up2_cell (by decide), up2_cell (by decide), up2_cell (by decide), up2_cell (by decide)]
/-- the heap as it is made -/
def sIni : hs
  | 0, i => if i = 15 then 2 else if i = 16 then 1 else if i = 18 then 463 else 0
  | 1, _ => -2
  | 2, _ => -1
  | 8, _ => -1
  | 9, _ => -1
  | 10, _ => -1
  | 11, _ => -1
  | 12, _ => -1
  | _, _ => 0
theorem rx_ini {u : Nat} (h : iat u iHeap) : RX u X0 sIni := by
  have e : ∀ k i x, iHeap[k]? = some x → X0 (u + k) i = rowOf x i := fun k i x hx => by unfold X0; rw [h k x hx]
  refine ⟨fun k i hd => ?_, ?_⟩
  · have hk := (xd_lt hd).1
    have hd := (of_decide_eq_true hd).1
    rcases (show k = 0 ∨ k = 1 ∨ k = 2 ∨ k = 3 ∨ k = 4 ∨ k = 5 ∨ k = 6 ∨ k = 7 ∨ k = 8 ∨ k = 9 ∨ k = 10 ∨ k = 11 ∨ k = 12 by omega) with rfl | rfl | rfl | rfl | rfl | rfl | rfl | rfl | rfl | rfl | rfl | rfl | rfl
    · rw [e 0 i 5 rfl]
      show (if i = 15 then (2 : Int32) else if i = 16 then 1 else if i = 18 then 463 else 0).toInt = (if i = 15 then (2 : Int) else if i = 16 then 1 else if i = 18 then 463 else 0)
      repeat' split
      all_goals rfl
    · rw [e 1 i 1 rfl]
      show (if i < 64 then (-2 : Int32) else 0).toInt = (-2 : Int)
      rw [if_pos (show i < 64 from hd)]
      rfl
    · rw [e 2 i 2 rfl]
      show (if i < 64 then (-1 : Int32) else 0).toInt = (-1 : Int)
      rw [if_pos (show i < 64 from hd)]
      rfl
    · rw [e 3 i 0 rfl]
      rfl
    · rw [e 4 i 0 rfl]
      rfl
    · rw [e 5 i 0 rfl]
      rfl
    · rw [e 6 i 0 rfl]
      rfl
    · rw [e 7 i 0 rfl]
      rfl
    · rw [e 8 i 3 rfl]
      show (if i < 6 then (-1 : Int32) else 0).toInt = (-1 : Int)
      rw [if_pos (show i < 6 from hd)]
      rfl
    · rw [e 9 i 4 rfl]
      show (if i < 2 then (-1 : Int32) else 0).toInt = (-1 : Int)
      rw [if_pos (show i < 2 from hd)]
      rfl
    · rw [e 10 i 4 rfl]
      show (if i < 2 then (-1 : Int32) else 0).toInt = (-1 : Int)
      rw [if_pos (show i < 2 from hd)]
      rfl
    · rw [e 11 i 4 rfl]
      show (if i < 2 then (-1 : Int32) else 0).toInt = (-1 : Int)
      rw [if_pos (show i < 2 from hd)]
      rfl
    · rw [e 12 i 4 rfl]
      show (if i < 2 then (-1 : Int32) else 0).toInt = (-1 : Int)
      rw [if_pos (show i < 2 from hd)]
      rfl
  · refine ⟨by rw [e 13 2 0 rfl]; rfl, by rw [e 13 1 0 rfl]; decide, by rw [e 13 1 0 rfl]; decide, fun i j hi _ => ?_⟩
    have hi : (i : Int) < 0 := hi
    omega
theorem ry_ini {a : Nat → Int32} (h : ∀ j, j < 9878 → a j = rowY j) : RYr a sIni := by
  refine ⟨fun k i hd hc => ?_, by rw [h 12 (by omega)]; rfl, fun i hi => ?_⟩
  · have hd0 := hd
    have hx := (yd_x hd).1
    have hk := (xd_lt hx).1
    have hd := of_decide_eq_true hx
    have d1 := hd.1
    have d2 := hd.2
    clear hx
    rcases (show k = 0 ∨ k = 1 ∨ k = 2 ∨ k = 3 ∨ k = 4 ∨ k = 5 ∨ k = 6 ∨ k = 7 ∨ k = 8 ∨ k = 9 ∨ k = 10 ∨ k = 11 ∨ k = 12 by omega) with rfl | rfl | rfl | rfl | rfl | rfl | rfl | rfl | rfl | rfl | rfl | rfl | rfl
    · have d1 : i < 19 := d1
      have d2 := d2 rfl
      rcases (show i = 13 ∨ i = 14 ∨ i = 15 ∨ i = 16 ∨ i = 17 ∨ i = 18 by omega) with rfl | rfl | rfl | rfl | rfl | rfl
      · show (a 8).toInt = _
        rw [h 8 (by omega)]
        rfl
      · show (a 6).toInt = _
        rw [h 6 (by omega)]
        rfl
      · show (a 7).toInt = _
        rw [h 7 (by omega)]
        rfl
      · show (a 11).toInt = _
        rw [h 11 (by omega)]
        rfl
      · show (a 4).toInt = _
        rw [h 4 (by omega)]
        rfl
      · show (a 5).toInt = _
        rw [h 5 (by omega)]
        rfl
    · have d1 : i < 64 := d1
      show (a (41 + i)).toInt = (-2 : Int)
      rw [h _ (by omega)]
      clear d2 hd hc h
      unfold rowY
      repeat' split
      all_goals first | rfl | (exfalso; omega)
    · have d1 : i < 64 := d1
      show (a (105 + i)).toInt = (-1 : Int)
      rw [h _ (by omega)]
      clear d2 hd hc h
      unfold rowY
      repeat' split
      all_goals first | rfl | (exfalso; omega)
    · have d1 : i < 64 := d1
      show (a (169 + i)).toInt = (0 : Int)
      rw [h _ (by omega)]
      clear d2 hd hc h
      unfold rowY
      repeat' split
      all_goals first | rfl | (exfalso; omega)
    · have d1 : i < 64 := d1
      show (a (233 + i)).toInt = (0 : Int)
      rw [h _ (by omega)]
      clear d2 hd hc h
      unfold rowY
      repeat' split
      all_goals first | rfl | (exfalso; omega)
    · exact absurd (yd_x hd0).2 (by decide)
    · have d1 : i < 8 := d1
      show (a (21 + i)).toInt = (0 : Int)
      rw [h _ (by omega)]
      clear d2 hd hc h
      unfold rowY
      repeat' split
      all_goals first | rfl | (exfalso; omega)
    · have d1 : i < 8 := d1
      show (a (13 + i)).toInt = (0 : Int)
      rw [h _ (by omega)]
      clear d2 hd hc h
      unfold rowY
      repeat' split
      all_goals first | rfl | (exfalso; omega)
    · have d1 : i < 6 := d1
      show (a (29 + i)).toInt = (-1 : Int)
      rw [h _ (by omega)]
      clear d2 hd hc h
      unfold rowY
      repeat' split
      all_goals first | rfl | (exfalso; omega)
    · have d1 : i < 2 := d1
      show (a (9 + i)).toInt = (-1 : Int)
      rw [h _ (by omega)]
      clear d2 hd hc h
      unfold rowY
      repeat' split
      all_goals first | rfl | (exfalso; omega)
    · have d1 : i < 2 := d1
      show (a (35 + i)).toInt = (-1 : Int)
      rw [h _ (by omega)]
      clear d2 hd hc h
      unfold rowY
      repeat' split
      all_goals first | rfl | (exfalso; omega)
    · exact absurd rfl (hc (Or.inl rfl))
    · exact absurd rfl (hc (Or.inr rfl))
  · have hi : (i : Int) < 0 := hi
    omega
theorem lv_ini : ∀ (d w : Nat), sLv sIni d w = 0 := by
  intro d
  induction d with
  | zero => intro w; rfl
  | succ d ih =>
    intro w
    rw [sLv, ih, if_neg (fun q => absurd (show (0 : Int) = 1 from q.1) (by decide))]
    rfl
theorem ok_ini : Ok sIni := by
  refine ⟨fun k i hd => ?_, ⟨by decide, by decide⟩, fun i hi => ?_⟩
  · have hk := (xd_lt hd).1
    clear hd
    rcases (show k = 0 ∨ k = 1 ∨ k = 2 ∨ k = 3 ∨ k = 4 ∨ k = 5 ∨ k = 6 ∨ k = 7 ∨ k = 8 ∨ k = 9 ∨ k = 10 ∨ k = 11 ∨ k = 12 by omega) with rfl | rfl | rfl | rfl | rfl | rfl | rfl | rfl | rfl | rfl | rfl | rfl | rfl
    · exact ⟨fun h => by subst h; exact ⟨by decide, by decide⟩, fun h => by subst h; exact ⟨by decide, by decide⟩, fun h => by subst h; exact ⟨by decide, by decide⟩, fun h => by subst h; exact ⟨by decide, by decide⟩, fun h => by subst h; exact ⟨by decide, by decide⟩, fun h => by subst h; exact ⟨by decide, by decide⟩⟩
    · exact ⟨(by decide : (-2 : Int) ≤ -2), (by decide : (-2 : Int) ≤ 1003)⟩
    · exact ⟨(by decide : (-1 : Int) ≤ -1), (by decide : (-1 : Int) ≤ 63)⟩
    · exact ⟨(by decide : (0 : Int) ≤ 0), (by decide : (0 : Int) ≤ 1)⟩
    · exact ⟨(by decide : (0 : Int) ≤ 0), (by decide : (0 : Int) ≤ 63)⟩
    · exact ⟨(by decide : (0 : Int) ≤ 0), (by decide : (0 : Int) ≤ 100)⟩
    · exact ⟨(by decide : (0 : Int) ≤ 0), (by decide : (0 : Int) ≤ 8)⟩
    · exact ⟨(by decide : (0 : Int) ≤ 0), (by decide : (0 : Int) ≤ 2)⟩
    · exact ⟨(by decide : (-1 : Int) ≤ -1), (by decide : (-1 : Int) ≤ 191)⟩
    · exact ⟨(by decide : (-1 : Int) ≤ -1), (by decide : (-1 : Int) ≤ 7)⟩
    · exact ⟨(by decide : (-1 : Int) ≤ -1), (by decide : (-1 : Int) ≤ 63)⟩
    · exact ⟨(by decide : (-1 : Int) ≤ -1), (by decide : (-1 : Int) ≤ 191)⟩
    · exact ⟨(by decide : (-1 : Int) ≤ -1), (by decide : (-1 : Int) ≤ 63)⟩
  · have hi : (i : Int) < 0 := hi
    omega
theorem ho_ini : HO sIni := by
  have p1 : ¬ sIni 0 14 = 1 := by decide
  have p2 : ¬ sIni 0 14 = 2 := by decide
  have w0 : ∀ w, ¬ 1000 ≤ sIni 1 w := fun w q => absurd (show (1000 : Int) ≤ -2 from q) (by decide)
  refine ⟨⟨no, ok_ini, ⟨fun w _ q => absurd q (w0 w), fun w _ q => absurd q (w0 w), fun w _ _ => ⟨rfl, rfl⟩, fun w _ q => absurd (show (0 : Int) = 1 from q) (by decide), fun p _ _ => rfl, fun u _ q => absurd rfl q, fun p _ => (lv_ini 8 (8 * p)).symm⟩, fun q => absurd q p2, ⟨fun w q => q.elim, fun r _ => Or.inl rfl, fun w q => q.elim, fun t _ q => absurd rfl q, fun t _ q => absurd rfl q, fun q => absurd rfl q, fun t _ q => absurd rfl q, fun q => absurd q p1, fun q => absurd q p1, fun q => absurd q p1, fun q => absurd q p2, fun q => absurd q p2, fun q => absurd q p2, ⟨fun q => absurd q p1, fun _ => rfl⟩, fun _ p _ q => absurd (show (0 : Int) = 2 from q) (by decide)⟩, fun r _ => Or.inl rfl⟩, by decide, fun t _ q => absurd rfl q⟩
theorem sna_ini {u b c : Nat} {a : Nat → Int32} (h1 : iat u iHeap) (h2 : iat b iSteps) (h3 : iat c iTold) (h : ∀ j, j < 9878 → a j = rowY j) : Sna u b c X0 a 0 := by
  have e2 : ∀ i, X0 b i = rowOf 0 i := fun i => by unfold X0; rw [show inC b = 0 from h2 0 0 rfl]
  have e3 : ∀ i, X0 c i = rowOf 6 i := fun i => by unfold X0; rw [show inC c = 6 from h3 0 6 rfl]
  refine ⟨sIni, fun _ => sIni, 0, -1, 0, fun _ => 0, fun _ => 0, rx_ini h1, ry_ini h, ho_ini, ⟨by omega, by rw [e2]; rfl, ⟨by rw [e2]; decide, by rw [e2]; decide⟩, fun i hi => absurd hi (by omega)⟩, ⟨by omega, by rw [h 2 (by omega)]; rfl, fun i hi => absurd hi (by omega)⟩, fun i hi => absurd hi (by omega), ⟨by rw [e3]; rfl, by rw [e3]; rfl, by rw [e3]; rfl, fun i hi => absurd hi (by omega)⟩, ⟨by rw [h 0 (by omega)]; rfl, by rw [h 1 (by omega)]; rfl, by rw [h 3 (by omega)]; rfl, fun i hi => absurd hi (by omega)⟩, by omega, ⟨by omega, by omega⟩, by omega, fun i hi => absurd hi (by omega)⟩
theorem rel_ini : ∃ M1, f_X10_init Y0 = some M1 ∧ Rel X0 M1 Z0 := by
  obtain ⟨M1, a1, a2, a3, a4⟩ := y_begin
  have e : ∀ i, X0 990 i = rowOf 7 i := fun i => by unfold X0; rw [show inC 990 = 7 from IX_reader 0 7 rfl]
  refine ⟨M1, a1, 0, 0, sna_ini IX_heap IX_steps IX_told a3, sna_ini IX_imageHeap IX_imageSteps IX_imageTold a4, by omega, ⟨0, by omega, by rw [e]; rfl, by rw [a2]; rfl, fun i hi => absurd hi (by omega), by rw [e, a2]; rfl, by rw [e, a2]; rfl⟩, fun t ht => absurd ht (by omega)⟩
