/-! deeds that are steps -/
theorem TdY.fr {a a' : Nat → Int32} {nt sd : Nat} {ru : Int} {sp sk : Nat → Int} (h : TdY a nt ru sd sp sk) (hs : sd ≤ 8) (h1 : ∀ j, j < 4 → j ≠ 2 → a' j = a j) (h2 : ∀ j, 322 ≤ j → j < 338 → a' j = a j) : TdY a' nt ru sd sp sk := by
  obtain ⟨b1, b2, b3, b4⟩ := h
  refine ⟨by rw [h1 0 (by omega) (by omega)]; exact b1, by rw [h1 1 (by omega) (by omega)]; exact b2, by rw [h1 3 (by omega) (by omega)]; exact b3, fun i hi => ?_⟩
  rw [h2 _ (by omega) (by omega), h2 _ (by omega) (by omega)]
  exact b4 i hi
theorem HO.ok {s : hs} (h : HO s) : Ok s := by
  obtain ⟨⟨G, hi⟩, _⟩ := h
  exact hi.1
theorem HO_k {St : Nat → hs} {n : Nat} {s : hs} (h : ∀ i, i < n → HO (St i)) (hs : HO s) (hn : n ≤ 30) : ∀ i, i < kN n → HO (kSt St n s i) := by
  intro i hi
  unfold kSt
  unfold kN at hi
  by_cases c : n = 30
  · rw [if_pos c] at hi ⊢
    show HO (if i < 29 then St (i + 1) else s)
    split
    · exact h (i + 1) (by omega)
    · exact hs
  · rw [if_neg c] at hi ⊢
    show HO (if i = n then s else St i)
    split
    · exact hs
    · exact h i (by omega)
/-- class and reference keep a step: then a deed is done on both -/
theorem kept {MX MY : xm} {nt : Nat} {s : hs} {St : Nat → hs} {n : Nat} {ru : Int} {sd : Nat} {sp sk : Nat → Int} (h : Snp 1 16 483 MX (MY 1) nt s St n ru sd sp sk) : ∃ M1 M2 N1, f_X5_prepare 16 1 MX = some M1 ∧ f_X5_keep 16 M1 = some M2 ∧ f_X10_keep MY = some N1 ∧ RX 1 M1 s ∧ PrX 16 M1 St n s ∧ RX 1 M2 s ∧ RY N1 s ∧ Snp 1 16 483 M2 (N1 1) nt s (kSt St n s) (kN n) ru sd sp sk ∧ (∀ q, (q < 16 ∨ 483 ≤ q) → M1 q = MX q) ∧ (∀ q, (q < 16 ∨ 483 ≤ q) → M2 q = MX q) ∧ (∀ q, q ≠ 1 → N1 q = MY q) ∧ (∀ j, j < 338 → j ≠ 2 → N1 1 j = MY 1 j) := by
  obtain ⟨a1, a2, a3, a4, a5, a6, a7, a8, a9⟩ := h
  obtain ⟨M1, p1, p2, p3, p4⟩ := x_prepare (b := 16) (u := 1) (by omega) a1 a3.ok a4
  obtain ⟨M2, k1, k2, k3⟩ := x_keep p3
  obtain ⟨N1, y1, y2, y3, y4, y5⟩ := y_keep a2 a3.ok a5 (fun i hi => (a6 i hi).ok)
  have f2 : ∀ q, (q < 16 ∨ 483 ≤ q) → M2 q = MX q := fun q hq => (k3 q (by omega)).trans (p4 q (by omega))
  have r2 : RX 1 M2 s := p2.fr (fun q _ _ => k3 q (by omega))
  exact ⟨M1, M2, N1, p1, k1, y1, p2, p3, r2, y2, ⟨r2, y2, a3, k2, y3, HO_k a6 a3 a4.1, a7.fr (fun q _ _ => f2 q (by omega)), a8.fr a9.2.2.1 (fun j j1 j2 => y5 j (by omega) j2) (fun j j1 j2 => y5 j (by omega) (by omega)), a9⟩, fun q hq => p4 q (by omega), f2, y4, y5⟩
/-- the heap changes alone -/
theorem Snp.heap {MX MY MX' MY' : xm} {nt : Nat} {s s' : hs} {St : Nat → hs} {n : Nat} {ru : Int} {sd : Nat} {sp sk : Nat → Int} (h : Snp 1 16 483 MX (MY 1) nt s St n ru sd sp sk) (hx : RX 1 MX' s') (hy : RY MY' s') (ho : HO s') (fx : frL 1 MX MX') (fy : frP MY MY') : Snp 1 16 483 MX' (MY' 1) nt s' St n ru sd sp sk := by
  obtain ⟨a1, a2, a3, a4, a5, a6, a7, a8, a9⟩ := h
  refine ⟨hx, hy, ho, a4.fr (fun q _ _ => fx q (by omega) (by omega) (by omega)), ⟨a5.1, by rw [fy.2 2 (by omega)]; exact a5.2.1, fun i hi => ?_⟩, a6, a7.fr (fun q _ _ => fx q (by omega) (by omega) (by omega)), a8.fr a9.2.2.1 (fun j j1 j2 => fy.2 j (by omega)) (fun j j1 j2 => fy.2 j (by omega)), a9⟩
  refine (a5.2.2 i hi).fr (a6 i hi).ok (fun j j1 j2 => ?_)
  unfold rwY
  exact fy.2 _ (by omega)
theorem Snp.of {u b c : Nat} {M : xm} {a : Nat → Int32} {nt : Nat} {s : hs} {St : Nat → hs} {n : Nat} {ru : Int} {sd : Nat} {sp sk : Nat → Int} (h : Snp u b c M a nt s St n ru sd sp sk) : Sna u b c M a nt := ⟨s, St, n, ru, sd, sp, sk, h⟩
/-- the whole relation, when both did a step -/
theorem Rel.done {MX MY MX' MY' : xm} {LY LY' : xn} (h : Rel MX MY LY) (nt : Nat) (hn : ∀ nt', Sna 1 16 483 MX (MY 1) nt' → nt' = nt) (hs : Sna 1 16 483 MX' (MY' 1) nt) (hx : ∀ q, (486 ≤ q ∧ q < 971) ∨ q = 990 ∨ q = 991 ∨ 1006 ≤ q → MX' q = MX q) (hy : ∀ q, q = 0 ∨ q = 2 ∨ q = 3 ∨ q = 4 → MY' q = MY q) : Rel MX' MY' LY' :=
  h.mk (fun nt' h' => by rw [hn nt' h']; exact hs) hx hy
theorem Sna.nt {u b c nt nt' : Nat} {M : xm} {a : Nat → Int32} (h : Sna u b c M a nt) (h' : Sna u b c M a nt') : nt' = nt := by
  obtain ⟨_, _, _, _, _, _, _, _, _, _, _, _, _, _, b8, _⟩ := h
  obtain ⟨_, _, _, _, _, _, _, _, _, _, _, _, _, _, c8, _⟩ := h'
  have := b8.1.symm.trans c8.1
  omega
theorem s_undo : sim_undo Rel := by
  intro MX MY LY h
  have hr := h
  obtain ⟨nt, nti, ⟨s, St, n, ru, sd, sp, sk, hs⟩, _⟩ := h
  have ⟨a1, a2, a3, a4, a5, a6, a7, a8, a9⟩ := hs
  have y := y_undo a5 (fun i hi => (a6 i hi).ok)
  unfold f_X9_undo
  by_cases c : n = 0
  · rw [if_pos (by rw [i_eq, a4.2.1, c]; rfl), y.1 c]
    exact ⟨_, MX, MY, rfl, rfl, hr⟩
  · have h30 := a4.1
    obtain ⟨v, N1, y1, y2, y3, y4, y5, y6⟩ := y.2 (by omega)
    obtain ⟨M1, k1, k2, k3, k4⟩ := x_takeBack (b := 16) (u := 1) (by omega) a4 (by omega) (a6 (n - 1) (by omega)).ok
    rw [if_neg (by rw [i_eq, a4.2.1]; simp only [Int32.reduceToInt]; omega), k1, xb1_some, y1]
    refine ⟨v, M1, N1, by rw [i_inj k3.2.1 y2], rfl, ?_⟩
    refine hr.done nt (fun nt' h' => (Snp.of hs).nt h') ?_ (fun q hq => k4 q (by omega) (by omega)) (fun q hq => y5 q (by omega))
    exact Snp.of (St := St) ⟨k2, y3, a6 (n - 1) (by omega), k3, y4, fun i hi => a6 i (by omega), a7.fr (fun q _ _ => k4 q (by omega) (by omega)), a8.fr a9.2.2.1 (fun j j1 j2 => y6 j (by omega) j2) (fun j j1 j2 => y6 j (by omega) (by omega)), a9⟩
theorem s_drop : sim_drop Rel := by
  intro MX MY LY a0 h
  have hr := h
  obtain ⟨nt, nti, ⟨s, St, n, ru, sd, sp, sk, hs⟩, _⟩ := h
  have ⟨a1, a2, ⟨⟨G, hi⟩, hc, hrw⟩, a4, a5, a6, a7, a8, a9⟩ := hs
  unfold f_X9_drop f_X10_drop
  rw [f_isRoot_eq, yRoot]
  by_cases c : 0 ≤ a0.toInt ∧ a0.toInt ≤ 5
  · obtain ⟨r, hr0⟩ : ∃ r : Nat, a0.toInt = r := ⟨a0.toInt.toNat, by omega⟩
    have r6 : r < 6 := by omega
    have e := yx 29 (b := 29) rfl hr0 (by omega)
    rw [if_pos (c := 0 ≤ a0.toInt ∧ a0.toInt < 6) (by omega), if_neg n10, if_pos (i_in hr0 (by omega)), i_ix hr0, if_pos c, if_neg n10, if_pos e.1, e.2]
    by_cases c1 : s 8 r = -1
    · rw [if_pos (by rw [i_eq, a1.r r6, c1]; rfl), if_pos (by rw [i_eq, a2.r r6, c1]; rfl)]
      exact ⟨_, MX, MY, rfl, rfl, hr⟩
    · obtain ⟨M1, M2, N1, p1, p2, p3, p4, p5, p6, p7, p8, p9, p10, p11, p12⟩ := kept hs
      rw [if_neg (by rw [i_eq, a1.r r6]; exact c1), if_neg (by rw [i_eq, a2.r r6]; exact c1), p1, xb1_some, p2, xb1_some, p3, xb1_some, xlet_eq, xlet_eq]
      refine ⟨_, _, _, rfl, rfl, ?_⟩
      refine hr.done nt (fun nt' h' => (Snp.of hs).nt h') ?_ (fun q hq => (up2_cell (by omega)).trans (p10 q (by omega))) (fun q hq => (up2_cell (by omega)).trans (p11 q (by omega)))
      exact Snp.of (p8.heap (s' := up2 s 8 r (-1)) (p6.up (k := 8) (by decide) rfl) (RY.up p7 (k := 8) (i := r) (yd_i r6 (by decide) (by decide)) (by decide) rfl) ⟨⟨G, hi.root (by omega) (Or.inl rfl) (fun _ => Or.inl rfl)⟩, hc, hrw.wk hi (Wk.up (by decide) (by decide) (by decide))⟩ (frX.up (k := 8) (by decide)).l (frY.up (by omega)).p)
  · rw [if_neg (c := 0 ≤ a0.toInt ∧ a0.toInt < 6) (by omega), if_pos rfl, if_neg c, if_pos rfl]
    exact ⟨_, MX, MY, rfl, rfl, hr⟩
theorem s_copy : sim_copy Rel := by
  intro MX MY LY a0 b0 h
  have hr := h
  obtain ⟨nt, nti, ⟨s, St, n, ru, sd, sp, sk, hs⟩, _⟩ := h
  have ⟨a1, a2, ⟨⟨G, hi⟩, hc, hrw⟩, a4, a5, a6, a7, a8, a9⟩ := hs
  unfold f_X9_copy f_X10_copy
  rw [f_isRoot_eq, yRoot, f_isRoot_eq, yRoot]
  by_cases c : 0 ≤ a0.toInt ∧ a0.toInt ≤ 5
  · rw [if_pos (c := 0 ≤ a0.toInt ∧ a0.toInt < 6) (by omega), if_neg n10, if_pos c, if_neg n10]
    by_cases d : 0 ≤ b0.toInt ∧ b0.toInt ≤ 5
    · rw [if_pos (c := 0 ≤ b0.toInt ∧ b0.toInt < 6) (by omega), if_neg n10, if_pos d, if_neg n10]
      by_cases e0 : a0 = b0
      · rw [if_pos e0, if_pos e0]
        exact ⟨_, MX, MY, rfl, rfl, hr⟩
      · obtain ⟨r, hr0⟩ : ∃ r : Nat, a0.toInt = r := ⟨a0.toInt.toNat, by omega⟩
        obtain ⟨t, ht0⟩ : ∃ t : Nat, b0.toInt = t := ⟨b0.toInt.toNat, by omega⟩
        have r6 : r < 6 := by omega
        have t6 : t < 6 := by omega
        have e := yx 29 (b := 29) rfl hr0 (by omega)
        have e' := yx 29 (b := 29) rfl ht0 (by omega)
        obtain ⟨M1, M2, N1, p1, p2, p3, p4, p5, p6, p7, p8, p9, p10, p11, p12⟩ := kept hs
        rw [if_neg e0, if_neg e0, p1, xb1_some, p2, xb1_some, p3, xb1_some, if_pos (i_in ht0 t6), if_pos (i_in hr0 r6), i_ix hr0, i_ix ht0, if_pos e'.1, if_pos e.1, e.2, e'.2, xlet_eq, xlet_eq]
        refine ⟨_, _, _, rfl, rfl, ?_⟩
        refine hr.done nt (fun nt' h' => (Snp.of hs).nt h') ?_ (fun q hq => (up2_cell (by omega)).trans (p10 q (by omega))) (fun q hq => (up2_cell (by omega)).trans (p11 q (by omega)))
        exact Snp.of (p8.heap (p6.up (k := 8) (by decide) (p6.r t6)) (RY.up p7 (k := 8) (i := r) (yd_i r6 (by decide) (by decide)) (by decide) (p7.r t6)) ⟨⟨G, hi.root (hi.1.r t6) (hi.2.2.2.1.2.1 t t6) (fun _ => hi.2.2.2.2 t t6)⟩, hc, hrw.wk hi (Wk.up (by decide) (by decide) (by decide))⟩ (frX.up (k := 8) (by decide)).l (frY.up (by omega)).p)
    · rw [if_neg (c := 0 ≤ b0.toInt ∧ b0.toInt < 6) (by omega), if_pos rfl, if_neg d, if_pos rfl]
      exact ⟨_, MX, MY, rfl, rfl, hr⟩
  · rw [if_neg (c := 0 ≤ a0.toInt ∧ a0.toInt < 6) (by omega), if_pos rfl, if_neg c, if_pos rfl]
    exact ⟨_, MX, MY, rfl, rfl, hr⟩
/-- a row was prepared, and no more -/
theorem Rel.prep {MX MY : xm} {LY : xn} {nt : Nat} {s : hs} {St : Nat → hs} {n : Nat} {ru : Int} {sd : Nat} {sp sk : Nat → Int} (h : Rel MX MY LY) (hs : Snp 1 16 483 MX (MY 1) nt s St n ru sd sp sk) {M : xm} (h1 : RX 1 M s) (h2 : StX 16 M St n) (h3 : ∀ q, (q < 16 ∨ 483 ≤ q) → (q < 1 ∨ 16 ≤ q) → M q = MX q) : Rel M MY LY := by
  obtain ⟨a1, a2, a3, a4, a5, a6, a7, a8, a9⟩ := hs
  refine h.done nt (fun nt' h' => (Snp.of ⟨a1, a2, a3, a4, a5, a6, a7, a8, a9⟩).nt h') ?_ (fun q hq => h3 q (by omega) (by omega)) (fun q _ => rfl)
  exact Snp.of ⟨h1, a2, a3, h2, a5, a6, a7.fr (fun q _ _ => h3 q (by omega) (by omega)), a8, a9⟩
theorem s_store : sim_store Rel := by
  intro MX MY LY a0 b0 c0 h
  have hr := h
  obtain ⟨nt, nti, ⟨s, St, n, ru, sd, sp, sk, hs⟩, _⟩ := h
  have ⟨a1, a2, ⟨⟨G, hi⟩, hc, hrw⟩, a4, a5, a6, a7, a8, a9⟩ := hs
  have o := hi.1
  have l := hi.2.1
  obtain ⟨x, x1, x2⟩ := y_fieldAt a2 o l (a := a0) (b := b0)
  unfold f_X9_store f_X10_store
  rw [f_isRoot_eq, yRoot, x1, xb1_some]
  obtain ⟨M1, M2, N1, p1, p2, p3, p4, p5, p6, p7, p8, p9, p10, p11, p12⟩ := kept hs
  by_cases d : 0 ≤ c0.toInt ∧ c0.toInt ≤ 5
  · obtain ⟨s1, s2⟩ := x_storeField p4 hi (a := a0) (b := b0) (c := c0)
    rw [if_pos (c := 0 ≤ c0.toInt ∧ c0.toInt < 6) (by omega), if_neg n10, if_pos d, if_neg n10, p1, xb1_some]
    by_cases f0 : sFAx s a0.toInt b0.toInt = -1
    · rw [s2 (fun q => q.1 f0), xb2_some, if_pos rfl, if_pos (by rw [i_eq, x2, f0]; rfl)]
      exact ⟨_, M1, MY, rfl, rfl, hr.prep hs p4 p5.1 (fun q q1 _ => p9 q q1)⟩
    · obtain ⟨M3, k1, k2, k3⟩ := s1 ⟨f0, d⟩
      have p5' : PrX 16 M3 St n s := p5.fr (fun q _ _ => k3 q (by omega))
      obtain ⟨M4, m1, m2, m3⟩ := x_keep p5'
      have cb : 0 ≤ a0.toInt ∧ a0.toInt ≤ 5 := by
        by_cases q : 0 ≤ a0.toInt ∧ a0.toInt ≤ 5
        · exact q
        · exact absurd (by unfold sFAx; rw [if_neg q]) f0
      have ef : sFAx s a0.toInt b0.toInt = sFA s a0.toInt.toNat b0.toInt := by unfold sFAx; rw [if_pos cb]
      rw [ef] at f0 x2 k2
      obtain ⟨w, w1, w2, w3, w4⟩ := fieldFacts hi (r := a0.toInt.toNat) (by omega) f0
      rw [w1] at x2
      rw [w1, Int.toNat_natCast] at k2
      obtain ⟨t, ht0⟩ : ∃ t : Nat, c0.toInt = t := ⟨c0.toInt.toNat, by omega⟩
      have t6 : t < 6 := by omega
      rw [ht0, Int.toNat_natCast] at k2
      have e := yx 29 (b := 29) rfl ht0 (by omega)
      have e' := yx 41 (b := 41) rfl x2 (by omega)
      rw [k1, xb2_some, if_neg n10, m1, xb1_some, if_neg (by rw [i_eq, x2]; simp only [Int32.reduceToInt]; omega), p3, xb1_some, if_pos e.1, if_pos e'.1, e.2, e'.2, xlet_eq]
      refine ⟨_, _, _, rfl, rfl, ?_⟩
      refine hr.done nt (fun nt' h' => (Snp.of hs).nt h') ?_ (fun q hq => (m3 q (by omega)).trans ((k3 q (by omega)).trans (p9 q (by omega)))) (fun q hq => (up2_cell (by omega)).trans (p11 q (by omega)))
      have hy : RY (up2 N1 1 (41 + w) (N1 1 (29 + t))) (up2 s 1 w (s 8 t)) := RY.up p7 (k := 1) (i := w) (yd_i w2 (by decide) (by decide)) (by decide) (p7.r t6)
      obtain ⟨q1, q2, q3, q4, q5, q6, q7, q8, q9⟩ := p8
      have fy : frP N1 (up2 N1 1 (41 + w) (N1 1 (29 + t))) := (frY.up (by omega)).p
      refine Snp.of (St := kSt St n s) ⟨k2.fr (fun q _ _ => m3 q (by omega)), hy, ⟨hi.store t6 w2 w3, hc, hrw.wk hi (Wk.store w3 (o.r t6))⟩, m2, ⟨q5.1, by rw [fy.2 2 (by omega)]; exact q5.2.1, fun i hi => ?_⟩, q6, a7.fr (fun q _ _ => (m3 q (by omega)).trans ((k3 q (by omega)).trans (p9 q (by omega)))), q8.fr q9.2.2.1 (fun j j1 j2 => fy.2 j (by omega)) (fun j j1 j2 => fy.2 j (by omega)), q9⟩
      refine (q5.2.2 i hi).fr (q6 i hi).ok (fun j j1 j2 => ?_)
      unfold rwY
      exact fy.2 _ (by omega)
  · rw [if_neg (c := 0 ≤ c0.toInt ∧ c0.toInt < 6) (by omega), if_pos rfl, if_neg d, if_pos rfl]
    refine ⟨0, MX, MY, rfl, ?_, hr⟩
    split <;> rfl
theorem s_load : sim_load Rel := by
  intro MX MY LY a0 b0 c0 h
  have hr := h
  obtain ⟨nt, nti, ⟨s, St, n, ru, sd, sp, sk, hs⟩, _⟩ := h
  have ⟨a1, a2, ⟨⟨G, hi⟩, hc, hrw⟩, a4, a5, a6, a7, a8, a9⟩ := hs
  have o := hi.1
  have l := hi.2.1
  unfold f_X9_load f_X10_load
  rw [f_isRoot_eq, y_canLoad a2 hi, xb1_some]
  obtain ⟨M1, M2, N1, p1, p2, p3, p4, p5, p6, p7, p8, p9, p10, p11, p12⟩ := kept hs
  obtain ⟨s1, s2⟩ := x_loadField p4 hi (a := a0) (b := b0) (c := c0)
  by_cases d : 0 ≤ a0.toInt ∧ a0.toInt ≤ 5
  · rw [if_pos (c := 0 ≤ a0.toInt ∧ a0.toInt < 6) (by omega), if_neg n10, p1, xb1_some]
    by_cases g : (0 ≤ a0.toInt ∧ a0.toInt ≤ 5) ∧ sFAx s b0.toInt c0.toInt ≠ -1 ∧ sMendV s (s 1 (sFAx s b0.toInt c0.toInt).toNat) ≠ -2
    · obtain ⟨v, M3, k1, k2, k3, k4⟩ := s1 g
      have p5' : PrX 16 M3 St n s := p5.fr (fun q _ _ => k4 q (by omega))
      obtain ⟨M4, m1, m2, m3⟩ := x_keep p5'
      have f0 := g.2.1
      have cb : 0 ≤ b0.toInt ∧ b0.toInt ≤ 5 := by
        by_cases q : 0 ≤ b0.toInt ∧ b0.toInt ≤ 5
        · exact q
        · exact absurd (by unfold sFAx; rw [if_neg q]) f0
      have ef : sFAx s b0.toInt c0.toInt = sFA s b0.toInt.toNat c0.toInt := by unfold sFAx; rw [if_pos cb]
      have f1 : sFA s b0.toInt.toNat c0.toInt ≠ -1 := by rw [← ef]; exact f0
      obtain ⟨w, w1, w2, w3, w4⟩ := fieldFacts hi (r := b0.toInt.toNat) (by omega) f1
      have ew : sFAx s b0.toInt c0.toInt = w := by rw [ef, w1]
      rw [ew, Int.toNat_natCast] at k2 k3
      have gm := g.2.2
      rw [ew, Int.toNat_natCast] at gm
      obtain ⟨t, ht0⟩ : ∃ t : Nat, a0.toInt = t := ⟨a0.toInt.toNat, by omega⟩
      rw [ht0, Int.toNat_natCast] at k3
      obtain ⟨v', N2, y1, y2, y3, y4⟩ := y_loadNow p7 hi (a := a0) (b := b0) (c := c0) (r := t) (w := w) ht0 (by omega) w2 ew w4 w3 gm
      rw [k1, xb2_some, if_neg (by rw [i_eq, k2]; exact gm), m1, xb1_some, if_pos g, if_neg n10, p3, xb1_some, y1, xb2_some, i_inj k2 y2]
      refine ⟨_, M4, N2, rfl, rfl, ?_⟩
      refine hr.done nt (fun nt' h' => (Snp.of hs).nt h') ?_ (fun q hq => (m3 q (by omega)).trans ((k4 q (by omega)).trans (p9 q (by omega)))) (fun q hq => (y4.1 q (by omega)).trans (p11 q (by omega)))
      obtain ⟨q1, q2, q3, q4, q5, q6, q7, q8, q9⟩ := p8
      have ho : HO (sLoad s t w) := ⟨hi.load w2 w3 w4 gm, by
        have : sLoad s t w 0 17 = s 0 17 := by
          unfold sLoad; rw [up2_ap, if_neg (by omega), sMW_0 (by decide)]
        rw [this]; exact hc, hrw.wk hi ((Wk.mw hi w2 w3 w4).tr (Wk.up (by decide) (by decide) (by decide)))⟩
      refine Snp.of (St := kSt St n s) ⟨k3.fr (fun q _ _ => m3 q (by omega)), y3, ho, m2, ⟨q5.1, by rw [y4.2 2 (by omega)]; exact q5.2.1, fun i hi => ?_⟩, q6, a7.fr (fun q _ _ => (m3 q (by omega)).trans ((k4 q (by omega)).trans (p9 q (by omega)))), q8.fr q9.2.2.1 (fun j j1 j2 => y4.2 j (by omega)) (fun j j1 j2 => y4.2 j (by omega)), q9⟩
      refine (q5.2.2 i hi).fr (q6 i hi).ok (fun j j1 j2 => ?_)
      unfold rwY
      exact y4.2 _ (by omega)
    · obtain ⟨M3, k1, k2, k3⟩ := s2 g
      rw [k1, xb2_some, if_pos rfl, if_neg g, if_pos rfl]
      exact ⟨_, M3, MY, rfl, rfl, hr.prep hs k2 (p5.1.fr (fun q _ _ => k3 q (by omega))) (fun q q1 q2 => (k3 q (by omega)).trans (p9 q q1))⟩
  · rw [if_neg (c := 0 ≤ a0.toInt ∧ a0.toInt < 6) (by omega), if_pos rfl, if_neg (c := (0 ≤ a0.toInt ∧ a0.toInt ≤ 5) ∧ sFAx s b0.toInt c0.toInt ≠ -1 ∧ sMendV s (s 1 (sFAx s b0.toInt c0.toInt).toNat) ≠ -2) (fun q => d q.1), if_pos rfl]
    exact ⟨_, MX, MY, rfl, rfl, hr⟩
theorem s_start : sim_start Rel := by
  intro MX MY LY h
  have hr := h
  obtain ⟨nt, nti, ⟨s, St, n, ru, sd, sp, sk, hs⟩, _⟩ := h
  have ⟨a1, a2, ⟨⟨G, hi⟩, hc, hrw⟩, a4, a5, a6, a7, a8, a9⟩ := hs
  unfold f_X9_start f_X10_start
  rw [x_canMark a1, xb1_some, y_canStart a2, xb1_some]
  by_cases c : s 0 14 = 0 ∧ s 10 0 = -1 ∧ s 10 1 = -1
  · obtain ⟨M1, M2, N1, p1, p2, p3, p4, p5, p6, p7, p8, p9, p10, p11, p12⟩ := kept hs
    obtain ⟨M3, t1, t2, t3⟩ := x_turnToMarking p6 hi.1
    obtain ⟨M4, r1, r2, r3⟩ := x_mendRoots t2 (hi.tm c.1 c.2)
    obtain ⟨N2, y1, y2, y3⟩ := y_startNow p7 hi c.1 c.2
    rw [if_pos c, if_neg n10, p1, xb1_some, p2, xb1_some, t1, xb1_some, r1, xb1_some, p3, xb1_some, y1, xb1_some]
    refine ⟨_, M4, N2, rfl, rfl, ?_⟩
    have fx := frX.tr t3 r3
    refine hr.done nt (fun nt' h' => (Snp.of hs).nt h') ?_ (fun q hq => (fx q (by omega)).trans (p10 q (by omega))) (fun q hq => (y3.1 q (by omega)).trans (p11 q (by omega)))
    have ho : HO (sStart s) := ⟨hi.start c.1 c.2, by
      have : sStart s 0 17 = s 0 17 := by unfold sStart; rw [sMRs_0 (by decide)]; rfl
      rw [this]; exact hc, by
      have := hrw.op hi (fun _ _ => true)
      unfold sOp at this
      rw [if_neg (by omega), if_neg (by omega), if_neg (by omega), if_pos c] at this
      exact this⟩
    exact Snp.of (p8.heap r2 y2 ho fx.l y3.p)
  · rw [if_neg c, if_pos rfl]
    exact ⟨_, MX, MY, rfl, rfl, hr⟩
