/-! the poorest page -/
def Po (s : hs) (lo hi : Nat) (r : Int) : Prop := (r = -1 ∧ ∀ j, lo ≤ j → j < hi → s 7 j ≠ 1) ∨ (∃ q : Nat, (lo ≤ q ∧ q < hi) ∧ r = (q : Int) ∧ s 7 q = 1 ∧ ∀ j, lo ≤ j → j < hi → s 7 j = 1 → s 5 q ≤ s 5 j ∧ (j < q → s 5 q < s 5 j))
theorem Po.one {s : hs} {lo hi : Nat} {r t : Int} (a : Po s lo hi r) (b : Po s lo hi t) : r = t := by
  rcases a with ⟨a1, a2⟩ | ⟨q, aq, a1, a2, a3⟩
  · rcases b with ⟨b1, b2⟩ | ⟨p, bq, b1, b2, b3⟩
    · omega
    · exact absurd b2 (a2 p bq.1 bq.2)
  · rcases b with ⟨b1, b2⟩ | ⟨p, bq, b1, b2, b3⟩
    · exact absurd a2 (b2 q aq.1 aq.2)
    · have u := a3 p bq.1 bq.2 b2
      have v := b3 q aq.1 aq.2 a2
      rw [a1, b1]
      omega
theorem poor_x {M : xm} {s : hs} (h : RX 1 M s) : ∀ (k f : Nat) (x1 x2 : Int32), k < f → k ≤ 8 → x2.toInt = (k : Int) - 1 → Po s k 8 x1.toInt → ∃ r, g_X9_poorest_5 M f x1 x2 = some r ∧ Po s 0 8 r.toInt := by
  intro k
  induction k with
  | zero =>
    intro f x1 x2 hf _ h2 hp
    obtain ⟨f, rfl⟩ : ∃ q, f = q + 1 := ⟨f - 1, by omega⟩
    unfold g_X9_poorest_5
    rw [if_pos (by rw [i_lt, h2]; decide)]
    exact ⟨_, rfl, hp⟩
  | succ k ih =>
    intro f x1 x2 hf h8 h2 hp
    obtain ⟨f, rfl⟩ : ∃ q, f = q + 1 := ⟨f - 1, by omega⟩
    have h2' : x2.toInt = (k : Int) := by omega
    have k8 : k < 8 := by omega
    have nx : (x2 + (-1)).toInt = (k : Int) - 1 := by rw [i_add h2' (b := -1) rfl (by omega) (by omega)]; omega
    unfold g_X9_poorest_5
    rw [if_neg (by rw [i_lt, h2']; simp only [Int32.reduceToInt]; omega), if_pos (i_in h2' k8), i_ix h2']
    by_cases c : s 7 k = 1
    · rw [if_pos (by rw [i_eq, h.h k8, c]; rfl)]
      by_cases c1 : x1.toInt = -1
      · rw [if_pos (by rw [i_eq, c1]; rfl), xlet_eq]
        refine ih f x2 _ (by omega) (by omega) nx (Or.inr ⟨k, ⟨by omega, k8⟩, h2', c, fun j j1 j2 j3 => ?_⟩)
        rcases hp with ⟨_, p2⟩ | ⟨q, _, p1, _⟩
        · by_cases e : j = k
          · subst e; exact ⟨by omega, by omega⟩
          · exact absurd j3 (p2 j (by omega) j2)
        · omega
      · rcases hp with ⟨p1, _⟩ | ⟨q, pq, p1, p2, p3⟩
        · exact absurd p1 c1
        · rw [if_neg (by rw [i_eq]; exact c1), if_pos (i_in p1 pq.2), i_ix p1, xlet_eq, xlet_eq]
          by_cases c2 : s 5 q < s 5 k
          · rw [if_pos (by rw [i_lt, h.l pq.2, h.l k8]; exact c2)]
            refine ih f x1 _ (by omega) (by omega) nx (Or.inr ⟨q, ⟨by omega, pq.2⟩, p1, p2, fun j j1 j2 j3 => ?_⟩)
            by_cases e : j = k
            · subst e; exact ⟨by omega, fun _ => c2⟩
            · exact p3 j (by omega) j2 j3
          · rw [if_neg (by rw [i_lt, h.l pq.2, h.l k8]; exact c2)]
            refine ih f x2 _ (by omega) (by omega) nx (Or.inr ⟨k, ⟨by omega, k8⟩, h2', c, fun j j1 j2 j3 => ?_⟩)
            by_cases e : j = k
            · subst e; exact ⟨by omega, by omega⟩
            · have := p3 j (by omega) j2 j3
              exact ⟨by omega, by omega⟩
    · rw [if_neg (by rw [i_eq, h.h k8]; exact c), xlet_eq]
      refine ih f x1 _ (by omega) (by omega) nx ?_
      rcases hp with ⟨p1, p2⟩ | ⟨q, pq, p1, p2, p3⟩
      · exact Or.inl ⟨p1, fun j j1 j2 => by by_cases e : j = k; { subst e; exact c }; { exact p2 j (by omega) j2 }⟩
      · exact Or.inr ⟨q, ⟨by omega, pq.2⟩, p1, p2, fun j j1 j2 j3 => by by_cases e : j = k; { subst e; exact absurd j3 c }; { exact p3 j (by omega) j2 j3 }⟩
theorem poor_y {M : xm} {s : hs} (h : RY M s) (o : Ok s) (l7 : La7 s) : ∀ (d k f : Nat) (x1 x2 : Int32), k + d = 8 → d < f → x2.toInt = (k : Int) → Po s 0 k x1.toInt → ∃ r, g_X10_poorest_4 M f x1 x2 = some r ∧ Po s 0 8 r.toInt := by
  intro d
  induction d with
  | zero =>
    intro k f x1 x2 hk hf h2 hp
    obtain ⟨f, rfl⟩ : ∃ q, f = q + 1 := ⟨f - 1, by omega⟩
    obtain rfl : k = 8 := by omega
    unfold g_X10_poorest_4
    rw [if_pos (by rw [i_le, h2]; decide)]
    exact ⟨_, rfl, hp⟩
  | succ d ih =>
    intro k f x1 x2 hk hf h2 hp
    obtain ⟨f, rfl⟩ : ∃ q, f = q + 1 := ⟨f - 1, by omega⟩
    have k8 : k < 8 := by omega
    have nx : (x2 + 1).toInt = ((k + 1 : Nat) : Int) := by rw [i_add h2 (b := 1) rfl (by omega) (by omega)]; omega
    have e := yx 13 (b := 13) rfl h2 (by omega)
    obtain ⟨v, v1, v2⟩ := y_liveOf h o l7 h2 k8
    unfold g_X10_poorest_4
    rw [if_neg (by rw [i_le, h2]; simp only [Int32.reduceToInt]; omega), if_pos e.1, e.2, v1, xb1_some]
    by_cases c : s 7 k = 1
    · rw [if_pos (by rw [i_eq, h.h k8, c]; rfl)]
      by_cases c1 : x1.toInt = -1
      · rw [if_pos (by rw [i_eq, c1]; rfl), xlet_eq]
        refine ih (k + 1) f x2 _ (by omega) (by omega) nx (Or.inr ⟨k, ⟨by omega, by omega⟩, h2, c, fun j j1 j2 j3 => ?_⟩)
        rcases hp with ⟨_, p2⟩ | ⟨q, _, p1, _⟩
        · by_cases e : j = k
          · subst e; exact ⟨by omega, by omega⟩
          · exact absurd j3 (p2 j (by omega) (by omega))
        · omega
      · rcases hp with ⟨p1, _⟩ | ⟨q, pq, p1, p2, p3⟩
        · exact absurd p1 c1
        · obtain ⟨w, w1, w2⟩ := y_liveOf h o l7 p1 (show q < 8 by omega)
          rw [if_neg (by rw [i_eq]; exact c1), w1, xb1_some, xlet_eq, xlet_eq]
          by_cases c2 : s 5 q ≤ s 5 k
          · rw [if_pos (by rw [i_le, v2, w2]; exact c2)]
            refine ih (k + 1) f x1 _ (by omega) (by omega) nx (Or.inr ⟨q, ⟨by omega, by omega⟩, p1, p2, fun j j1 j2 j3 => ?_⟩)
            by_cases e : j = k
            · subst e; exact ⟨c2, by omega⟩
            · exact p3 j (by omega) (by omega) j3
          · rw [if_neg (by rw [i_le, v2, w2]; exact c2)]
            refine ih (k + 1) f x2 _ (by omega) (by omega) nx (Or.inr ⟨k, ⟨by omega, by omega⟩, h2, c, fun j j1 j2 j3 => ?_⟩)
            by_cases e : j = k
            · subst e; exact ⟨by omega, by omega⟩
            · have := p3 j (by omega) (by omega) j3
              exact ⟨by omega, fun _ => by omega⟩
    · rw [if_neg (by rw [i_eq, h.h k8]; exact c), xlet_eq]
      refine ih (k + 1) f x1 _ (by omega) (by omega) nx ?_
      rcases hp with ⟨p1, p2⟩ | ⟨q, pq, p1, p2, p3⟩
      · exact Or.inl ⟨p1, fun j j1 j2 => by by_cases e : j = k; { subst e; exact c }; { exact p2 j (by omega) (by omega) }⟩
      · exact Or.inr ⟨q, ⟨by omega, by omega⟩, p1, p2, fun j j1 j2 j3 => by by_cases e : j = k; { subst e; exact absurd j3 c }; { exact p3 j (by omega) (by omega) j3 }⟩
theorem s_poorest : sim_poorest Rel := by
  intro MX MY LY h
  have hr := h
  obtain ⟨nt, nti, ⟨s, St, n, ru, sd, sp, sk, a1, a2, ⟨⟨G, hi⟩, _⟩, _⟩, _⟩ := h
  obtain ⟨r, r1, r2⟩ := poor_x a1 8 xfuel (-1) 7 (by decide) (by decide) rfl (Or.inl ⟨rfl, fun j _ _ => by omega⟩)
  obtain ⟨t, t1, t2⟩ := poor_y a2 hi.1 hi.2.1.2.2.2.2.2.2 8 0 xfuel (-1) 0 (by decide) (by decide) rfl (Or.inl ⟨rfl, fun j _ _ => by omega⟩)
  unfold f_X9_poorest f_X10_poorest
  rw [r1, t1, xb1_some, xb1_some]
  exact ⟨r, rfl, by rw [i_inj (r2.one t2) rfl], hr⟩
/-! four bytes each -/
theorem and_rng (x : Int32) : 0 ≤ (x &&& 255).toInt ∧ (x &&& 255).toInt ≤ 255 := by
  have h : (x &&& 255).toBitVec.toNat ≤ 255 := by
    show (x.toBitVec &&& (255#32)).toNat ≤ 255
    rw [BitVec.toNat_and]
    exact Nat.and_le_right
  have e : (x &&& 255).toInt = ((x &&& 255).toBitVec.toNat : Int) := by
    show (x &&& 255).toBitVec.toInt = _
    rw [BitVec.toInt_eq_toNat_of_lt (by omega)]
  omega
theorem b255 : ∀ i, i < 32 → 8 ≤ i → (255#32).getLsbD i = false := by decide +kernel
theorem sh_bit (x : BitVec 32) (k : Nat) (hk : k ≤ 24) : (x >>> k) &&& 255#32 = x.sshiftRight k &&& 255#32 := by
  apply BitVec.eq_of_getLsbD_eq
  intro i hi
  rw [BitVec.getLsbD_and, BitVec.getLsbD_and]
  by_cases c : 8 ≤ i
  · rw [b255 i hi c, Bool.and_false, Bool.and_false]
  · rw [BitVec.getLsbD_ushiftRight, BitVec.getLsbD_sshiftRight, if_pos (by omega)]
    have : decide (32 ≤ i) = false := decide_eq_false (by omega)
    rw [this]; rfl
theorem sh_same (x : Int32) (k : Int32) (hk : k = 24 ∨ k = 16 ∨ k = 8 ∨ k = 0) : (xushr x k) &&& 255 = (x >>> (k &&& 31)) &&& 255 := by
  apply Int32.toBitVec_inj.1
  rcases hk with rfl | rfl | rfl | rfl
  · exact sh_bit x.toBitVec 24 (by decide)
  · exact sh_bit x.toBitVec 16 (by decide)
  · exact sh_bit x.toBitVec 8 (by decide)
  · exact sh_bit x.toBitVec 0 (by decide)
def TapN (MX MY : xm) (len : Nat) : Prop := (MX 990 5).toInt = len ∧ (MY 0 4).toInt = len ∧ (∀ i, i < len → MX 991 i = MY 4 i ∧ 0 ≤ (MX 991 i).toInt ∧ (MX 991 i).toInt ≤ 255) ∧ MX 990 6 = MY 0 5 ∧ MX 990 7 = MY 0 6
theorem TapN.put {MX MY : xm} {len : Nat} (h : TapN MX MY len) (hl : len < 300) {v : Int32} (hv : 0 ≤ v.toInt ∧ v.toInt ≤ 255) : TapN (up2 (up2 MX 991 len v) 990 5 (MX 990 5 + 1)) (up2 (up2 MY 4 len v) 0 4 (MY 0 4 + 1)) (len + 1) := by
  obtain ⟨h1, h2, h3, h4, h5⟩ := h
  refine ⟨?_, ?_, fun i hi => ?_, h4, h5⟩
  · rw [up2_row, if_pos rfl, i_add h1 (b := 1) rfl (by omega) (by omega)]; omega
  · rw [up2_row, if_pos rfl, i_add h2 (b := 1) rfl (by omega) (by omega)]; omega
  · have q1 : up2 (up2 MX 991 len v) 990 5 (MX 990 5 + 1) 991 = up2 MX 991 len v 991 := up2_cell (by decide)
    have q2 : up2 (up2 MY 4 len v) 0 4 (MY 0 4 + 1) 4 = up2 MY 4 len v 4 := up2_cell (by decide)
    rw [q1, q2, up2_row, up2_row]
    by_cases c : i = len
    · rw [if_pos c, if_pos c]; exact ⟨rfl, hv⟩
    · rw [if_neg c, if_neg c]; exact h3 i (by omega)
theorem add_loop (a : Int32) : ∀ (k f g : Nat) (MX MY : xm) (len : Nat) (x : Int32), k < f → k < g → k ≤ 4 → x.toInt = 8 * (k : Int) - 8 → TapN MX MY len → len + k ≤ 300 → ∃ MX' MY', g_X4_add_3 a f MX x = some MX' ∧ g_X10_four_3 a g MY x = some MY' ∧ TapN MX' MY' (len + k) ∧ (∀ q, q ≠ 990 → q ≠ 991 → MX' q = MX q) ∧ (∀ q, q ≠ 0 → q ≠ 4 → MY' q = MY q) ∧ (∀ i, i ≠ 4 → MY' 0 i = MY 0 i) := by
  intro k
  induction k with
  | zero =>
    intro f g MX MY len x hf hg _ hx h _
    obtain ⟨f, rfl⟩ : ∃ q, f = q + 1 := ⟨f - 1, by omega⟩
    obtain ⟨g, rfl⟩ : ∃ q, g = q + 1 := ⟨g - 1, by omega⟩
    unfold g_X4_add_3 g_X10_four_3
    rw [if_pos (by rw [i_lt, hx]; decide), if_pos (by rw [i_lt, hx]; decide)]
    exact ⟨MX, MY, rfl, rfl, h, fun _ _ _ => rfl, fun _ _ _ => rfl, fun _ _ => rfl⟩
  | succ k ih =>
    intro f g MX MY len x hf hg k4 hx h hl
    obtain ⟨f, rfl⟩ : ∃ q, f = q + 1 := ⟨f - 1, by omega⟩
    obtain ⟨g, rfl⟩ : ∃ q, g = q + 1 := ⟨g - 1, by omega⟩
    have hx' : x.toInt = 8 * (k : Int) := by omega
    have hc : x = 24 ∨ x = 16 ∨ x = 8 ∨ x = 0 := by
      simp only [i_eq, Int32.reduceToInt]; omega
    unfold g_X4_add_3 g_X10_four_3
    rw [if_neg (by rw [i_lt, hx']; simp only [Int32.reduceToInt]; omega), if_neg (by rw [i_le, h.1]; simp only [Int32.reduceToInt]; omega), if_pos (i_in h.1 (by omega)), if_neg (by rw [i_lt, hx']; simp only [Int32.reduceToInt]; omega), if_pos (i_in h.2.1 (by omega)), i_ix h.1, i_ix h.2.1, sh_same a x hc, xlet_eq, xlet_eq, xlet_eq, xlet_eq, xlet_eq, xlet_eq]
    have hp := h.put (show len < 300 by omega) (and_rng (a >>> (x &&& 31)))
    obtain ⟨MX', MY', e1, e2, e3, e4, e5, e6⟩ := ih f g _ _ (len + 1) (x + (-8)) (by omega) (by omega) (by omega) (by rw [i_add hx' (b := -8) rfl (by omega) (by omega)]; omega) hp (by omega)
    refine ⟨MX', MY', e1, e2, by rw [show len + (k + 1) = len + 1 + k by omega]; exact e3, fun q q1 q2 => ?_, fun q q1 q2 => ?_, fun i hi => ?_⟩
    · rw [e4 q q1 q2, up2_cell q1, up2_cell q2]
    · rw [e5 q q1 q2, up2_cell q1, up2_cell q2]
    · rw [e6 i hi, up2_row, if_neg hi, up2_cell (by decide)]
theorem add_four {MX MY : xm} {len : Nat} (h : TapN MX MY len) (hl : len + 4 ≤ 300) (a : Int32) : ∃ MX' MY', f_X4_add MX a = some MX' ∧ f_X10_four MY a = some MY' ∧ TapN MX' MY' (len + 4) ∧ (∀ q, q ≠ 990 → q ≠ 991 → MX' q = MX q) ∧ (∀ q, q ≠ 0 → q ≠ 4 → MY' q = MY q) := by
  obtain ⟨MX', MY', e1, e2, e3, e4, e5, e6⟩ := add_loop a 4 xfuel xfuel MX MY len 24 (by decide) (by decide) (by decide) rfl h hl
  unfold f_X4_add f_X10_four
  rw [e1, e2, xb1_some, xb1_some]
  exact ⟨MX', MY', rfl, rfl, e3, e4, e5⟩
theorem s_feed : sim_feed Rel := by
  intro MX MY LY a0 b0 c0 d0 e0 h
  have hr := h
  obtain ⟨nt, nti, r1, r2, r3, ⟨len, l1, lt⟩, r5⟩ := h
  have lt : TapN MX MY len := lt
  have w := i_add lt.1 (y := 20) (b := 20) rfl (by omega) (by omega)
  have v := i_add lt.2.1 (y := 20) (b := 20) rfl (by omega) (by omega)
  unfold f_X9_feed f_X10_feed
  by_cases c : len + 20 ≤ 300
  · obtain ⟨A, A', a1, a2, a3, a4, a5⟩ := add_four lt (by omega) a0
    obtain ⟨B, B', b1, b2, b3, b4, b5⟩ := add_four a3 (by omega) b0
    obtain ⟨C, C', c1, c2, c3, c4, c5⟩ := add_four b3 (by omega) c0
    obtain ⟨D, D', d1, d2, d3, d4, d5⟩ := add_four c3 (by omega) d0
    obtain ⟨E, E', e1, e2, e3, e4, e5⟩ := add_four d3 (by omega) e0
    rw [if_pos (by rw [i_le, w]; simp only [Int32.reduceToInt]; omega), if_pos (by rw [i_le, v]; simp only [Int32.reduceToInt]; omega), a1, a2, xb1_some, xb1_some, b1, b2, xb1_some, xb1_some, c1, c2, xb1_some, xb1_some, d1, d2, xb1_some, xb1_some, e1, e2, xb1_some, xb1_some]
    refine ⟨_, E, E', rfl, by rw [i_inj e3.1 e3.2.1], ?_⟩
    have fx : ∀ q, q ≠ 990 → q ≠ 991 → E q = MX q := fun q p1 p2 => by rw [e4 q p1 p2, d4 q p1 p2, c4 q p1 p2, b4 q p1 p2, a4 q p1 p2]
    have fy : ∀ q, q ≠ 0 → q ≠ 4 → E' q = MY q := fun q p1 p2 => by rw [e5 q p1 p2, d5 q p1 p2, c5 q p1 p2, b5 q p1 p2, a5 q p1 p2]
    refine ⟨nt, nti, ?_, ?_, r3, ⟨len + 4 + 4 + 4 + 4 + 4, by omega, e3⟩, fun t ht => (r5 t ht).fr (fun q hq => fx q (by omega) (by omega)) (fy 3 (by decide) (by decide))⟩
    · rw [fy 1 (by decide) (by decide)]
      exact r1.fr (fun q _ _ => fx q (by omega) (by omega)) (fun q _ _ => fx q (by omega) (by omega)) (fun q _ _ => fx q (by omega) (by omega))
    · rw [fy 2 (by decide) (by decide)]
      exact r2.fr (fun q _ _ => fx q (by omega) (by omega)) (fun q _ _ => fx q (by omega) (by omega)) (fun q _ _ => fx q (by omega) (by omega))
  · rw [if_neg (by rw [i_le, w]; simp only [Int32.reduceToInt]; omega), if_neg (by rw [i_le, v]; simp only [Int32.reduceToInt]; omega)]
    exact ⟨_, MX, MY, rfl, rfl, hr⟩
