/-! one of the stack is marked through -/
theorem In.mend1 {s : hs} {G e : Nat → Prop} {k : Nat} (h : In s G e k) (h1 : s 0 14 = 1) {p : Int} (hp : ptr s G p) : In (sMend s p) G e k ∧ (ptr (sMend s p) G (sMendV s p) ∧ sGood (sMend s p) (sMendV s p) ∧ -1 ≤ sMendV s p ∧ sMendV s p ≤ 191) ∧ (∀ x, sMend s p 1 x = s 1 x) := by
  have hin := h
  obtain ⟨o, l, f2, g, rg⟩ := h
  have hmp := ptr.mp o g hp
  by_cases cg : sGood s p
  · have e1 : sMend s p = s := by unfold sMend; rw [if_pos cg]
    have e2 : sMendV s p = p := by unfold sMendV; rw [if_pos cg]
    rw [e1, e2]
    exact ⟨hin, ⟨hp, cg, hmp.1, hmp.2.1⟩, fun _ => rfl⟩
  rcases hp with hp | ⟨hc, hg⟩
  · exact absurd (Or.inl hp) cg
  have w64 := (g.1 _ hg).1
  have e1 : sMend s p = sPush s (sWh s p) := by unfold sMend; rw [if_neg cg, if_pos h1]
  have e2 : sMendV s p = s 0 15 * 64 + sWh s p := by unfold sMendV; rw [if_neg cg, if_pos h1]
  obtain ⟨i1, i2, i3⟩ := hin.push h1 hg
  have es : ∀ i, i ≠ 13 → sPush s (sWh s p) 0 i = s 0 i := fun i hi => by
    unfold sPush; split
    · rw [up2_ap, if_neg (fun z => hi z.2), up2_ap, if_neg (by omega), sMark_k i (by decide) (by decide)]
    · rfl
  have es1 : ∀ i, sPush s (sWh s p) 1 i = s 1 i := fun i => by
    unfold sPush; split
    · rw [up2_ap, if_neg (by omega), up2_ap, if_neg (by omega), sMark_k i (by decide) (by decide)]
    · rfl
  rw [e1, e2]
  refine ⟨i1, ?_, fun x => es1 x⟩
  have := ptr.mk (s := sPush s (sWh s p)) (G := G) i1.1 i1.2.2.2.1.2.2.2.2.2.2.2.2.2.2.2.2.2.1 w64 hg (fun _ => i2) (fun z => by rw [es 14 (by decide)] at z; omega)
  rw [es 15 (by decide)] at this
  exact this
theorem In.mw1 {s : hs} {G e : Nat → Prop} {k w : Nat} (h : In s G e k) (h1 : s 0 14 = 1) (hw : w < 64) (hv : -1 ≤ s 1 w ∧ s 1 w ≤ 191) (hp : ptr s G (s 1 w)) : In (sMW s w) G e k ∧ sGood (sMW s w) (sMW s w 1 w) ∧ (∀ x, x ≠ w → sMW s w 1 x = s 1 x) := by
  obtain ⟨i1, ⟨y1, y2, y3, y4⟩, i4⟩ := h.mend1 h1 hp
  have z : sMendV s (s 1 w) ≠ -2 := by omega
  unfold sMW sWM
  by_cases c : sMendV s (s 1 w) = -2 ∨ sMend s (s 1 w) 1 w = sMendV s (s 1 w)
  · rw [if_pos c]
    refine ⟨i1, ?_, fun x _ => i4 x⟩
    rw [c.elim (fun q => absurd q z) id]; exact y2
  · rw [if_neg c]
    have i5 := i1.word (x := w) hw (by rw [i4]; exact hv) ⟨y3, y4⟩ y1 y2
    refine ⟨i5.wr (kd := 5) (v := w) (by omega) (by omega), ?_, fun x hx => ?_⟩
    · show sGood (sMend s (s 1 w)) (up2 (sMend s (s 1 w)) 1 w (sMendV s (s 1 w)) 1 w)
      rw [up2_ap, if_pos ⟨rfl, rfl⟩]; exact y2
    · rw [sWr_k x (by decide), up2_ap, if_neg (fun z => hx z.2)]
      exact i4 x
def sMk (s : hs) (a : Nat) : Nat → Nat → hs
  | 0, _ => s
  | d + 1, j => sMk (sMW s (a + j)) a d (j + 1)
theorem In.mkl {e : Nat → Prop} {a n : Nat} (ha : a < 64) (hn : a + n < 64) : ∀ (d j : Nat) (s : hs) (G : Nat → Prop), 1 ≤ j → j + d = n + 1 → In s G e 6 → s 0 14 = 1 → G a → s 1 a = 1000 + n → (∀ i, 1 ≤ i → i < j → sGood s (s 1 (a + i))) → In (sMk s a d j) G e 6 ∧ sMk s a d j 1 a = 1000 + n ∧ (∀ i, 1 ≤ i → i ≤ n → sGood (sMk s a d j) (sMk s a d j 1 (a + i))) := by
  intro d
  induction d with
  | zero =>
    intro j s G j1 hj h h1 hg h1a hf
    exact ⟨h, h1a, fun i i1 i2 => hf i i1 (by omega)⟩
  | succ d ih =>
    intro j s G j1 hj h h1 hg h1a hf
    have ⟨o, l, f2, g, rg⟩ := h
    have hv := l.2.1 a ha (by omega) j j1 (by omega)
    have hp := g.2.2.1 a hg j j1 (by omega)
    obtain ⟨i1, i2, i3⟩ := h.mw1 h1 (w := a + j) (by omega) hv hp
    have e15 : sMW s (a + j) 0 15 = s 0 15 := sMW_0 (by decide)
    refine ih (j + 1) (sMW s (a + j)) G (by omega) (by omega) i1 (by rw [sMW_0 (by decide)]; exact h1) hg (by rw [i3 a (by omega)]; exact h1a) (fun i b1 b2 => ?_)
    by_cases q : i = j
    · rw [q]; exact i2
    · rw [i3 (a + i) (by omega)]
      have := hf i b1 (by omega)
      show _ ∨ _
      rw [e15]; exact this
theorem In.unex {s : hs} {G e : Nat → Prop} {k : Nat} (h : In s G e k) (he : ∀ w, e w → fld s (sGood s) w) : In s G no k := by
  obtain ⟨o, l, f2, ⟨g1, g2, g3, g4, g5, g6, g7, g8, g9, g10, g11, g12, g13, g14, g15⟩, rg⟩ := h
  refine ⟨o, l, f2, ⟨g1, g2, g3, g4, g5, g6, g7, ?_, g9, g10, g11, g12, g13, g14, g15⟩, rg⟩
  intro h1 w hw hm
  have := g8 h1 w hw hm
  exact ⟨this.1, this.2.elim Or.inl (fun q => q.elim (fun q => Or.inr (Or.inl q)) (fun q => Or.inr (Or.inl (he w q))))⟩
def sTop (s : hs) : Nat := (s 4 (s 0 13 - 1).toNat).toNat
def sMark1 (s : hs) : hs := sMk (up2 s 0 13 (s 0 13 - 1)) (sTop s) (s 1 (sTop s) - 1000).toNat 1
theorem In.pop {s : hs} {G : Nat → Prop} (h : In s G no 6) (h1 : s 0 14 = 1) (hs : 0 < s 0 13) : In (up2 s 0 13 (s 0 13 - 1)) G (fun w => w = sTop s) 6 ∧ G (sTop s) := by
  have hin := h
  obtain ⟨o, l, f2, ⟨g1, g2, g3, g4, g5, g6, g7, g8, g9, g10, g11, g12, g13, g14, g15⟩, rg⟩ := h
  have os := o.stacked
  have gt := g9 h1 (s 0 13 - 1).toNat (by omega)
  have ok := o.k (show (s 0 13 - 1).toNat < 64 by omega)
  have o' : Ok (up2 s 0 13 (s 0 13 - 1)) := o.up (by decide) ⟨fun _ => ⟨by omega, by omega⟩, fun q => absurd q (by decide), fun q => absurd q (by decide), fun q => absurd q (by decide), fun q => absurd q (by decide), fun q => absurd q (by decide)⟩
  refine ⟨⟨o', l, f2, ⟨g1, g2, g3, g4, g5, g6, g7, ?_, ?_, ?_, g11, g12, g13, g14, g15⟩, rg⟩, gt.1⟩
  · intro _ w hw hm
    have := g8 h1 w hw hm
    refine ⟨this.1, this.2.elim (fun q => ?_) (fun q => q.elim (fun q => Or.inr (Or.inl q)) (fun q => absurd q id))⟩
    obtain ⟨i, i1, i2⟩ := q
    by_cases c : i = (s 0 13 - 1).toNat
    · refine Or.inr (Or.inr ?_)
      show w = (s 4 (s 0 13 - 1).toNat).toNat
      rw [← c, i2]; rfl
    · exact Or.inl ⟨i, by show (i : Int) < s 0 13 - 1; omega, i2⟩
  · intro _ i hi
    have hi : (i : Int) < s 0 13 - 1 := hi
    exact g9 h1 i (by omega)
  · intro _
    have := g10 h1
    show s 0 13 - 1 ≤ _
    have e : sm (up2 s 0 13 (s 0 13 - 1) 3) 64 = sm (s 3) 64 := rfl
    rw [e]; omega
theorem top_facts {s : hs} {G : Nat → Prop} (h : In s G no 6) (h1 : s 0 14 = 1) (hs : 0 < s 0 13) : ∃ n : Nat, sTop s < 64 ∧ n ≤ 3 ∧ s 1 (sTop s) = 1000 + n ∧ (s 1 (sTop s) - 1000).toNat = n ∧ sTop s + n < 64 ∧ sSz s (sTop s) = n + 1 ∧ ((sTop s : Nat) : Int) = s 4 (s 0 13 - 1).toNat ∧ (s 0 13 - 1).toNat < 64 := by
  have p := h.pop h1 hs
  have ⟨o, l, f2, g, rg⟩ := h
  have os := o.stacked
  have a := g.1 _ p.2
  have ok := o.k (show (s 0 13 - 1).toNat < 64 by omega)
  obtain ⟨n, hn, m1, m2, m3, m4⟩ := head_n o l a.1 a.2.1
  refine ⟨n - 1, a.1, by omega, by omega, by omega, by omega, by omega, ?_, by omega⟩
  unfold sTop
  omega
theorem In.mark1 {s : hs} {G : Nat → Prop} (h : In s G no 6) (h1 : s 0 14 = 1) (hs : 0 < s 0 13) : Inv (sMark1 s) := by
  obtain ⟨n, t64, n3, e1, e2, e3, _⟩ := top_facts h h1 hs
  obtain ⟨p1, p2⟩ := h.pop h1 hs
  have r := In.mkl (a := sTop s) (n := n) t64 e3 n 1 (up2 s 0 13 (s 0 13 - 1)) G (by omega) (by omega) p1 h1 p2 e1 (fun i i1 i2 => by omega)
  unfold sMark1
  rw [e2]
  refine ⟨G, r.1.unex (fun w hw => ?_)⟩
  subst hw
  intro j j1 j2
  rw [r.2.1] at j2
  exact r.2.2 j j1 (by omega)
theorem x_mk_loop {u a n : Nat} {e : Nat → Prop} {b : Int32} (ha : a < 64) (hn : a + n < 64) (hb : b.toInt = ((a + n : Nat) : Int)) : ∀ (d j f : Nat) (M : xm) (s : hs) (G : Nat → Prop) (x : Int32), 1 ≤ j → j + d = n + 1 → d < f → RX u M s → In s G e 6 → s 0 14 = 1 → G a → s 1 a = 1000 + n → x.toInt = ((a + j : Nat) : Int) → ∃ M', g_X1_markOne_52 u b f M x = some M' ∧ RX u M' (sMk s a d j) ∧ frX u M M' := by
  intro d
  induction d with
  | zero =>
    intro j f M s G x j1 hj hf h hi h1 hg h1a hx
    obtain ⟨f, rfl⟩ : ∃ q, f = q + 1 := ⟨f - 1, by omega⟩
    unfold g_X1_markOne_52
    rw [if_neg (by rw [i_lt, hx]; simp only [Int32.reduceToInt]; omega), if_pos (by rw [i_lt, hb, hx]; omega)]
    exact ⟨M, rfl, h, frX.rfl⟩
  | succ d ih =>
    intro j f M s G x j1 hj hf h hi h1 hg h1a hx
    obtain ⟨f, rfl⟩ : ∃ q, f = q + 1 := ⟨f - 1, by omega⟩
    have ⟨o, l, f2, g, rg⟩ := hi
    have hv := l.2.1 a ha (by omega) j j1 (by omega)
    have hp := g.2.2.1 a hg j j1 (by omega)
    obtain ⟨i1, i2, i3⟩ := hi.mw1 h1 (w := a + j) (by omega) hv hp
    obtain ⟨r, M1, M2, m1, m2, m3, m4, m5⟩ := x_mendWord h hi hx (by omega) hp
    unfold g_X1_markOne_52
    rw [if_neg (by rw [i_lt, hx]; simp only [Int32.reduceToInt]; omega), if_neg (by rw [i_lt, hb, hx]; omega), if_neg (by rw [i_le, hx]; simp only [Int32.reduceToInt]; omega), if_pos (i_in hx (by omega)), i_ix hx, m1, xb2_some, m3, xb1_some, xlet_eq]
    obtain ⟨M', k1, k2, k3⟩ := ih (j + 1) f M2 (sMW s (a + j)) G (x + 1) (by omega) (by omega) (by omega) m4 i1 (by rw [sMW_0 (by decide)]; exact h1) hg (by rw [i3 a (by omega)]; exact h1a) (by rw [i_add hx (b := 1) rfl (by omega) (by omega)]; omega)
    exact ⟨M', k1, k2, frX.tr m5 k3⟩
theorem x_markOne {u : Nat} {M : xm} {s : hs} {G : Nat → Prop} (h : RX u M s) (hi : In s G no 6) (h1 : s 0 14 = 1) (hs : 0 < s 0 13) : ∃ M', f_X1_markOne u M = some M' ∧ RX u M' (sMark1 s) ∧ frX u M M' := by
  obtain ⟨n, t64, n3, e1, e2, e3, e4, e5, e6⟩ := top_facts hi h1 hs
  obtain ⟨p1, p2⟩ := hi.pop h1 hs
  have os := hi.1.stacked
  have s13 : (M u 13 - 1).toInt = s 0 13 - 1 := i_sub h.stacked (b := 1) rfl (by omega) (by omega)
  have h2 : RX u (up2 M (u + 0) 13 (M u 13 - 1)) (up2 s 0 13 (s 0 13 - 1)) := h.up (by decide) s13
  have k13 : ((up2 M (u + 0) 13 (M u 13 - 1)) u 13).toInt = ((s 0 13 - 1).toNat : Int) := by
    rw [h2.stacked]; show s 0 13 - 1 = _; omega
  have top : ((up2 M (u + 0) 13 (M u 13 - 1)) (u + 4) (s 0 13 - 1).toNat).toInt = (sTop s : Int) := by
    rw [h2.k e6, e5]; rfl
  obtain ⟨z, z1, z2⟩ := x_sizeAt h2 p1.1 top t64
  have z2' : z.toInt = ((n + 1 : Nat) : Int) := by rw [z2]; exact congrArg _ e4
  unfold f_X1_markOne
  rw [if_neg (by rw [i_lt, h.stacked]; simp only [Int32.reduceToInt]; omega), if_pos (by rw [i_le, h.stacked]; simp only [Int32.reduceToInt]; omega)]
  simp only [xlet_eq]
  rw [show up2 M u 13 (M u 13 - 1) = up2 M (u + 0) 13 (M u 13 - 1) from rfl, if_pos (i_in k13 e6), i_ix k13, z1, xb1_some]
  obtain ⟨M', k1, k2, k3⟩ := x_mk_loop (b := (up2 M (u + 0) 13 (M u 13 - 1)) (u + 4) (s 0 13 - 1).toNat + z - 1) t64 e3 (by
    rw [i_sub (i_add top z2' (by omega) (by omega)) (b := 1) rfl (by omega) (by omega)]; omega) n 1 xfuel _ (up2 s 0 13 (s 0 13 - 1)) G ((up2 M (u + 0) 13 (M u 13 - 1)) (u + 4) (s 0 13 - 1).toNat + 1) (by omega) (by omega) (by unfold xfuel; omega) h2 p1 h1 p2 e1 (by rw [i_add top (b := 1) rfl (by omega) (by omega)]; omega)
  rw [k1, xb1_some]
  unfold sMark1
  rw [e2]
  exact ⟨M', rfl, k2, frX.tr (frX.up (k := 0) (by decide)) k3⟩
theorem y_mk_loop {a n : Nat} {e : Nat → Prop} {b : Int32} (ha : a < 64) (hn : a + n < 64) (hb : b.toInt = (a : Int)) : ∀ (d j f : Nat) (M : xm) (s : hs) (G : Nat → Prop) (x : Int32), 1 ≤ j → j + d = n + 1 → d < f → RY M s → In s G e 6 → s 0 14 = 1 → G a → s 1 a = 1000 + n → x.toInt = (j : Int) → ∃ M', g_X10_markNow_30 b f M x = some M' ∧ RY M' (sMk s a d j) ∧ frY M M' := by
  intro d
  induction d with
  | zero =>
    intro j f M s G x j1 hj hf h hi h1 hg h1a hx
    obtain ⟨f, rfl⟩ : ∃ q, f = q + 1 := ⟨f - 1, by omega⟩
    obtain ⟨z, z1, z2⟩ := y_fieldsOf h hi.1 hb ha
    unfold g_X10_markNow_30
    rw [z1, xb1_some, if_pos (by rw [i_lt, z2, hx, h1a]; omega)]
    exact ⟨M, rfl, h, frY.rfl⟩
  | succ d ih =>
    intro j f M s G x j1 hj hf h hi h1 hg h1a hx
    obtain ⟨f, rfl⟩ : ∃ q, f = q + 1 := ⟨f - 1, by omega⟩
    have ⟨o, l, f2, g, rg⟩ := hi
    have hv := l.2.1 a ha (by omega) j j1 (by omega)
    have hp := g.2.2.1 a hg j j1 (by omega)
    obtain ⟨i1, i2, i3⟩ := hi.mw1 h1 (w := a + j) (by omega) hv hp
    obtain ⟨z, z1, z2⟩ := y_fieldsOf h o hb ha
    obtain ⟨M2, m1, m2, m3⟩ := y_mendWord h hi (a := b + x) (w := a + j) (by rw [i_add hb hx (by omega) (by omega)]; omega) (by omega) hp (fun q => by have := q.2.1; omega)
    unfold g_X10_markNow_30
    rw [z1, xb1_some, if_neg (by rw [i_lt, z2, hx, h1a]; omega), m1, xb1_some, xlet_eq]
    obtain ⟨M', k1, k2, k3⟩ := ih (j + 1) f M2 (sMW s (a + j)) G (x + 1) (by omega) (by omega) (by omega) m2 i1 (by rw [sMW_0 (by decide)]; exact h1) hg (by rw [i3 a (by omega)]; exact h1a) (by rw [i_add hx (b := 1) rfl (by omega) (by omega)]; omega)
    exact ⟨M', k1, k2, frY.tr m3 k3⟩
theorem y_markNow {M : xm} {s : hs} {G : Nat → Prop} (h : RY M s) (hi : In s G no 6) (h1 : s 0 14 = 1) (hs : 0 < s 0 13) : ∃ M', f_X10_markNow M = some M' ∧ RY M' (sMark1 s) ∧ frY M M' := by
  obtain ⟨n, t64, n3, e1, e2, e3, e4, e5, e6⟩ := top_facts hi h1 hs
  obtain ⟨p1, p2⟩ := hi.pop h1 hs
  have os := hi.1.stacked
  have s13 : (M 1 8 - 1).toInt = s 0 13 - 1 := i_sub h.stacked (b := 1) rfl (by omega) (by omega)
  have h2 : RY (up2 M 1 8 (M 1 8 - 1)) (up2 s 0 13 (s 0 13 - 1)) := RY.up h (k := 0) (i := 13) (by decide) (by decide) s13
  have k13 : ((up2 M 1 8 (M 1 8 - 1)) 1 8).toInt = ((s 0 13 - 1).toNat : Int) := by
    rw [h2.stacked]; show s 0 13 - 1 = _; omega
  have e := yx 233 (b := 233) rfl k13 (by omega)
  have top : ((up2 M 1 8 (M 1 8 - 1)) 1 (233 + (s 0 13 - 1).toNat)).toInt = (sTop s : Int) := by
    rw [h2.k e6, e5]; rfl
  unfold f_X10_markNow
  simp only [xlet_eq]
  rw [if_pos e.1, e.2]
  obtain ⟨M', k1, k2, k3⟩ := y_mk_loop t64 e3 top n 1 xfuel _ (up2 s 0 13 (s 0 13 - 1)) G 1 (by omega) (by omega) (by unfold xfuel; omega) h2 p1 h1 p2 e1 rfl
  rw [k1, xb1_some]
  unfold sMark1
  rw [e2]
  exact ⟨M', rfl, k2, frY.tr (frY.up (by omega)) k3⟩
