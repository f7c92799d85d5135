/-! a law's sum, read whole by both -/
theorem y_partNone (M : xm) (L : xn) : f_X10_partOf M L (-1) = some (-1) := by
  unfold f_X10_partOf
  rw [if_neg (by decide), if_neg (by decide), if_neg (by decide), if_neg (by decide)]
theorem summed_YZ (G : Qc) {i : Nat} (MY : xm) (LY : xn) (hm : G.m + (G.T + 2 - i) = xfuel) : f_X10_summed MY LY = YZ G i (up2 (up2 (up2 MY 0 16 0) 0 17 0) 0 18 0) LY := by
  unfold f_X10_summed YZ
  rw [xlet_eq, xlet_eq, xlet_eq, hm]
  rfl
theorem sum_200 (G : Qc) : SV G 5 0 (fun M => f_X4_rec 200 0 M 0 0) := (q_all G 200 0 0 rfl (by decide)).2.2.1 (by decide)
theorem law_sum (G : Qc) {M MY : xm} {LY : xn} {i k w : Nat} (cx : CX G M i k) (yp : YP MY LY G.B G.n G.K G.P G.N G.E i) (h12 : (MY 0 12).toInt = ((705 * G.t : Nat) : Int)) (t4 : G.t < 4) (h13 : (MY 0 13).toInt = (w : Int)) (hw : w ≤ i) (iT : i ≤ G.T) (h14 : (MY 0 14).toInt = sot G.pk) (hm : G.m + (G.T + 2 - i) = xfuel) : ∃ M', f_X4_sum M 0 = some M' ∧ frD k M M' ∧ ((M' 990 6 ≠ 0 ∧ ∃ MY' LY', f_X10_summed MY LY = some (M' 990 6, MY', LY') ∧ (MY' 0 8).toInt = (M' 990 7).toInt ∧ frR G.t w MY MY') ∨ (∃ (j k' w' : Nat) (f : fn) (MY' : xm) (LY' : xn), (i < j ∧ k < k' ∧ w ≤ w') ∧ CX G M' j k' ∧ f_X10_summed MY LY = some (0, MY', LY') ∧ YP MY' LY' G.B G.n G.K G.P G.N G.E j ∧ (MY' 0 13).toInt = (w' : Int) ∧ w' ≤ j ∧ j ≤ G.T ∧ frR G.t w MY MY' ∧ Mf f ∧ VX (cXo M') (cXv M') k k' f ∧ VY G.pk (cYo G.t MY') (cYv G.t MY') w w' f)) := by
  have c0 : ∀ j, j ≠ 16 → j ≠ 17 → j ≠ 18 → up2 (up2 (up2 MY 0 16 0) 0 17 0) 0 18 0 0 j = MY 0 j := fun j a b c => by rw [up2_ne (by omega), up2_ne (by omega), up2_ne (by omega)]
  have f0 : frR G.t w MY (up2 (up2 (up2 MY 0 16 0) 0 17 0) 0 18 0) := ((frR.s (w := w) (by omega)).tr (frR.s (w := w) (by omega)) (Nat.le_refl _)).tr (frR.s (w := w) (by omega)) (Nat.le_refl _)
  have cy : CY G (up2 (up2 (up2 MY 0 16 0) 0 17 0) 0 18 0) LY i 0 w ((0 : Nat) : Int) := by
    refine ⟨yp.fr (by rw [up2_cell (by decide), up2_cell (by decide), up2_cell (by decide)]) (fun j hj => c0 j (by omega) (by omega) (by omega)), ⟨by rw [c0 12 (by decide) (by decide) (by decide)]; exact h12, t4, ?_, by rw [c0 13 (by decide) (by decide) (by decide)]; exact h13, ?_⟩, by omega, iT, by rw [c0 14 (by decide) (by decide) (by decide)]; exact h14⟩
    · rw [up2_ne (by omega), up2_ne (by omega), up2_same]; rfl
    · rw [up2_ne (by omega), up2_same]; rfl
  have w0 : up2 (up2 (up2 MY 0 16 0) 0 17 0) 0 18 0 0 18 = 0 := up2_same _ _ _ _
  rw [summed_YZ G MY LY hm]
  generalize up2 (up2 (up2 MY 0 16 0) 0 17 0) 0 18 0 = MY0 at f0 cy w0
  obtain ⟨M', m1, m2, m3⟩ := sum_200 G M MY0 LY i k 0 w ⟨cx, cy, w0, ⟨by decide, by decide⟩, Or.inl rfl, fun _ => Or.inl rfl⟩
  refine ⟨M', m1, m2, ?_⟩
  rcases m3 with ⟨g1, MY3, LY3, g2, g3, g4⟩ | ⟨j, k', w', r, f, MY3, LY3, ⟨a1, a2, a3, a4, a5⟩, cx3, cy3, wh3, yz3, fy3, pb3, pr3, mf, vx, pm, ec1, ec2⟩
  · exact Or.inl ⟨g1, MY3, LY3, g2, g3, f0.tr g4 (Nat.le_refl _)⟩
  · have T33 := cy3.T3
    have kn := ec1 (by omega)
    have kn2 := ec2 (by omega)
    have l1 : ∀ x, x < r → 1 ≤ rk (pil MY3 (0 + x)) := fun x hx => by have := (pr3 x hx).1; omega
    have t40 : tpP (fun z => 40 ≤ z) (pil MY3) (0 + r) 0 := ⟨by omega, fun x _ hx z => by
      have h1 := l1 x (by omega)
      rw [Nat.zero_add] at h1
      have := rk_40 h1
      have z' : 40 ≤ pil MY3 x := z
      omega, fun z => by omega⟩
    obtain ⟨vo, vo1, vo2⟩ := y_openNow cy3.2.1.2.2.1 (by omega) (p := pil MY3) (fun j _ => rfl) t40
    rw [if_pos rfl] at vo2
    have vo3 : vo = -1 := by rw [i_eq, vo2]; rfl
    rw [vo3] at vo1
    have bt1 := (y_nosign cy3.1.2.2.2 ⟨kn2.1, kn2.2, kn.1, kn.2⟩ vo1).1 (by decide)
    have be : f_X10_behindOne MY3 LY3 = some (0, MY3, LY3) := by
      unfold f_X10_behindOne
      rw [bt1, xb1_some, if_pos (by decide), vo1, xb1_some, y_partNone, xb1_some, if_neg (by decide)]
    have c00 : cntO (pil MY3) 0 r = 0 := cntO_0 r (fun x hx => ⟨by have := (pr3 x hx).1; omega, (pr3 x hx).2⟩)
    obtain ⟨M1, s1, s2, s3, s4, s5, s6⟩ := cy3.settle (x := 1) (lv := 1) rfl (Or.inl rfl) (by omega) (by omega) (by omega) l1
    have st := YZ_stop (G := G) T33.2.1 wh3 be
    rw [vo1, xb1_some, if_pos (by decide), s1, xb1_some] at st
    refine Or.inr ⟨j, k', w' + r, f, M1, LY3, ⟨a1, a2, by omega⟩, cx3, yz3.trans st, s2.1, s2.2.1.2.2.2.1, by have := s2.T3; omega, by omega, (f0.tr fy3 (Nat.le_refl _)).tr (frR.e s6 (by omega)) (by omega), mf, vx, pm.done (fun x hx => s6.2.2 x (by omega)) s5⟩
/-! numbers and words of clauses, by both -/
def Bst (G : Qc) (i : Nat) (M MY : xm) (LY : xn) : Prop := XP M G.T G.K G.P G.N i ∧ YP MY LY G.B G.n G.K G.P G.N G.E i
def frA (M M' : xm) : Prop := (∀ q, q ≠ 990 → M' q = M q) ∧ ∀ j, j ≠ 6 → j ≠ 7 → j ≠ 9 → M' 990 j = M 990 j
theorem frA.tr {M M' M'' : xm} (h : frA M M') (h' : frA M' M'') : frA M M'' := ⟨fun q a => (h'.1 q a).trans (h.1 q a), fun j a b c => (h'.2 j a b c).trans (h.2 j a b c)⟩
theorem frA.F {M M' : xm} {f : Int32} {p : Nat} (h : XF M M' f p) : frA M M' := ⟨fun q a => h.2.2.1 q a, fun j a b _ => h.2.2.2 j a b⟩
theorem frA.A {M : xm} {v : Int32} : frA M (up2 M 990 9 v) := ⟨fun q a => up2_cell a, fun j _ _ c => up2_ne (by omega)⟩
theorem frA.re (M : xm) : frA M M := ⟨fun _ _ => rfl, fun _ _ _ _ => rfl⟩
def frN (lo hi : Nat) (M M' : xm) : Prop := (∀ q, q ≠ 0 → q ≠ 3 → M' q = M q) ∧ (∀ j, j ≠ 7 → j ≠ 8 → j ≠ 9 → j ≠ 10 → M' 0 j = M 0 j) ∧ ∀ y, y < lo ∨ hi ≤ y → M' 3 y = M 3 y
theorem frN.re (lo hi : Nat) (M : xm) : frN lo hi M M := ⟨fun _ _ _ => rfl, fun _ _ _ _ _ => rfl, fun _ _ => rfl⟩
theorem frN.tr {lo hi : Nat} {M M' M'' : xm} (h : frN lo hi M M') (h' : frN lo hi M' M'') : frN lo hi M M'' := ⟨fun q a b => (h'.1 q a b).trans (h.1 q a b), fun j a b c d => (h'.2.1 j a b c d).trans (h.2.1 j a b c d), fun y hy => (h'.2.2 y hy).trans (h.2.2 y hy)⟩
theorem frN.up {lo hi lo' hi' : Nat} {M M' : xm} (h : frN lo hi M M') (h1 : lo' ≤ lo) (h2 : hi ≤ hi') : frN lo' hi' M M' := ⟨h.1, h.2.1, fun y hy => h.2.2 y (by omega)⟩
theorem frN.o {lo hi : Nat} {M M' : xm} (h : fr0 M M') : frN lo hi M M' := ⟨fun q a _ => h.1 q a, h.2, fun y _ => by rw [h.1 3 (by decide)]⟩
/-- a fault of both -/
def NF (M M' MY : xm) (R : Option (Int32 × xm × xn)) (lo hi : Nat) : Prop := M' 990 6 ≠ 0 ∧ frA M M' ∧ ∃ MYf LYf, R = some (M' 990 6, MYf, LYf) ∧ (MYf 0 8).toInt = (M' 990 7).toInt ∧ frN lo hi MY MYf
theorem NF.of {G : Qc} {i lo hi : Nat} {M M' MY : xm} {LY : xn} {f : Int32} {R : Option (Int32 × xm × xn)} (h : Bst G i M MY LY) (hx : XF M M' f (G.P i)) (hf : f ≠ 0) (hR : R = some (f, MY, LY)) : NF M M' MY R lo hi := ⟨by rw [hx.1]; exact hf, frA.F hx, MY, LY, by rw [hx.1]; exact hR, by rw [hx.2.1]; exact h.2.2.2.1, frN.re _ _ _⟩
theorem num_both {G : Qc} {i lo hi xi : Nat} {M MY : xm} {LY : xn} {x a b : Int32} (h : Bst G i M MY LY) (hx : x.toInt = (xi : Int)) (xl : xi < 2820) (ha : a.toInt = (lo : Int)) (hb : b.toInt = (hi : Int)) (h60 : hi ≤ 60) : (∃ M', f_X4_wantNumber M a b = some (0, M') ∧ NF M M' MY (f_X10_figure MY LY x a b) xi (xi + 1)) ∨ (∃ (r v : Int32) (MY' : xm) (LY' : xn), f_X4_wantNumber M a b = some (r, up2 M 990 9 v) ∧ f_X10_figure MY LY x a b = some (0, MY', LY') ∧ Bst G (i + 1) (up2 M 990 9 v) MY' LY' ∧ i < G.T ∧ MY' 3 xi = r ∧ (lo : Int) ≤ r.toInt ∧ r.toInt ≤ (hi : Int) ∧ frN xi (xi + 1) MY MY') := by
  have iT := h.1.2.2.1
  have t1 := h.2.2.2.2.sg (c := 40) (x := 1) (by omega) rfl (by decide) (by decide) (by decide)
  obtain ⟨w1, w2, w3⟩ := x_wantNumber h.1 G.ht.2.2.2.1 ha hb
  by_cases c : G.K i = 40
  · have c1 := t1.mpr c
    obtain ⟨g1, g2⟩ := h.2.2.2.2.2.1 c
    have isI : f_X10_isIn (MY 0 10) a b = if lo ≤ G.N i ∧ G.N i ≤ hi then 1 else 0 := by
      unfold f_X10_isIn
      simp only [i_lt, ha, hb]
      by_cases q1 : (MY 0 10).toInt < (lo : Int)
      · rw [if_pos q1, if_neg (by omega)]
      · rw [if_neg q1]
        by_cases q2 : (hi : Int) < (MY 0 10).toInt
        · rw [if_pos q2, if_neg (by omega)]
        · rw [if_neg q2, if_pos (by omega)]
    by_cases q : lo ≤ G.N i ∧ G.N i ≤ hi
    · obtain ⟨r, v, r1, r2, r3⟩ := w3 c q
      rw [if_pos q] at isI
      have iT2 := jT iT c (by decide)
      have yp : YP (up2 MY 3 xi (MY 0 10)) LY G.B G.n G.K G.P G.N G.E i := h.2.fr (by rw [up2_cell (by decide)]) (fun j _ => by rw [up2_cell (by decide)])
      obtain ⟨M2, L2, n1, n2, n3⟩ := y_next yp G.ht iT2
      have rr : MY 0 10 = r := i_inj (z := (G.N i : Int)) (by omega) r2
      refine Or.inr ⟨r, v, M2, L2, r1, ?_, ⟨r3, n2⟩, iT2, ?_, by omega, by omega, fun z a b => ?_, fun z a b c d => ?_, fun y hy => ?_⟩
      · unfold f_X10_figure
        rw [if_pos c1, isI, if_neg n10, if_pos (i_in hx xl), i_ix hx, xlet_eq, n1, xb2_some]
      · rw [n3.1 3 (by decide), up2_same, rr]
      · rw [n3.1 z a, up2_cell b]
      · rw [n3.2 z a b c d, up2_cell (by decide)]
      · rw [n3.1 3 (by decide), up2_ne (by omega)]
    · obtain ⟨M', m1, m2⟩ := w2 c q
      rw [if_neg q] at isI
      refine Or.inl ⟨M', m1, NF.of h m2 (by decide) ?_⟩
      unfold f_X10_figure
      rw [if_pos c1, isI, if_pos rfl]
  · obtain ⟨M', m1, m2⟩ := w1 c
    refine Or.inl ⟨M', m1, NF.of h m2 (by decide) ?_⟩
    unfold f_X10_figure
    rw [if_neg (fun z => c (t1.mp z))]
theorem fur_both {G : Qc} {i hi xi c : Nat} {M MY : xm} {LY : xn} {x b cw : Int32} {w : Int64} (h : Bst G i M MY LY) (hx : x.toInt = (xi : Int)) (xl : xi < 2820) (hb : b.toInt = (hi : Int)) (h60 : hi ≤ 60) (hc : cw.toInt = (c : Int)) (c27 : c < 27) (hw : w.toInt = (vcd c : Int)) : ∃ M1, f_X4_want M cw = some M1 ∧ ((∃ M', f_X4_wantNumber M1 0 b = some (0, M') ∧ NF M M' MY (f_X10_further MY LY x w b) xi (xi + 1)) ∨ (∃ (r : Int32) (M2 MY' : xm) (LY' : xn), f_X4_wantNumber M1 0 b = some (r, M2) ∧ f_X10_further MY LY x w b = some (0, MY', LY') ∧ Bst G (i + 2) M2 MY' LY' ∧ i + 1 < G.T ∧ MY' 3 xi = r ∧ frA M M2 ∧ frN xi (xi + 1) MY MY')) := by
  have iw := h.2.2.2.2.word c27 hw
  have iT := h.1.2.2.1
  obtain ⟨w1, w2⟩ := x_want h.1 hc (by omega) G.ht.2.2.2.1
  by_cases q : G.K i = c
  · obtain ⟨v, v1, v2⟩ := w1 q
    rw [if_pos q] at iw
    have iT2 := jT iT q (by omega)
    obtain ⟨M2, L2, n1, n2, n3⟩ := y_next h.2 G.ht iT2
    refine ⟨_, v1, ?_⟩
    rcases num_both (a := 0) (lo := 0) (G := G) (i := i + 1) (M := up2 M 990 9 v) (MY := M2) (LY := L2) ⟨v2, n2⟩ hx xl rfl hb h60 with ⟨M', m1, m2, m3, MYf, LYf, m4, m5, m6⟩ | ⟨r, v3, MY', LY', m1, m2, m3, m4, m5, m6, m7, m8⟩
    · refine Or.inl ⟨M', m1, m2, frA.A.tr m3, MYf, LYf, ?_, m5, (frN.o n3).tr m6⟩
      unfold f_X10_further
      rw [iw, if_neg n10, n1, xb2_some, m4, xb3_some]
    · refine Or.inr ⟨r, _, MY', LY', m1, ?_, m3, m4, m5, frA.A.tr frA.A, (frN.o n3).tr m8⟩
      unfold f_X10_further
      rw [iw, if_neg n10, n1, xb2_some, m2, xb3_some]
  · obtain ⟨M', m1, m2⟩ := w2 q
    rw [if_neg q] at iw
    have nf : NF M M' MY (f_X10_further MY LY x w b) xi (xi + 1) := NF.of h m2 (by decide) (by unfold f_X10_further; rw [iw, if_pos rfl])
    exact ⟨M', m1, Or.inl ⟨M', x_wantNumber0 nf.1 0 b, nf⟩⟩
/-- one more clause in the draft -/
def AC (M M' : xm) (c : Nat) (a1 a2 a3 a4 : Int32) : Prop := (M' 995 8).toInt = ((c + 1 : Nat) : Int) ∧ (M' 996 c = a1 ∧ M' 997 c = a2 ∧ M' 998 c = a3 ∧ M' 999 c = a4) ∧ (∀ i, i ≠ c → M' 996 i = M 996 i ∧ M' 997 i = M 997 i ∧ M' 998 i = M 998 i ∧ M' 999 i = M 999 i) ∧ (∀ q, ¬ (995 ≤ q ∧ q ≤ 999) → M' q = M q) ∧ ∀ j, j ≠ 8 → M' 995 j = M 995 j
theorem x_addClause {M : xm} {c : Nat} (hc : (M 995 8).toInt = (c : Int)) (h24 : c < 24) (a1 a2 a3 a4 : Int32) : ∃ M', f_X7_addClause (990 + 5) M a1 a2 a3 a4 = some M' ∧ AC M M' c a1 a2 a3 a4 := by
  have e8 : (M (990 + 5) 8).toInt = (c : Int) := hc
  have nx : (M 995 8 + 1).toInt = ((c + 1 : Nat) : Int) := k_add hc (y := 1) (b := 1) rfl (by omega)
  have q1 : up2 M 996 c a1 995 = M 995 := up2_cell (by decide)
  have q2 : up2 (up2 M 996 c a1) 997 c a2 995 = M 995 := by rw [up2_cell (by decide), q1]
  have q3 : up2 (up2 (up2 M 996 c a1) 997 c a2) 998 c a3 995 = M 995 := by rw [up2_cell (by decide), q2]
  have q4 : up2 (up2 (up2 (up2 M 996 c a1) 997 c a2) 998 c a3) 999 c a4 995 = M 995 := by rw [up2_cell (by decide), q3]
  refine ⟨up2 (up2 (up2 (up2 (up2 M 996 c a1) 997 c a2) 998 c a3) 999 c a4) 995 8 (M 995 8 + 1), ?_, by rw [up2_same]; exact nx, ⟨?_, ?_, ?_, ?_⟩, fun i hi => ⟨?_, ?_, ?_, ?_⟩, fun q hq => ?_, fun j hj => ?_⟩
  · unfold f_X7_addClause
    rw [if_neg (by rw [i_le, e8]; simp only [Int32.reduceToInt]; omega), if_pos (i_in e8 h24), i_ix e8, show (990 + 5 + 1 : Nat) = 996 from rfl, show (990 + 5 + 2 : Nat) = 997 from rfl, show (990 + 5 + 3 : Nat) = 998 from rfl, show (990 + 5 + 4 : Nat) = 999 from rfl, show (990 + 5 : Nat) = 995 from rfl, xlet_eq, q1, if_pos (i_in hc h24), i_ix hc, xlet_eq, q2, if_pos (i_in hc h24), i_ix hc, xlet_eq, q3, if_pos (i_in hc h24), i_ix hc, xlet_eq, q4, xlet_eq]
  · rw [up2_cell (by decide), up2_cell (by decide), up2_cell (by decide), up2_cell (by decide), up2_same]
  · rw [up2_cell (by decide), up2_cell (by decide), up2_cell (by decide), up2_same]
  · rw [up2_cell (by decide), up2_cell (by decide), up2_same]
  · rw [up2_cell (by decide), up2_same]
  · rw [up2_cell (by decide), up2_cell (by decide), up2_cell (by decide), up2_cell (by decide), up2_ne (by omega)]
  · rw [up2_cell (by decide), up2_cell (by decide), up2_cell (by decide), up2_ne (by omega), up2_cell (by decide)]
  · rw [up2_cell (by decide), up2_cell (by decide), up2_ne (by omega), up2_cell (by decide), up2_cell (by decide)]
  · rw [up2_cell (by decide), up2_ne (by omega), up2_cell (by decide), up2_cell (by decide), up2_cell (by decide)]
  · rw [up2_cell (by omega), up2_cell (by omega), up2_cell (by omega), up2_cell (by omega), up2_cell (by omega)]
  · rw [up2_ne (by omega), q4]
