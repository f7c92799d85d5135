/-! a clause that is a deed, by both -/
def frC (M M' : xm) : Prop := (∀ q, q ≠ 990 → ¬ (995 ≤ q ∧ q ≤ 1003) → M' q = M q) ∧ ∀ j, j ≠ 6 → j ≠ 7 → j ≠ 9 → j ≠ 10 → M' 990 j = M 990 j
theorem frC.tr {M M' M'' : xm} (h : frC M M') (h' : frC M' M'') : frC M M'' := ⟨fun q a b => (h'.1 q a b).trans (h.1 q a b), fun j a b c d => (h'.2 j a b c d).trans (h.2 j a b c d)⟩
theorem frC.A {M M' : xm} (h : frA M M') : frC M M' := ⟨fun q a _ => h.1 q a, fun j a b c _ => h.2 j a b c⟩
theorem frC.C {M M' : xm} {c : Nat} {a1 a2 a3 a4 : Int32} (h : AC M M' c a1 a2 a3 a4) : frC M M' := ⟨fun q _ b => h.2.2.2.1 q (by omega), fun j _ _ _ _ => by rw [h.2.2.2.1 990 (by decide)]⟩
theorem frC.D {k : Nat} {M M' : xm} (h : frD k M M') : frC M M' := ⟨fun q a b => h.1 q a (by omega) (by omega) (by omega), fun j a b c _ => h.2.2.1 j a b c⟩
theorem Bst.ac {G : Qc} {i c : Nat} {M M' MY : xm} {LY : xn} {a1 a2 a3 a4 : Int32} (h : Bst G i M MY LY) (ha : AC M M' c a1 a2 a3 a4) : Bst G i M' MY LY := ⟨h.1.fr (fun j _ => by rw [ha.2.2.2.1 990 (by decide)]) (ha.2.2.2.1 992 (by decide)) (ha.2.2.2.1 993 (by decide)) (ha.2.2.2.1 994 (by decide)), h.2⟩
def DR (G : Qc) (M MY : xm) (i c xi kd : Nat) (a1 : Int32) (X : Option xm) (Y : Option (Int32 × xm × xn)) : Prop := (∃ M' MYf LYf, X = some M' ∧ M' 990 6 ≠ 0 ∧ frC M M' ∧ Y = some (M' 990 6, MYf, LYf) ∧ (MYf 0 8).toInt = (M' 990 7).toInt ∧ frN (xi + 1) (xi + 4) MY MYf) ∨ (∃ (j : Nat) (M1 M' MY' : xm) (LY' : xn) (a2 a3 a4 : Int32), X = some M' ∧ Y = some (0, MY', LY') ∧ i < j ∧ Bst G j M' MY' LY' ∧ frA M M1 ∧ AC M1 M' c a1 a2 a3 a4 ∧ frN (xi + 1) (xi + 4) MY MY' ∧ a2 = MY' 3 (xi + 1) ∧ (kd ≤ 4 → a3 = MY' 3 (xi + 2)) ∧ (3 ≤ kd → kd ≤ 4 → a4 = MY' 3 (xi + 3)) ∧ (kd = 6 → 1 ≤ a2.toInt ∧ a2.toInt ≤ 60))
theorem NF.on {M M1 M' MY MY1 : xm} {R : Option (Int32 × xm × xn)} {lo hi lo' hi' : Nat} (h : NF M1 M' MY1 R lo hi) (ha : frA M M1) (hn : frN lo' hi' MY MY1) (h1 : lo' ≤ lo) (h2 : hi ≤ hi') : NF M M' MY R lo' hi' := by
  obtain ⟨g1, g2, MYf, LYf, g3, g4, g5⟩ := h
  exact ⟨g1, ha.tr g2, MYf, LYf, g3, g4, hn.tr (g5.up h1 h2)⟩
theorem dr_f {G : Qc} {M M1 MY : xm} {i c xi kd : Nat} {a1 a2 a3 a4 : Int32} {X : Option xm} {Y : Option (Int32 × xm × xn)} (nf : NF M M1 MY Y (xi + 1) (xi + 4)) (hc : (M 995 8).toInt = (c : Int)) (h24 : c < 24) (hX : X = f_X7_addClause (990 + 5) M1 a1 a2 a3 a4) : DR G M MY i c xi kd a1 X Y := by
  obtain ⟨g1, g2, MYf, LYf, g3, g4, g5⟩ := nf
  obtain ⟨M', m1, m2⟩ := x_addClause (M := M1) (by rw [g2.1 995 (by decide)]; exact hc) h24 a1 a2 a3 a4
  have e : M' 990 = M1 990 := m2.2.2.2.1 990 (by decide)
  refine Or.inl ⟨M', MYf, LYf, hX.trans m1, by rw [e]; exact g1, (frC.A g2).tr (frC.C m2), by rw [e]; exact g3, by rw [e]; exact g4, g5⟩
theorem dr_o {G : Qc} {M M1 MY MY' : xm} {LY' : xn} {i j c xi kd : Nat} {a1 a2 a3 a4 : Int32} {X : Option xm} {Y : Option (Int32 × xm × xn)} (hB : Bst G j M1 MY' LY') (ij : i < j) (fa : frA M M1) (hc : (M 995 8).toInt = (c : Int)) (h24 : c < 24) (hX : X = f_X7_addClause (990 + 5) M1 a1 a2 a3 a4) (hY : Y = some (0, MY', LY')) (fn : frN (xi + 1) (xi + 4) MY MY') (r2 : a2 = MY' 3 (xi + 1)) (r3 : kd ≤ 4 → a3 = MY' 3 (xi + 2)) (r4 : 3 ≤ kd → kd ≤ 4 → a4 = MY' 3 (xi + 3)) (r6 : kd = 6 → 1 ≤ a2.toInt ∧ a2.toInt ≤ 60) : DR G M MY i c xi kd a1 X Y := by
  obtain ⟨M', m1, m2⟩ := x_addClause (M := M1) (by rw [fa.1 995 (by decide)]; exact hc) h24 a1 a2 a3 a4
  exact Or.inr ⟨j, M1, M', MY', LY', a2, a3, a4, hX.trans m1, hY, ij, hB.ac m2, fa, m2, fn, r2, r3, r4, r6⟩
theorem xb1_id {α : Type} (o : Option α) : xb1 o (fun a => some a) = o := by cases o <;> rfl
theorem xb2_id {α β : Type} (o : Option (α × β)) : xb2 o (fun a b => some (a, b)) = o := by cases o <;> rfl
theorem x_deed6 {M M4 : xm} {a v : Int32} (h : a = 6) (h1 : f_X4_wantNumber M 1 60 = some (v, M4)) : f_X4_deedClause M a = f_X7_addClause (990 + 5) M4 a v 0 0 := by
  unfold f_X4_deedClause
  rw [if_pos h, h1, xb2_some, xb1_id]
theorem x_deed5 {M M4 : xm} {a v : Int32} (h : a = 5) (h1 : f_X4_wantNumber M 0 5 = some (v, M4)) : f_X4_deedClause M a = f_X7_addClause (990 + 5) M4 a v 0 0 := by
  unfold f_X4_deedClause f_X4_wantRoot
  subst h
  simp only [xb2_id, xb1_id]
  rw [if_neg (by decide), h1, xb2_some]
  simp only [xlet_eq]
  rw [if_neg (by decide), if_neg (by decide), if_neg (by decide)]
theorem x_deed2 {M M4 M5 M6 : xm} {a v v2 : Int32} (h : a = 2) (h1 : f_X4_wantNumber M 0 5 = some (v, M4)) (h2 : f_X4_want M4 7 = some M5) (h3 : f_X4_wantNumber M5 0 3 = some (v2, M6)) : f_X4_deedClause M a = f_X7_addClause (990 + 5) M6 a v v2 0 := by
  unfold f_X4_deedClause f_X4_wantRoot
  subst h
  simp only [xb2_id, xb1_id]
  rw [if_neg (by decide), h1, xb2_some]
  simp only [xlet_eq]
  rw [if_pos (by decide), h2, xb1_some, h3, xb2_some]
theorem x_deed3 {M M4 M5 M6 M7 M8 : xm} {a cw v v2 v3 : Int32} (h : (a = 3 ∧ cw = 8) ∨ (a = 4 ∧ cw = 9)) (h1 : f_X4_wantNumber M 0 5 = some (v, M4)) (h2 : f_X4_want M4 cw = some M5) (h3 : f_X4_wantNumber M5 0 5 = some (v2, M6)) (h4 : f_X4_want M6 7 = some M7) (h5 : f_X4_wantNumber M7 0 2 = some (v3, M8)) : f_X4_deedClause M a = f_X7_addClause (990 + 5) M8 a v v2 v3 := by
  unfold f_X4_deedClause f_X4_wantRoot
  rcases h with ⟨ha, hw⟩ | ⟨ha, hw⟩
  · subst ha
    subst hw
    simp only [xb2_id, xb1_id]
    rw [if_neg (by decide), h1, xb2_some]
    simp only [xlet_eq]
    rw [if_neg (by decide), if_pos (by decide), if_pos (by decide), h2, xb1_some, h3, xb2_some, h4, xb1_some, h5, xb2_some]
  · subst ha
    subst hw
    simp only [xb2_id, xb1_id]
    rw [if_neg (by decide), h1, xb2_some]
    simp only [xlet_eq]
    rw [if_neg (by decide), if_neg (by decide), if_pos (by decide), if_neg (by decide), h2, xb1_some, h3, xb2_some, h4, xb1_some, h5, xb2_some]
theorem y_body {M : xm} {L : xn} {a x : Int32} : (a = 2 → f_X10_body M L a x = f_X10_makeClause M L x) ∧ (a = 3 → f_X10_body M L a x = f_X10_threeClause M L x (f_X10_w4 102 114 111 109)) ∧ (a = 4 → f_X10_body M L a x = f_X10_threeClause M L x (f_X10_w2 116 111)) ∧ (a = 5 → f_X10_body M L a x = f_X10_figure M L (x + 1) 0 5) ∧ (a = 6 → f_X10_body M L a x = f_X10_figure M L (x + 1) 1 60) ∧ (a = 0 ∨ a = 1 → f_X10_body M L a x = f_X10_lawClause M L x) := by
  unfold f_X10_body
  simp only [xb3_id]
  refine ⟨fun h => ?_, fun h => ?_, fun h => ?_, fun h => ?_, fun h => ?_, fun h => ?_⟩
  · rw [if_pos h]
  · subst h; rw [if_neg (by decide), if_pos (by decide)]
  · subst h; rw [if_neg (by decide), if_neg (by decide), if_pos (by decide)]
  · subst h; rw [if_neg (by decide), if_neg (by decide), if_neg (by decide), if_pos (by decide)]
  · subst h; rw [if_neg (by decide), if_neg (by decide), if_neg (by decide), if_neg (by decide), if_pos (by decide)]
  · rcases h with h | h <;> subst h <;> rw [if_neg (by decide), if_neg (by decide), if_neg (by decide), if_neg (by decide), if_neg (by decide)]
theorem y_make {M M3 : xm} {L L4 : xn} {x v2 : Int32} (h : f_X10_figure M L (x + 1) 0 5 = some (v2, M3, L4)) : (v2 ≠ 0 → f_X10_makeClause M L x = some (v2, M3, L4)) ∧ (v2 = 0 → f_X10_makeClause M L x = f_X10_further M3 L4 (x + 2) (f_X10_w2 111 102) 3) := by
  unfold f_X10_makeClause
  simp only [xb3_id]
  rw [h, xb3_some]
  exact ⟨fun q => by rw [if_neg q], fun q => by rw [if_pos q]⟩
theorem y_three {M M3 : xm} {L L4 : xn} {x v2 : Int32} {w : Int64} (h : f_X10_figure M L (x + 1) 0 5 = some (v2, M3, L4)) : (v2 ≠ 0 → f_X10_threeClause M L x w = some (v2, M3, L4)) ∧ (v2 = 0 → ∀ v5 M5 L5, f_X10_further M3 L4 (x + 2) w 5 = some (v5, M5, L5) → (v5 ≠ 0 → f_X10_threeClause M L x w = some (v5, M5, L5)) ∧ (v5 = 0 → f_X10_threeClause M L x w = f_X10_further M5 L5 (x + 3) (f_X10_w2 111 102) 2)) := by
  unfold f_X10_threeClause
  simp only [xb3_id, xlet_eq]
  rw [h, xb3_some]
  refine ⟨fun q => by rw [if_neg q, if_neg q], fun q v5 M5 L5 h5 => ?_⟩
  rw [if_pos q, h5, xb3_some]
  exact ⟨fun q => by rw [if_neg q], fun q => by rw [if_pos q]⟩
theorem deed_both {G : Qc} {M MY : xm} {LY : xn} {i c xi kd : Nat} {a x : Int32} (h : Bst G i M MY LY) (hc : (M 995 8).toInt = (c : Int)) (h24 : c < 24) (ha : a.toInt = (kd : Int)) (hk : 2 ≤ kd ∧ kd ≤ 6) (hx : x.toInt = (xi : Int)) (hxl : xi + 4 ≤ 2820) : DR G M MY i c xi kd a (f_X4_deedClause M a) (f_X10_body MY LY a x) := by
  have x1 : (x + 1).toInt = ((xi + 1 : Nat) : Int) := k_add hx (y := 1) (b := 1) rfl (by omega)
  have x2 : (x + 2).toInt = ((xi + 2 : Nat) : Int) := k_add hx (y := 2) (b := 2) rfl (by omega)
  have x3 : (x + 3).toInt = ((xi + 3 : Nat) : Int) := k_add hx (y := 3) (b := 3) rfl (by omega)
  obtain ⟨b2, b3, b4, b5, b6, _⟩ := y_body (M := MY) (L := LY) (a := a) (x := x)
  by_cases k6 : kd = 6
  · have a6 : a = 6 := by rw [i_eq, ha, k6]; rfl
    rw [b6 a6]
    rcases num_both (a := 1) (b := 60) (lo := 1) (hi := 60) h x1 (by omega) rfl rfl (by omega) with ⟨M', m1, m2⟩ | ⟨r, v, MY', LY', m1, m2, m3, m4, m5, m6, m7, m8⟩
    · exact dr_f (m2.on (frA.re _) (frN.re _ _ _) (Nat.le_refl _) (by omega)) hc h24 (x_deed6 a6 m1)
    · exact dr_o m3 (by omega) frA.A hc h24 (x_deed6 a6 m1) m2 (m8.up (Nat.le_refl _) (by omega)) m5.symm (fun z => by omega) (fun _ z => by omega) (fun _ => ⟨m6, m7⟩)
  -- all others begin with a root
  have root := num_both (a := 0) (b := 5) (lo := 0) (hi := 5) h x1 (by omega) rfl rfl (by omega)
  by_cases k5 : kd = 5
  · have a5 : a = 5 := by rw [i_eq, ha, k5]; rfl
    rw [b5 a5]
    rcases root with ⟨M', m1, m2⟩ | ⟨r, v, MY', LY', m1, m2, m3, m4, m5, m6, m7, m8⟩
    · exact dr_f (m2.on (frA.re _) (frN.re _ _ _) (Nat.le_refl _) (by omega)) hc h24 (x_deed5 a5 m1)
    · exact dr_o m3 (by omega) frA.A hc h24 (x_deed5 a5 m1) m2 (m8.up (Nat.le_refl _) (by omega)) m5.symm (fun z => by omega) (fun _ z => by omega) (fun z => by omega)
  by_cases k2 : kd = 2
  · have a2 : a = 2 := by rw [i_eq, ha, k2]; rfl
    rw [b2 a2]
    rcases root with ⟨M', m1, m2⟩ | ⟨r, v, MY1, LY1, m1, m2, m3, m4, m5, m6, m7, m8⟩
    · have f0 := m2.1
      obtain ⟨g1, g2, MYf, LYf, g3, g4, g5⟩ := m2
      have nf : NF M M' MY (f_X10_makeClause MY LY x) (xi + 1) (xi + 4) := ⟨g1, g2, MYf, LYf, (y_make g3).1 g1, g4, g5.up (Nat.le_refl _) (by omega)⟩
      exact dr_f nf hc h24 (x_deed2 a2 m1 (x_want0 f0 (by decide)) (x_wantNumber0 f0 0 3))
    · have ym := (y_make m2).2 rfl
      rw [ym]
      obtain ⟨M1, f1, f2⟩ := fur_both (b := 3) (hi := 3) (cw := 7) (c := 7) m3 x2 (by omega) rfl (by omega) rfl (by omega) w_of
      rcases f2 with ⟨M', n1, n2⟩ | ⟨r2, M2, MY2, LY2, n1, n2, n3, n4, n5, n6, n7⟩
      · exact dr_f (n2.on frA.A (m8.up (Nat.le_refl _) (by omega)) (by omega) (by omega)) hc h24 (x_deed2 a2 m1 f1 n1)
      · exact dr_o n3 (by omega) (frA.A.tr n6) hc h24 (x_deed2 a2 m1 f1 n1) n2 ((m8.up (Nat.le_refl _) (by omega)).tr (n7.up (by omega) (by omega))) (by rw [n7.2.2 _ (by omega), m5]) (fun _ => n5.symm) (fun z => by omega) (fun z => by omega)
  -- load and store
  have hw : ∃ (cw : Int32) (cc : Nat) (w : Int64), ((a = 3 ∧ cw = 8) ∨ (a = 4 ∧ cw = 9)) ∧ f_X10_body MY LY a x = f_X10_threeClause MY LY x w ∧ cw.toInt = (cc : Int) ∧ cc < 27 ∧ w.toInt = (vcd cc : Int) := by
    by_cases k3 : kd = 3
    · have a3 : a = 3 := by rw [i_eq, ha, k3]; rfl
      exact ⟨8, 8, _, Or.inl ⟨a3, rfl⟩, b3 a3, rfl, by omega, w_from⟩
    · have a4 : a = 4 := by rw [i_eq, ha, show kd = 4 by omega]; rfl
      exact ⟨9, 9, _, Or.inr ⟨a4, rfl⟩, b4 a4, rfl, by omega, w_to⟩
  obtain ⟨cw, cc, w, q1, q2, q3, q4, q5⟩ := hw
  rw [q2]
  rcases root with ⟨M', m1, m2⟩ | ⟨r, v, MY1, LY1, m1, m2, m3, m4, m5, m6, m7, m8⟩
  · have f0 := m2.1
    obtain ⟨g1, g2, MYf, LYf, g3, g4, g5⟩ := m2
    have nf : NF M M' MY (f_X10_threeClause MY LY x w) (xi + 1) (xi + 4) := ⟨g1, g2, MYf, LYf, (y_three g3).1 g1, g4, g5.up (Nat.le_refl _) (by omega)⟩
    exact dr_f nf hc h24 (x_deed3 q1 m1 (x_want0 f0 (by omega)) (x_wantNumber0 f0 0 5) (x_want0 f0 (by decide)) (x_wantNumber0 f0 0 2))
  · have ym := (y_three (w := w) m2).2 rfl
    obtain ⟨M1, f1, f2⟩ := fur_both (b := 5) (hi := 5) m3 x2 (by omega) rfl (by omega) q3 q4 q5
    rcases f2 with ⟨M', n1, n2⟩ | ⟨r2, M2, MY2, LY2, n1, n2, n3, n4, n5, n6, n7⟩
    · have f0 := n2.1
      obtain ⟨g1, g2, MYf, LYf, g3, g4, g5⟩ := n2
      have nf : NF M M' MY (f_X10_threeClause MY LY x w) (xi + 1) (xi + 4) := ⟨g1, frA.A.tr g2, MYf, LYf, (ym _ _ _ g3).1 g1, g4, (m8.up (Nat.le_refl _) (by omega)).tr (g5.up (by omega) (by omega))⟩
      exact dr_f nf hc h24 (x_deed3 q1 m1 f1 n1 (x_want0 f0 (by decide)) (x_wantNumber0 f0 0 2))
    · rw [(ym _ _ _ n2).2 rfl]
      obtain ⟨M3, f3, f4⟩ := fur_both (b := 2) (hi := 2) (cw := 7) (c := 7) n3 x3 (by omega) rfl (by omega) rfl (by omega) w_of
      have fn2 : frN (xi + 1) (xi + 4) MY MY2 := (m8.up (Nat.le_refl _) (by omega)).tr (n7.up (by omega) (by omega))
      rcases f4 with ⟨M', o1, o2⟩ | ⟨r3, M4, MY3, LY3, o1, o2, o3, o4, o5, o6, o7⟩
      · exact dr_f (o2.on (frA.A.tr n6) fn2 (by omega) (by omega)) hc h24 (x_deed3 q1 m1 f1 n1 f3 o1)
      · exact dr_o o3 (by omega) ((frA.A.tr n6).tr o6) hc h24 (x_deed3 q1 m1 f1 n1 f3 o1) o2 (fn2.tr (o7.up (by omega) (by omega))) (by rw [o7.2.2 _ (by omega), n7.2.2 _ (by omega), m5]) (fun _ => by rw [o7.2.2 _ (by omega), n5]) (fun _ _ => o5.symm) (fun z => by omega)
