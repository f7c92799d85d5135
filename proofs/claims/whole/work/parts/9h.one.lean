/-! one, by both: numbers, names, signs before one, what is in brackets -/
def PO (G : Qc) (M MY : xm) (LY : xn) (i k b u w e : Nat) : Prop := CX G M i k ∧ CY G MY LY i (b + u) w e ∧ MY 0 18 = 0 ∧ (e ≤ 8 ∧ u ≤ e ∧ b + u + 1 ≤ 7 * e + 7) ∧ (b = 0 ∨ rk (pil MY (b - 1)) < 7) ∧ (∀ x, x < u → rk (pil MY (b + x)) = 7) ∧ nAA G i (b + u) MY
def ROo (G : Qc) (i k b u w e : Nat) (MY : xm) (LY : xn) (M' : xm) : Prop := ∃ (j k' w1 : Nat) (f : fn) (MY' : xm) (LY' : xn), (i < j ∧ k < k' ∧ k' + i ≤ k + j ∧ w ≤ w1) ∧ CX G M' j k' ∧ CY G MY' LY' j b (w1 + u) ((e : Int) - u) ∧ MY' 0 18 = 1 ∧ YZ G i MY LY = YZ G j MY' LY' ∧ frR G.t w MY MY' ∧ (∀ x, x < b → pil MY' x = pil MY x) ∧ Mf f ∧ VX (cXo M') (cXv M') k k' f ∧ VY G.pk (cYo G.t MY') (cYv G.t MY') w w1 f ∧ ∀ x, x < u → cYo G.t MY' (w1 + x) = pil MY (b + u - 1 - x)
def RsO (G : Qc) (M MY : xm) (LY : xn) (i k b u w e : Nat) (X : Option xm) : Prop := ∃ M', X = some M' ∧ frD k M M' ∧ (RFa G i w MY LY M' ∨ ROo G i k b u w e MY LY M')
def SO (G : Qc) (e : Nat) (F : xm → Option xm) : Prop := ∀ (M MY : xm) (LY : xn) (i k b u w : Nat), PO G M MY LY i k b u w e → RsO G M MY LY i k b u w e (F M)
theorem SO.v {G : Qc} {e : Nat} {F : xm → Option xm} (h : SO G e F) : SV G 7 e F := by
  intro M MY LY i k b w hP
  obtain ⟨cx, cy, wh, ⟨e8, hbb⟩, hb, na⟩ := hP
  obtain ⟨M', f1, f2, f3⟩ := h M MY LY i k b 0 w ⟨cx, cy, wh, ⟨e8, by omega, by omega⟩, hb, fun x hx => by omega, na⟩
  refine ⟨M', f1, f2, ?_⟩
  rcases f3 with f3 | ⟨j, k', w1, f, MY', LY', ⟨a1, a2, a3, a4⟩, cx', cy', wh', yz, fy, pb, mf, vx, vy, _⟩
  · exact Or.inl f3
  · refine Or.inr ⟨j, k', w1, 0, f, MY', LY', ⟨a1, a2, a3, a4, by omega⟩, cx', ?_, wh', yz, fy, pb, fun x hx => by omega, mf, vx, PMv.of vy, fun z => by omega, fun z => by omega⟩
    have e0 : ((e : Int) - (0 : Nat)) = (e : Int) := by omega
    rw [e0] at cy'
    exact cy'
theorem mkF {G : Qc} {M M' MY : xm} {LY : xn} {i k b w : Nat} {op : Int} {f : Int32} (cy : CY G MY LY i b w op) (hx : XF M M' f (G.P i)) (hf : f ≠ 0) (hy : YZ G i MY LY = some (f, MY, LY)) : frD k M M' ∧ RFa G i w MY LY M' := ⟨frD.F hx, by rw [hx.1]; exact hf, MY, LY, by rw [hx.1]; exact hy, by rw [hx.2.1]; exact cy.1.2.2.1, frR.re _ _ _⟩
theorem CX.emnx {G : Qc} {M M' : xm} {i k : Nat} {o v : Int} (h : CX G M i k) (he : XE M M' k o v) (hi : i < G.T) : CX G (up2 M' 990 9 (M' 990 9 + 1)) (i + 1) (k + 1) := by
  obtain ⟨a, b, c, d⟩ := h
  have e := he.2.2.2.2.1
  have e0 : M' 990 = M 990 := e 990 (by decide) (by decide) (by decide)
  have a2 := a.fr (M' := M') (fun j _ => by rw [e0]) (e 992 (by decide) (by decide) (by decide)) (e 993 (by decide) (by decide) (by decide)) (e 994 (by decide) (by decide) (by decide))
  exact ⟨a2.at (by omega) (k_add a2.2.1 (y := 1) (b := 1) rfl (by have := a.2.2.1; have := a.2.2.2.1; omega)), by rw [up2_cell (by decide)]; exact he.1, by omega, by rw [up2_ne (by omega), e0]; exact d⟩
theorem jT {G : Qc} {i c : Nat} (hi : i ≤ G.T) (hk : G.K i = c) (hc : c ≠ 41) : i < G.T := by
  rcases Nat.lt_or_ge i G.T with z | z
  · exact z
  · have e : i = G.T := by omega
    rw [e, G.ht.2.2.2.1] at hk
    omega
theorem Mf_num {z : Int} (h : -1000000 ≤ z ∧ z ≤ 1000000) : Mf (fun _ _ => z) := ⟨fun _ _ _ _ => h, fun _ _ _ _ _ _ _ => rfl⟩
theorem one_num {G : Qc} {M MY : xm} {LY : xn} {i k b u w e : Nat} {a : Int32} {R : Nat → xm → Int32 → Int32 → Option xm} (h : PO G M MY LY i k b u w e) (hk : G.K i = 40) : RsO G M MY LY i k b u w e (fb_X4_one R M a) := by
  obtain ⟨cx, cy, wh, ⟨e8, ue, hbb⟩, hb, hu, na⟩ := h
  have T3 := cy.T3
  have iT := jT T3.2.1 hk (by decide)
  obtain ⟨v2, q1, q2⟩ := x_nextKind cx.1
  have q3 : v2 = 40 := by rw [i_eq, q2, hk]; rfl
  obtain ⟨w1, w2, w3⟩ := x_wantNumber cx.1 G.ht.2.2.2.1 (a := 0) (b := 9999) (lo := 0) (hi := 9999) rfl rfl
  obtain ⟨y1, y2, _⟩ := y_beginOne cy.1.2.2.2
  have un : ∀ X, f_X4_wantNumber M 0 9999 = X → fb_X4_one R M a = xb2 X (fun v24 M25 => xb2 (f_X4_emit M25 (40 : Int32) v24) (fun v28 M29 => some M29)) := by
    intro X hX
    unfold fb_X4_one
    rw [q1, xb1_some, if_pos q3, hX]
  by_cases c : G.N i ≤ 9999
  · obtain ⟨r, v, r1, r2, r3⟩ := w3 hk ⟨by omega, c⟩
    have cx2 := cx.at r3
    have ck := cx.2.2.1
    obtain ⟨rr, M2, m1, m2, m3⟩ := x_emit (M := up2 M 990 9 v) cx2.1.1 cx2.2.1 (by omega) (a := 40) (o := 40) rfl r2
    obtain ⟨y3, y4⟩ := y1 hk c
    obtain ⟨MY', LY', k1, k2, k3, k4, k5, k6, k7, k8⟩ := y_atom cy iT hb (by omega) (by omega) (by omega) hu 0 (MY 0 10)
    have vx : VX (cXo M2) (cXv M2) k (k + 1) (fun _ _ => (G.N i : Int)) := VX_num m3.2.1 m3.2.2.1 (by omega)
    have vy : VY G.pk (cYo G.t MY') (cYv G.t MY') w (w + 1) (fun _ _ => (G.N i : Int)) := VY_num k5 (by rw [k6]; exact y4)
    refine ⟨M2, ?_, frD.A.tr (frD.E m3) (Nat.le_refl _), Or.inr ⟨i + 1, k + 1, w + 1, _, MY', LY', ⟨by omega, by omega, by omega, by omega⟩, cx2.em m3 (by omega), k2, k3, YZ_begin iT wh (y3.trans k1), k8, fun x _ => by rw [k4], Mf_num (by omega), vx, vy, k7⟩⟩
    rw [un _ r1, xb2_some, m1, xb2_some]
  · obtain ⟨M', m1, m2⟩ := w2 hk (fun z => c z.2)
    obtain ⟨g1, g2⟩ := mkF (k := k) cy m2 (by decide) (YZ_beginF T3.2.1 wh (y2 hk c) (by decide))
    refine ⟨M', ?_, g1, Or.inl g2⟩
    rw [un _ m1, xb2_some, x_emit0 g2.1, xb2_some]
theorem x_name {G : Qc} {M : xm} {i k kd : Nat} {a : Int32} (cx : CX G M i k) (ha : a.toInt = (kd : Int)) (hk : 19 ≤ kd ∧ kd ≤ 26) (iT : i < G.T) : ((kd ≤ 22 ∨ (kd ≤ 25 ∧ G.pk = true) ∨ (kd = 26 ∧ G.pk = false)) → ∃ M1, f_X4_name M a = some (up2 M1 990 9 (M1 990 9 + 1)) ∧ XE M M1 k kd 0) ∧ (¬ (kd ≤ 22 ∨ (kd ≤ 25 ∧ G.pk = true) ∨ (kd = 26 ∧ G.pk = false)) → ∃ M', f_X4_name M a = some M' ∧ XF M M' 5 (G.P i)) := by
  have ck := cx.2.2.1
  have T3 := G.ht.2.1
  obtain ⟨rr, M1, m1, m2, m3⟩ := x_emit cx.1.1 cx.2.1 (by omega) ha (b := 0) (v := 0) rfl
  obtain ⟨M', p1, p2⟩ := x_refuse cx.1 5
  have e22 : (22 : Int32) < a ↔ 22 < kd := by rw [i_lt, ha]; simp only [Int32.reduceToInt]; omega
  have e26 : a = (26 : Int32) ↔ kd = 26 := by rw [i_eq, ha]; simp only [Int32.reduceToInt]; omega
  have el : M 990 10 = (1 : Int32) ↔ G.pk = false := by
    rw [i_eq, cx.2.2.2]
    cases G.pk with
    | true => simp only [sot, reduceCtorEq, iff_false, if_true]; decide
    | false => simp only [sot, reduceCtorEq, if_false, iff_true]; decide
  unfold f_X4_name
  simp only [xlet_eq, e22, e26, el, m1, p1, xb1_some, xb2_some]
  constructor
  · intro h
    refine ⟨M1, ?_, m3⟩
    by_cases c1 : 22 < kd
    · rw [if_pos c1]
      by_cases c2 : kd = 26
      · have c3 : G.pk = false := by
          rcases h with z | z | z
          · omega
          · omega
          · exact z.2
        simp only [c2, c3, if_true, if_neg n10]
      · have c3 : ¬ G.pk = false := by
          rcases h with z | z | z
          · omega
          · rw [z.2]; decide
          · omega
        simp only [if_neg c2, if_neg c3, if_true, if_neg n10]
    · simp only [if_neg c1, if_neg n10, ite_self]
  · intro h
    refine ⟨M', ?_, p2⟩
    have c1 : 22 < kd := by
      rcases Nat.lt_or_ge 22 kd with z | z
      · exact z
      · exact absurd (Or.inl z) h
    rw [if_pos c1]
    have n01 : ¬ ((0 : Int32) = 1) := by decide
    by_cases c2 : kd = 26
    · have c3 : ¬ G.pk = false := fun z => h (Or.inr (Or.inr ⟨c2, z⟩))
      simp only [if_pos c2, if_neg c3, if_true, if_neg n10]
    · have c3 : G.pk = false := by
        cases q : G.pk with
        | true => exact absurd (Or.inr (Or.inl ⟨by omega, q⟩)) h
        | false => rfl
      simp only [if_neg c2, if_pos c3, if_true, if_neg n01]
theorem one_name {G : Qc} {M MY : xm} {LY : xn} {i k b u w e : Nat} {a : Int32} {R : Nat → xm → Int32 → Int32 → Option xm} (h : PO G M MY LY i k b u w e) (hk : 19 ≤ G.K i ∧ G.K i ≤ 26) : RsO G M MY LY i k b u w e (fb_X4_one R M a) := by
  obtain ⟨cx, cy, wh, ⟨e8, ue, hbb⟩, hb, hu, na⟩ := h
  have T3 := cy.T3
  have iT := jT T3.2.1 rfl (show G.K i ≠ 41 by omega)
  have ck := cx.2.2.1
  obtain ⟨v2, q1, q2⟩ := x_nextKind cx.1
  obtain ⟨x1, x2⟩ := x_name cx q2 hk iT
  obtain ⟨_, _, y1, y2⟩ := y_beginOne cy.1.2.2.2
  have io := y_isOf cy.1.2.2.2 hk cy.2.2.2.2
  have nv := y_nameOf cy.1.2.2.2
  rw [if_pos hk] at nv
  have un : ∀ X, f_X4_name M v2 = some X → fb_X4_one R M a = some X := by
    intro X hX
    unfold fb_X4_one
    rw [q1, xb1_some, if_neg (by rw [i_eq, q2]; simp only [Int32.reduceToInt]; omega), xlet_eq, if_neg (c := v2 < 19) (by rw [i_lt, q2]; simp only [Int32.reduceToInt]; omega), if_neg (c := 26 < v2) (by rw [i_lt, q2]; simp only [Int32.reduceToInt]; omega), hX, xb1_some]
  by_cases c : G.K i ≤ 22 ∨ (G.K i ≤ 25 ∧ G.pk = true) ∨ (G.K i = 26 ∧ G.pk = false)
  · obtain ⟨M1, m1, m3⟩ := x1 c
    rw [if_pos c] at io
    obtain ⟨MY', LY', k1, k2, k3, k4, k5, k6, k7, k8⟩ := y_atom cy iT hb (by omega) (by omega) (by omega) hu 1 (f_X10_nameOf MY LY)
    have vx : VX (cXo M1) (cXv M1) k (k + 1) (mName (G.K i)) := VX_name hk m3.2.1
    have vy : VY G.pk (cYo G.t MY') (cYv G.t MY') w (w + 1) (mName (19 + (G.K i - 19))) := VY_name k5 (by rw [k6, nv]; omega) (by omega) (by
      rcases c with z | z | z
      · exact Or.inl (by omega)
      · rcases Nat.lt_or_ge (G.K i - 19) 4 with y | y
        · exact Or.inl y
        · exact Or.inr (Or.inl ⟨by omega, z.2⟩)
      · exact Or.inr (Or.inr ⟨by omega, z.2⟩))
    rw [show 19 + (G.K i - 19) = G.K i by omega] at vy
    refine ⟨_, un _ m1, (frD.E m3).tr (k' := k) frD.A (Nat.le_refl _), Or.inr ⟨i + 1, k + 1, w + 1, _, MY', LY', ⟨by omega, by omega, by omega, by omega⟩, cx.emnx m3 iT, k2, k3, YZ_begin iT wh ((y2 hk.1 hk.2 io).trans k1), k8, fun x _ => by rw [k4], mName_ok hk, vx.eq (fun y _ _ => ?_), vy, k7⟩⟩
    unfold cXo cXv
    rw [up2_cell (by decide), up2_cell (by decide)]
    exact ⟨rfl, rfl⟩
  · rw [if_neg c] at io
    obtain ⟨M', m1, m2⟩ := x2 c
    obtain ⟨g1, g2⟩ := mkF (k := k) cy m2 (by decide) (YZ_beginF T3.2.1 wh (y1 hk.1 hk.2 io) (by decide))
    exact ⟨M', un _ m1, g1, Or.inl g2⟩
theorem x_opensOne {v : Int32} {kd : Nat} (h : v.toInt = (kd : Int)) : f_X4_opensOne v = if kd = 35 ∨ kd = 32 ∨ kd = 12 ∨ kd = 10 ∨ kd = 11 then 1 else 0 := by
  unfold f_X4_opensOne
  simp only [i_eq, h, Int32.reduceToInt]
  repeat' split
  all_goals first | rfl | omega
theorem x_one0 {M : xm} {a : Int32} {R : Nat → xm → Int32 → Int32 → Option xm} (h : M 990 6 ≠ 0) : fb_X4_one R M a = some M := by
  unfold fb_X4_one
  rw [x_nextKind0 h, xb1_some, if_neg (by decide), xlet_eq, if_neg (c := (42 : Int32) < 19) (by decide), if_pos (c := (26 : Int32) < 42) (by decide), x_opensOne (kd := 42) rfl, if_neg (c := (42 : Nat) = 35 ∨ 42 = 32 ∨ 42 = 12 ∨ 42 = 10 ∨ 42 = 11) (by decide), if_pos rfl, x_refuse0 h, xb1_some]
theorem one_bad {G : Qc} {M MY : xm} {LY : xn} {i k b u w e : Nat} {a : Int32} {R : Nat → xm → Int32 → Int32 → Option xm} (h : PO G M MY LY i k b u w e) (hk : ¬ (G.K i = 40 ∨ (19 ≤ G.K i ∧ G.K i ≤ 26) ∨ G.K i = 35 ∨ G.K i = 32 ∨ G.K i = 10 ∨ G.K i = 11 ∨ G.K i = 12)) : RsO G M MY LY i k b u w e (fb_X4_one R M a) := by
  obtain ⟨cx, cy, wh, ⟨e8, ue, hbb⟩, hb, hu, na⟩ := h
  have T3 := cy.T3
  obtain ⟨v2, q1, q2⟩ := x_nextKind cx.1
  obtain ⟨M', m1, m2⟩ := x_refuse cx.1 1
  have yb := (y_beginOpen cy.1.2.2.2).2.2 hk (fun z => (y_isAskAhead cy.2.1.2.2.1 (by omega)).1 (na z))
  obtain ⟨g1, g2⟩ := mkF (k := k) cy m2 (by decide) (YZ_beginF T3.2.1 wh yb (by decide))
  refine ⟨M', ?_, g1, Or.inl g2⟩
  unfold fb_X4_one
  rw [q1, xb1_some, if_neg (by rw [i_eq, q2]; simp only [Int32.reduceToInt]; omega), xlet_eq, x_opensOne q2, if_neg (c := G.K i = 35 ∨ G.K i = 32 ∨ G.K i = 12 ∨ G.K i = 10 ∨ G.K i = 11) (by omega), if_pos (c := (0 : Int32) = 0) rfl, m1, xb1_some]
  by_cases c1 : v2 < 19
  · rw [if_pos c1]
  · rw [if_neg c1, if_pos]
    rw [i_lt, q2] at c1 ⊢
    simp only [Int32.reduceToInt] at c1 ⊢
    omega
theorem x_one_open {G : Qc} {M : xm} {i k e : Nat} {a : Int32} {R : Nat → xm → Int32 → Int32 → Option xm} (cx : CX G M i k) (ha : a.toInt = (e : Int)) (hk : G.K i = 35 ∨ G.K i = 32 ∨ G.K i = 10 ∨ G.K i = 11 ∨ G.K i = 12) : ∃ v2 : Int32, v2.toInt = (G.K i : Int) ∧ (e < 8 → fb_X4_one R M a = R 3 (up2 M 990 9 (M 990 9 + 1)) v2 (a + 1)) ∧ (e = 8 → fb_X4_one R M a = f_X4_refuse M 3) := by
  obtain ⟨v2, q1, q2⟩ := x_nextKind cx.1
  have idb : ∀ o : Option xm, xb1 o (fun M => some M) = o := fun o => by cases o <;> rfl
  have c26 : v2 < 19 ∨ 26 < v2 := by
    rw [i_lt, i_lt, q2]
    simp only [Int32.reduceToInt]
    omega
  have un : fb_X4_one R M a = if a < (8 : Int32) then R 3 (up2 M 990 9 (M 990 9 + 1)) v2 (a + 1) else f_X4_refuse M 3 := by
    unfold fb_X4_one
    rw [q1, xb1_some, if_neg (by rw [i_eq, q2]; simp only [Int32.reduceToInt]; omega), xlet_eq, x_opensOne q2, if_pos (c := G.K i = 35 ∨ G.K i = 32 ∨ G.K i = 12 ∨ G.K i = 10 ∨ G.K i = 11) (by omega), if_neg n10, xlet_eq, idb, idb]
    rcases c26 with c | c
    · rw [if_pos c]
    · rw [if_pos c, ite_self]
  refine ⟨v2, q2, fun z => ?_, fun z => ?_⟩
  · rw [un, if_pos (by rw [i_lt, ha]; simp only [Int32.reduceToInt]; omega)]
  · rw [un, if_neg (by rw [i_lt, ha]; simp only [Int32.reduceToInt]; omega)]
theorem one_deep {G : Qc} {M MY : xm} {LY : xn} {i k b u w e : Nat} {a : Int32} {R : Nat → xm → Int32 → Int32 → Option xm} (h : PO G M MY LY i k b u w e) (ha : a.toInt = (e : Int)) (he : e = 8) (hk : G.K i = 35 ∨ G.K i = 32 ∨ G.K i = 10 ∨ G.K i = 11 ∨ G.K i = 12) : RsO G M MY LY i k b u w e (fb_X4_one R M a) := by
  obtain ⟨cx, cy, wh, ⟨e8, ue, hbb⟩, hb, hu, na⟩ := h
  have T3 := cy.T3
  obtain ⟨v2, q1, q2, q3⟩ := x_one_open (R := R) cx ha hk
  obtain ⟨M', m1, m2⟩ := x_refuse cx.1 3
  have yb := ((y_beginOpen cy.1.2.2.2).1 hk).trans ((y_opened cy _).1 he)
  obtain ⟨g1, g2⟩ := mkF (k := k) cy m2 (by decide) (YZ_beginF T3.2.1 wh yb (by decide))
  exact ⟨M', (q3 he).trans m1, g1, Or.inl g2⟩
