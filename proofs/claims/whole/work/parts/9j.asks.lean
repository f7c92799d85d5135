/-! what is asked: comparison, ask, both, either -/
def PC (G : Qc) (M MY : xm) (LY : xn) (i k b w e lv : Nat) : Prop := CX G M i k ∧ CY G MY LY i b w e ∧ MY 0 18 = 0 ∧ (e ≤ 8 ∧ b + 1 ≤ 7 * e + lv ∧ 1 ≤ b) ∧ (pil MY (b - 1) = 41 ∨ (1 ≤ rk (pil MY (b - 1)) ∧ rk (pil MY (b - 1)) ≤ 3)) ∧ (lv ≤ 2 → rk (pil MY (b - 1)) < (lv : Int)) ∧ (∃ c, 1 ≤ c ∧ tpP (fun z => 40 ≤ z) (pil MY) b c ∧ pil MY (c - 1) = 41) ∧ (lv = 4 → G.K i ≠ 18)
def Cst (G : Qc) (i k b w e lv ec : Nat) (MY : xm) (LY : xn) (M' : xm) (j k' w' r : Nat) (g : cn) (MY' : xm) (LY' : xn) : Prop := (i < j ∧ k < k' ∧ k' + i ≤ k + j ∧ w ≤ w' ∧ r + lv + e ≤ 15) ∧ CX G M' j k' ∧ CY G MY' LY' j (b + r) w' ((e : Int) + cntO (pil MY') b r) ∧ MY' 0 18 = 1 ∧ YZ G i MY LY = YZ G j MY' LY' ∧ frR G.t w MY MY' ∧ (∀ x, x < b → pil MY' x = pil MY x) ∧ (∀ x, x < r → (lv : Int) ≤ rk (pil MY' (b + x)) ∧ rk (pil MY' (b + x)) ≤ 6) ∧ Mc g ∧ VX (cXo M') (cXv M') k k' (mBo g) ∧ PMc G MY' w w' b r g ∧ (∃ z, b < z ∧ tpP (fun z => rk z ≤ 4) (pil MY') (b + r) z ∧ rk (pil MY' (z - 1)) = 4) ∧ (G.K j ≠ 31 ∧ G.K j ≠ 32 ∧ G.K j ≠ 33 ∧ G.K j ≠ 34) ∧ (ec ≤ 2 → G.K j ≠ 17) ∧ (ec ≤ 1 → G.K j ≠ 16)
def ROc (G : Qc) (i k b w e lv ec : Nat) (MY : xm) (LY : xn) (M' : xm) : Prop := ∃ (j k' w' r : Nat) (g : cn) (MY' : xm) (LY' : xn), Cst G i k b w e lv ec MY LY M' j k' w' r g MY' LY'
def SC (G : Qc) (lv e : Nat) (F : xm → Option xm) : Prop := ∀ (M MY : xm) (LY : xn) (i k b w : Nat), PC G M MY LY i k b w e lv → ∃ M', F M = some M' ∧ frD k M M' ∧ (RFa G i w MY LY M' ∨ ROc G i k b w e lv lv MY LY M')
theorem cntO_in (p : Nat → Int) (b r : Nat) : 0 ≤ cntO p b r ∧ cntO p b r ≤ r := by
  have := sm_01 (f := fun j => if rk (p (b + j)) = 7 ∨ p (b + j) = 20 then 1 else 0) (z := 1) r (fun i _ => by
    by_cases c : rk (p (b + i)) = 7 ∨ p (b + i) = 20
    · simp only [if_pos c]; omega
    · simp only [if_neg c]; omega)
  unfold cntO
  omega
theorem cntO_head (p : Nat → Int) (b : Nat) : ∀ r, cntO p b (r + 1) = (if rk (p b) = 7 ∨ p b = 20 then 1 else 0) + cntO p (b + 1) r := by
  intro r
  induction r with
  | zero =>
    have e1 : cntO p b (0 + 1) = cntO p b 0 + if rk (p (b + 0)) = 7 ∨ p (b + 0) = 20 then 1 else 0 := rfl
    have e2 : cntO p b 0 = 0 := rfl
    have e3 : cntO p (b + 1) 0 = 0 := rfl
    rw [e1, e2, e3, Nat.add_zero]
    omega
  | succ r ih =>
    have e1 : cntO p b (r + 1 + 1) = cntO p b (r + 1) + if rk (p (b + (r + 1))) = 7 ∨ p (b + (r + 1)) = 20 then 1 else 0 := rfl
    have e2 : cntO p (b + 1) (r + 1) = cntO p (b + 1) r + if rk (p (b + 1 + r)) = 7 ∨ p (b + 1 + r) = 20 then 1 else 0 := rfl
    rw [e1, e2, ih, show b + 1 + r = b + (r + 1) by omega]
    omega
theorem Mc_ask {op : Int} {f g : fn} (h : Mf f) (h' : Mf g) : Mc (fun s p => mAsk op (f s p) (g s p)) := by
  intro s t a b c d p
  show mAsk op (f s p) (g s p) = mAsk op (f t p) (g t p)
  rw [h.2 s t a b c d p, h'.2 s t a b c d p]
theorem Mc_no {g : cn} (h : Mc g) : Mc (fun s p => !(g s p)) := by
  intro s t a b c d p
  show (!(g s p)) = (!(g t p))
  rw [h s t a b c d p]
theorem Mc_both {op : Int} {f g : cn} (h : Mc f) (h' : Mc g) : Mc (fun s p => mBoth op (f s p) (g s p)) := by
  intro s t a b c d p
  show mBoth op (f s p) (g s p) = mBoth op (f t p) (g t p)
  rw [h s t a b c d p, h' s t a b c d p]
theorem mJ_ask {c : Nat} {z : Int} (hc : c = 27 ∨ c = 28 ∨ c = 29 ∨ c = 30 ∨ c = 38 ∨ c = 39) (hz : opC z = (c : Int)) (f g : fn) : (fun s p => mJ (c : Int) (f s p) (g s p)) = mBo (fun s p => mAsk (opC z) (f s p) (g s p)) := by
  funext s p
  unfold mJ mBo
  rw [hz, if_neg (by omega), if_neg (by omega), if_neg (by omega)]
theorem mUn_no (g : cn) : mUn 18 (mBo g) = mBo (fun s p => !(g s p)) := by
  funext s p
  unfold mUn mBo
  rw [if_neg (by decide), if_neg (by decide), if_pos rfl]
  cases q : g s p <;> simp [bI, cl6, q]
theorem mJ_both {c : Nat} {z : Int} (hc : (c = 16 ∧ z = 22) ∨ (c = 17 ∧ z = 21)) (f g : cn) : (fun s p => mJ (c : Int) (mBo f s p) (mBo g s p)) = mBo (fun s p => mBoth z (f s p) (g s p)) := by
  funext s p
  unfold mJ mBo mBoth
  rcases hc with ⟨h1, h2⟩ | ⟨h1, h2⟩ <;> rw [h1, h2] <;> cases q1 : f s p <;> cases q2 : g s p <;> simp [bI, q1, q2]
theorem mBo_01 (g : cn) (s : hs) (p : Nat) : mBo g s p = 0 ∨ mBo g s p = 1 := by
  unfold mBo bI
  cases g s p
  · exact Or.inl (by simp)
  · exact Or.inr (by simp)
theorem x_comparison {G : Qc} {R : Nat → xm → Int32 → Int32 → Option xm} {M M1 : xm} {a : Int32} (h : R 0 M a 0 = some M1) : (M1 990 6 ≠ 0 → fb_X4_comparison R M a = some M1) ∧ (∀ j k, CX G M1 j k → ((G.K j = 27 ∨ G.K j = 28 ∨ G.K j = 29 ∨ G.K j = 30 ∨ G.K j = 38 ∨ G.K j = 39) → ∃ v4 : Int32, v4.toInt = (G.K j : Int) ∧ fb_X4_comparison R M a = xb1 (R 0 (up2 M1 990 9 (M1 990 9 + 1)) a 0) (fun M13 => xb2 (f_X4_emit M13 v4 (0 : Int32)) (fun _ M17 => some M17))) ∧ (¬ (G.K j = 27 ∨ G.K j = 28 ∨ G.K j = 29 ∨ G.K j = 30 ∨ G.K j = 38 ∨ G.K j = 39) → fb_X4_comparison R M a = f_X4_refuse M1 1)) := by
  have idb : ∀ o : Option xm, xb1 o (fun M => some M) = o := fun o => by cases o <;> rfl
  refine ⟨fun hf => ?_, fun j k cx => ?_⟩
  · unfold fb_X4_comparison
    rw [h, xb1_some, x_nextKind0 hf, xb1_some]
    simp only [xlet_eq]
    rw [if_neg (c := (42 : Int32) < 27) (by decide), if_neg (c := (42 : Int32) ≤ 30) (by decide), if_neg (c := (42 : Int32) = 38) (by decide), if_neg (c := (42 : Int32) = 39) (by decide), if_pos trivial, x_refuse0 hf, xb1_some]
  · obtain ⟨v4, q1, q2⟩ := x_nextKind cx.1
    have l1 : v4 < 27 ↔ G.K j < 27 := by rw [i_lt, q2]; simp only [Int32.reduceToInt]; omega
    have l2 : v4 ≤ 30 ↔ G.K j ≤ 30 := by rw [i_le, q2]; simp only [Int32.reduceToInt]; omega
    have l3 : v4 = 38 ↔ G.K j = 38 := by rw [i_eq, q2]; simp only [Int32.reduceToInt]; omega
    have l4 : v4 = 39 ↔ G.K j = 39 := by rw [i_eq, q2]; simp only [Int32.reduceToInt]; omega
    constructor
    · intro hc
      refine ⟨v4, q2, ?_⟩
      unfold fb_X4_comparison
      rw [h, xb1_some, q1, xb1_some]
      simp only [xlet_eq, l1, l2, l3, l4, if_neg n10]
      repeat' split
      all_goals first | rfl | omega
    · intro hc
      unfold fb_X4_comparison
      rw [h, xb1_some, q1, xb1_some]
      simp only [xlet_eq, l1, l2, l3, l4, if_neg n10, idb, if_true]
      repeat' split
      all_goals first | rfl | omega
theorem comp_step {G : Qc} {e : Nat} {a : Int32} {R : Nat → xm → Int32 → Int32 → Option xm} (h1 : SV G 5 e (fun M => R 0 M a 0)) : SC G 4 e (fun M => fb_X4_comparison R M a) := by
  intro M MY LY i k b w hP
  obtain ⟨cx, cy, wh, ⟨e8, hbb, b1⟩, tp, _, ⟨c, c1, ct, c41⟩, n18⟩ := hP
  have ck := cx.2.2.1
  have tp3 : rk (pil MY (b - 1)) ≤ 3 := by
    rcases tp with z | z
    · rw [z]; decide
    · exact z.2
  obtain ⟨M1, m1, m2, m3⟩ := h1 M MY LY i k b w ⟨cx, cy, wh, ⟨e8, by omega⟩, Or.inr (by omega), fun z => absurd z (n18 rfl)⟩
  have m1' : R 0 M a 0 = some M1 := m1
  obtain ⟨xc1, xc2⟩ := x_comparison (G := G) m1'
  rcases m3 with fa | ⟨j, k', w', r, f, MY3, LY3, ⟨a1, a2, a3, a4, a5⟩, cx3, cy3, wh3, yz3, fy3, pb3, pr3, mf, vx, pm, ec1, ec2⟩
  · exact ⟨M1, xc1 fa.1, m2, Or.inl fa⟩
  · have T33 := cy3.T3
    have kn := ec1 (by omega)
    have kn2 := ec2 (by omega)
    have t40 : tpP (fun z => 40 ≤ z) (pil MY3) (b + r) c := ct.up r pb3 (fun x hx z => by have := rk_40 (z := pil MY3 (b + x)) (by have := (pr3 x hx).1; omega); omega)
    obtain ⟨vo, vo1, vo2⟩ := y_openNow cy3.2.1.2.2.1 (by omega) (p := pil MY3) (fun j _ => rfl) t40
    rw [if_neg (by omega), pb3 _ (by have := ct.1; omega), c41] at vo2
    have vo3 : vo = 41 := by rw [i_eq, vo2]; rfl
    rw [vo3] at vo1
    have t4 : tpP (fun z => rk z ≤ 4) (pil MY3) (b + r) b := by
      have t0 : tpP (fun z => rk z ≤ 4) (pil MY) b b := ⟨Nat.le_refl _, fun j h1 h2 => by omega, fun _ => by show rk (pil MY (b - 1)) ≤ 4; omega⟩
      exact t0.up r pb3 (fun x hx z => by have := (pr3 x hx).1; have z' : rk (pil MY3 (b + x)) ≤ 4 := z; omega)
    have ic := y_isCompared cy3.2.1.2.2.1 (by omega) (p := pil MY3) (fun j _ => rfl) t4
    rw [if_neg (by rw [pb3 _ (by omega)]; omega)] at ic
    have bt1 := (y_nosign cy3.1.2.2.2 ⟨kn2.1, kn2.2, kn.1, kn.2⟩ vo1).2.1 rfl ic
    have co := y_compareOf cy3.1.2.2.2
    have d1 := m2
    by_cases hc : G.K j = 27 ∨ G.K j = 28 ∨ G.K j = 29 ∨ G.K j = 30 ∨ G.K j = 38 ∨ G.K j = 39
    · have jT2 := jT T33.2.1 rfl (show G.K j ≠ 41 by omega)
      obtain ⟨v4, v41, v42⟩ := (xc2 j k' cx3).1 hc
      have zz : ∃ z : Int, (f_X10_compareOf MY3).toInt = z ∧ 10 ≤ z ∧ z ≤ 15 ∧ opC z = (G.K j : Int) ∧ rk z = 4 := by
        rcases hc with q | q | q | q | q | q <;> rw [q] at co ⊢
        · exact ⟨10, co, by decide, by decide, rfl, rfl⟩
        · exact ⟨12, co, by decide, by decide, rfl, rfl⟩
        · exact ⟨14, co, by decide, by decide, rfl, rfl⟩
        · exact ⟨15, co, by decide, by decide, rfl, rfl⟩
        · exact ⟨11, co, by decide, by decide, rfl, rfl⟩
        · exact ⟨13, co, by decide, by decide, rfl, rfl⟩
      obtain ⟨z, z1, z2, z3, z4, z5⟩ := zz
      have c0 : cntO (pil MY3) b r = 0 := cntO_0 r (fun x hx => ⟨by have := (pr3 x hx).1; omega, (pr3 x hx).2⟩)
      obtain ⟨MY4, LY4, n1, n2, n3, n4, n5, n6, n7⟩ := y_between cy3 jT2 bt1 z1 (by omega) (lv := 5) (by rw [if_pos z5]) (Or.inr (by rw [pb3 _ (by omega)]; omega)) (by omega) (by omega) (by omega) (fun x hx => by have := (pr3 x hx).1; omega) wh3
      rw [c0, Int.sub_zero] at n2
      have pv : PV G (up2 M1 990 9 (M1 990 9 + 1)) MY4 LY4 (j + 1) k' (b + 1) (w' + r) e 5 := ⟨cx3.nx jT2, n2, n3, ⟨e8, by omega⟩, Or.inr (by rw [Nat.add_sub_cancel, n4, z5]; decide), fun _ => Or.inr (by rw [Nat.add_sub_cancel, n4, z5]; omega)⟩
      obtain ⟨M2, f1, f2, f3⟩ := h1 _ _ _ _ _ _ _ pv
      have f1' : R 0 (up2 M1 990 9 (M1 990 9 + 1)) a 0 = some M2 := f1
      have d2 : frD k' M1 M2 := frD.A.tr f2 (Nat.le_refl _)
      rw [f1', xb1_some] at v42
      have vd : VY G.pk (cYo G.t MY4) (cYv G.t MY4) w (w' + r) f := pm.done (fun x hx => n7.2.2 x (Or.inl hx)) n6
      have yz2 : YZ G i MY LY = YZ G (j + 1) MY4 LY4 := yz3.trans n1
      have fy2 : frR G.t w MY MY4 := fy3.tr n7 a4
      rcases f3 with ⟨g1, MY5, LY5, g2, g3, g4⟩ | ⟨j2, k2, w2, r2, g, MY5, LY5, ⟨g1, g2, g3, g4, g5⟩, cx5, cy5, wh5, yz5, fy5, pb5, pr5, mg, vx5, pm5, ed1, ed2⟩
      · refine ⟨M2, ?_, d1.tr d2 (by omega), Or.inl ⟨g1, MY5, LY5, yz2.trans g2, g3, fy2.tr g4 (by omega)⟩⟩
        show fb_X4_comparison R M a = some M2
        rw [v42, x_emit0 g1, xb2_some]
      · have T35 := cy5.T3
        obtain ⟨rr, M3, e1, e2, e3⟩ := x_emit cx5.1.1 cx5.2.1 (by omega) v41 (b := 0) (v := 0) rfl
        have d3 : frD k' M1 M3 := d2.tr (frD.E e3) (by omega)
        have vxf : VX (cXo M3) (cXv M3) k k' f := vx.eq (fun y _ hy => by
          unfold cXo cXv
          rw [(d3.2.2.2 y hy).1, (d3.2.2.2 y hy).2]
          exact ⟨rfl, rfl⟩)
        have vxg : VX (cXo M3) (cXv M3) k' k2 g := vx5.eq (fun y _ hy => by
          unfold cXo cXv
          rw [(e3.2.2.2.1 y (by omega)).1, (e3.2.2.2.1 y (by omega)).2]
          exact ⟨rfl, rfl⟩)
        have vxb := VX_bin vxf vxg mf mg (op := (G.K j : Int)) e3.2.1 (by omega) (fun z => by omega)
        rw [mJ_ask hc z4] at vxb
        have hp5 : pil MY5 b = z := by rw [pb5 b (by omega), n4]
        have pm6 := PMc.ask vd (w2 := w2) g4 (fun x hx => fy5.2.2 x (Or.inl hx)) pm5 hp5 ⟨z2, z3⟩
        have pr6 : ∀ x, x < r2 + 1 → (4 : Int) ≤ rk (pil MY5 (b + x)) ∧ rk (pil MY5 (b + x)) ≤ 6 := by
          intro x hx
          rcases Nat.eq_zero_or_pos x with x0 | x0
          · rw [x0, Nat.add_zero, hp5, z5]; omega
          · have := pr5 (x - 1) (by omega)
            rw [show b + 1 + (x - 1) = b + x by omega] at this
            omega
        have c6 : cntO (pil MY5) b (r2 + 1) = 0 := cntO_0 (r2 + 1) pr6
        refine ⟨M3, ?_, d1.tr d3 (by omega), Or.inr ⟨j2, k2 + 1, w2, r2 + 1, _, MY5, LY5, ⟨by omega, by omega, by omega, by omega, by omega⟩, cx5.em e3 (by omega), ?_, wh5, yz2.trans yz5, fy2.tr fy5 (by omega), ?_, pr6, Mc_ask mf mg, vxb, pm6, ⟨b + 1, by omega, ?_, ?_⟩, ?_, fun z => by omega, fun z => by omega⟩⟩
        · show fb_X4_comparison R M a = some M3
          rw [v42, e1, xb2_some]
        · rw [c6, Int.add_zero, show b + (r2 + 1) = b + 1 + r2 by omega]; exact cy5
        · intro x hx; rw [pb5 x (by omega), n5 x hx, pb3 x hx]
        · rw [show b + (r2 + 1) = b + 1 + r2 by omega]
          exact (tpP.top (P := fun z => rk z ≤ 4) (p := pil MY5) (b := b) (by show rk (pil MY5 b) ≤ 4; rw [hp5, z5]; decide)).up r2 (fun _ _ => rfl) (fun x hx z => by have := (pr5 x hx).1; have z' : rk (pil MY5 (b + 1 + x)) ≤ 4 := z; omega)
        · rw [Nat.add_sub_cancel, hp5, z5]
        · have q1 := ed1 (by omega)
          have q2 := ed2 (by omega)
          exact ⟨q2.1, q2.2, q1.1, q1.2⟩
    · have cn : (f_X10_compareOf MY3) < 0 := by
        rw [i_lt, co, if_neg (by omega), if_neg (by omega), if_neg (by omega), if_neg (by omega), if_neg (by omega), if_neg (by omega)]
        decide
      obtain ⟨M', p1, p2⟩ := x_refuse cx3.1 1
      have pt := (y_partOf cy3.1.2.2.2).2.2.1 ic
      have yb2 := y_bad (G := G) T33.2.1 wh3 bt1 cn vo1 (by decide) pt (by decide)
      exact ⟨M', ((xc2 j k' cx3).2 hc).trans p1, d1.tr (k' := k) (frD.F p2) (Nat.le_refl _), Or.inl (mkF2 cy3 p2 (by decide) yz3 yb2 fy3)⟩
theorem ask_step {G : Qc} {e : Nat} {a : Int32} {R : Nat → xm → Int32 → Int32 → Option xm} (ha : a.toInt = (e : Int)) (h1 : SC G 4 e (fun M => R 8 M a 0)) (h2 : e < 8 → SC G 3 (e + 1) (fun M => R 7 M (a + 1) 0)) : SC G 3 e (fun M => fb_X4_ask R M a) := by
  intro M MY LY i k b w hP
  obtain ⟨cx, cy, wh, ⟨e8, hbb, b1⟩, tp, _, ⟨c, c1, ct, c41⟩, _⟩ := hP
  have ck := cx.2.2.1
  have T3 := cy.T3
  have idb : ∀ o : Option xm, xb1 o (fun M => some M) = o := fun o => by cases o <;> rfl
  have isN := x_isNext cx.1 (a := 18) (c := 18) rfl
  by_cases hk : G.K i = 18
  · rw [if_pos hk] at isN
    have iT := jT T3.2.1 hk (by decide)
    have aa := (y_isAskAhead cy.2.1.2.2.1 (by omega)).2 c c1 ct c41 tp
    have yb := (y_beginOpen cy.1.2.2.2).2.1 hk aa
    rcases Nat.lt_or_ge e 8 with he | he
    · obtain ⟨MY2, LY2, o1, o2, o3, o4, o5, o6, o7⟩ := (y_opened cy 20).2 he iT (by omega)
      have yz := YZ_begin iT wh (yb.trans o1)
      have o20 : pil MY2 b = 20 := o4
      have t40 : tpP (fun z => 40 ≤ z) (pil MY2) (b + 1) c := ct.up 1 o5 (fun x hx z => by
        rw [show b + x = b by omega] at z
        have z' : 40 ≤ pil MY2 b := z
        omega)
      have pc : PC G (up2 M 990 9 (M 990 9 + 1)) MY2 LY2 (i + 1) k (b + 1) w (e + 1) 3 := ⟨cx.nx iT, o2, o3.trans wh, ⟨by omega, by omega, by omega⟩, Or.inr (by rw [Nat.add_sub_cancel, o20]; decide), fun z => by omega, ⟨c, c1, t40, by rw [o5 _ (by have := ct.1; omega)]; exact c41⟩, fun z => by omega⟩
      obtain ⟨M1, m1, m2, m3⟩ := h2 he _ _ _ _ _ _ _ pc
      have m1' : R 7 (up2 M 990 9 (M 990 9 + 1)) (a + 1) 0 = some M1 := m1
      have d1 : frD k M M1 := frD.A.tr m2 (Nat.le_refl _)
      have q4 : fb_X4_ask R M a = xb2 (f_X4_emit M1 (18 : Int32) (0 : Int32)) (fun v10 M11 => some M11) := by
        unfold fb_X4_ask
        rw [isN, xb1_some, if_neg n10, if_pos (by rw [i_lt, ha]; simp only [Int32.reduceToInt]; omega), xlet_eq, m1', xb1_some]
      rcases m3 with ⟨g1, MY3, LY3, g2, g3, g4⟩ | ⟨j, k', w', r, g, MY3, LY3, ⟨a1, a2, a3, a4, a5⟩, cx3, cy3, wh3, yz3, fy3, pb3, pr3, mg, vx, pm, ⟨z, z1, z2, z3⟩, ec0, ec1, ec2⟩
      · refine ⟨M1, ?_, d1, Or.inl ⟨g1, MY3, LY3, yz.trans g2, g3, o7.tr g4 (Nat.le_refl _)⟩⟩
        show fb_X4_ask R M a = some M1
        rw [q4, x_emit0 g1, xb2_some]
      · have T33 := cy3.T3
        obtain ⟨rr, M2, e1, e2, e3⟩ := x_emit cx3.1.1 cx3.2.1 (by omega) (a := 18) (o := 18) rfl (b := 0) (v := 0) rfl
        have p20 : pil MY3 b = 20 := by rw [pb3 b (by omega), o20]
        have vx2 := VX_un (vx.eq (o' := cXo M2) (v' := cXv M2) (fun y _ hy => by
          unfold cXo cXv
          rw [(e3.2.2.2.1 y (by omega)).1, (e3.2.2.2.1 y (by omega)).2]
          exact ⟨rfl, rfl⟩)) (mBo_ok mg) (op := 18) e3.2.1 (by omega)
        rw [mUn_no] at vx2
        refine ⟨M2, ?_, d1.tr (k' := k') (frD.E e3) (by omega), Or.inr ⟨j, k' + 1, w', r + 1, _, MY3, LY3, ⟨by omega, by omega, by omega, by omega, by omega⟩, cx3.em e3 (by omega), ?_, wh3, yz.trans yz3, o7.tr fy3 (Nat.le_refl _), fun x hx => by rw [pb3 x (by omega), o5 x hx], ?_, Mc_no mg, vx2, pm.no p20, ⟨z, by omega, ?_, z3⟩, ec0, fun y => by omega, fun y => by omega⟩⟩
        · show fb_X4_ask R M a = some M2
          rw [q4, e1, xb2_some]
        · rw [cntO_head, p20, if_pos (Or.inr rfl)]
          have e5 : ((e + 1 : Nat) : Int) + cntO (pil MY3) (b + 1) r = (e : Int) + (1 + cntO (pil MY3) (b + 1) r) := by omega
          rw [e5, show b + 1 + r = b + (r + 1) by omega] at cy3
          exact cy3
        · intro x hx
          rcases Nat.eq_zero_or_pos x with x0 | x0
          · rw [x0, Nat.add_zero, p20]; decide
          · have := pr3 (x - 1) (by omega)
            rw [show b + 1 + (x - 1) = b + x by omega] at this
            exact this
        · rw [show b + 1 + r = b + (r + 1) by omega] at z2
          exact z2
    · have he8 : e = 8 := by omega
      obtain ⟨M', m1, m2⟩ := x_refuse cx.1 3
      have yb2 := yb.trans ((y_opened cy 20).1 he8)
      obtain ⟨g1, g2⟩ := mkF (k := k) cy m2 (by decide) (YZ_beginF T3.2.1 wh yb2 (by decide))
      refine ⟨M', ?_, g1, Or.inl g2⟩
      show fb_X4_ask R M a = some M'
      unfold fb_X4_ask
      rw [isN, xb1_some, if_neg n10, if_neg (by rw [i_lt, ha]; simp only [Int32.reduceToInt]; omega), m1, xb1_some]
  · rw [if_neg hk] at isN
    obtain ⟨M1, m1, m2, m3⟩ := h1 M MY LY i k b w ⟨cx, cy, wh, ⟨e8, by omega, b1⟩, tp, fun z => by omega, ⟨c, c1, ct, c41⟩, fun _ => hk⟩
    have m1' : R 8 M a 0 = some M1 := m1
    refine ⟨M1, ?_, m2, ?_⟩
    · show fb_X4_ask R M a = some M1
      unfold fb_X4_ask
      rw [isN, xb1_some, if_pos rfl, m1', xb1_some]
    · rcases m3 with fa | ⟨j, k', w', r, g, MY3, LY3, ⟨a1, a2, a3, a4, a5⟩, cx3, cy3, wh3, yz3, fy3, pb3, pr3, rest⟩
      · exact Or.inl fa
      · obtain ⟨r1, r2, r3, r4, r5, r6, r7⟩ := rest
        exact Or.inr ⟨j, k', w', r, g, MY3, LY3, ⟨a1, a2, a3, a4, by omega⟩, cx3, cy3, wh3, yz3, fy3, pb3, fun x hx => ⟨by have := (pr3 x hx).1; omega, (pr3 x hx).2⟩, r1, r2, r3, r4, r5, fun z => by omega, fun z => by omega⟩
