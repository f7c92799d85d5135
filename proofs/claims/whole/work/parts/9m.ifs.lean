/-! if .. then .. else .. end -/
theorem in_sum {G : Qc} {F : xm → Option xm} {e1 : Nat} {M MY : xm} {LY : xn} {i k bo w : Nat} (hF : SV G 5 e1 F) (cx : CX G M i k) (cy : CY G MY LY i (bo + 1) w e1) (wh : MY 0 18 = 0) (e8 : e1 ≤ 8) (hbb : bo + 2 ≤ 7 * e1 + 5) {z : Int} (hz : pil MY bo = z) (z1 : 40 ≤ z) (z2 : z ≠ 41) : ∃ M', F M = some M' ∧ frD k M M' ∧ (RFa G i w MY LY M' ∨ ∃ (j k' w' r : Nat) (f : fn) (MY' : xm) (LY' : xn) (vo : Int32), (i < j ∧ k < k' ∧ k' + i ≤ k + j ∧ w ≤ w' ∧ bo + 1 + r ≤ 159) ∧ CX G M' j k' ∧ CY G MY' LY' j (bo + 1 + r) w' e1 ∧ MY' 0 18 = 1 ∧ YZ G i MY LY = YZ G j MY' LY' ∧ frR G.t w MY MY' ∧ (∀ x, x < bo + 1 → pil MY' x = pil MY x) ∧ (∀ x, x < r → 1 ≤ rk (pil MY' (bo + 1 + x))) ∧ cntO (pil MY') (bo + 1) r = 0 ∧ Mf f ∧ VX (cXo M') (cXv M') k k' f ∧ PMv G MY' w w' (bo + 1) r f ∧ f_X10_openNow MY' = some vo ∧ vo.toInt = z ∧ f_X10_betweenOf MY' LY' = some (-1)) := by
  have r0 : rk z = 0 := by unfold rk; rw [if_neg (by omega)]
  obtain ⟨M', m1, m2, m3⟩ := hF M MY LY i k (bo + 1) w ⟨cx, cy, wh, ⟨e8, by omega⟩, Or.inr (by rw [Nat.add_sub_cancel, hz, r0]; decide), fun _ => Or.inr (by rw [Nat.add_sub_cancel, hz, r0]; exact ⟨z2, by omega⟩)⟩
  refine ⟨M', m1, m2, ?_⟩
  rcases m3 with fa | ⟨j, k', w', r, f, MY3, LY3, ⟨a1, a2, a3, a4, a5⟩, cx3, cy3, wh3, yz3, fy3, pb3, pr3, mf, vx, pm, ec1, ec2⟩
  · exact Or.inl fa
  · have l1 : ∀ x, x < r → 1 ≤ rk (pil MY3 (bo + 1 + x)) := fun x hx => by have := (pr3 x hx).1; omega
    have hz3 : pil MY3 bo = z := by rw [pb3 bo (by omega), hz]
    obtain ⟨vo, vo1, vo2⟩ := open_at cy3 (by omega) (by rw [hz3]; exact z1) l1
    rw [hz3] at vo2
    have kn := ec1 (by omega)
    have kn2 := ec2 (by omega)
    have bt1 := (y_nosign cy3.1.2.2.2 ⟨kn2.1, kn2.2, kn.1, kn.2⟩ vo1).1 (fun q => z2 (by rw [← vo2, q]; rfl))
    exact Or.inr ⟨j, k', w', r, f, MY3, LY3, vo, ⟨a1, a2, a3, a4, by omega⟩, cx3, cy3, wh3, yz3, fy3, pb3, l1, cntO_0 r (fun x hx => ⟨by have := (pr3 x hx).1; omega, (pr3 x hx).2⟩), mf, vx, pm, vo1, vo2, bt1⟩
theorem one_if {G : Qc} {M MY : xm} {LY : xn} {i k b u w e : Nat} {a : Int32} {R R1 R2 : Nat → xm → Int32 → Int32 → Option xm} (hR : ∀ M v a2, R 3 M v a2 = fb_X4_openedOne R1 M v a2) (hR1 : ∀ M a2, R1 4 M a2 0 = fb_X4_choice R2 M a2) (h1 : SC G 1 (e + 1) (fun M => R2 5 M (a + 1) 0)) (h2 : SV G 5 (e + 1) (fun M => R2 0 M (a + 1) 0)) (hz : Fz (fun M => R2 0 M (a + 1) 0)) (h : PO G M MY LY i k b u w e) (ha : a.toInt = (e : Int)) (he : e < 8) (hk : G.K i = 12) : RsO G M MY LY i k b u w e (fb_X4_one R M a) := by
  obtain ⟨cx, cy, wh, ⟨e8, ue, hbb⟩, hb, hu, na⟩ := h
  have T3 := cy.T3
  have iT := jT T3.2.1 rfl (show G.K i ≠ 41 by omega)
  have ck := cx.2.2.1
  obtain ⟨v2, q1, q2, q3⟩ := x_one_open (R := R) cx ha (by omega)
  have yb := (y_beginOpen cy.1.2.2.2).1 (by omega)
  obtain ⟨MY2, LY2, o1, o2, o3, o4, o5, o6, o7⟩ := (y_opened cy (opO (G.K i))).2 he iT (by omega)
  have yz := YZ_begin iT wh (yb.trans o1)
  have o41 : pil MY2 (b + u) = 41 := by rw [o4, hk]; rfl
  have pc : PC G (up2 M 990 9 (M 990 9 + 1)) MY2 LY2 (i + 1) k (b + u + 1) w (e + 1) 1 := ⟨cx.nx iT, o2, o3.trans wh, ⟨by omega, by omega, by omega⟩, Or.inl (by rw [Nat.add_sub_cancel, o41]), fun _ => by rw [Nat.add_sub_cancel, o41]; decide, ⟨b + u + 1, by omega, tpP.top (by rw [o41]; decide), by rw [Nat.add_sub_cancel, o41]⟩, fun z => by omega⟩
  obtain ⟨M1, m1, m2, m3⟩ := h1 _ _ _ _ _ _ _ pc
  have m1' : R2 5 (up2 M 990 9 (M 990 9 + 1)) (a + 1) 0 = some M1 := m1
  have d1 : frD k M M1 := frD.A.tr m2 (Nat.le_refl _)
  have q4 : fb_X4_one R M a = ch1 R2 (a + 1) M1 := by
    rw [q2 he, hR]
    unfold fb_X4_openedOne
    rw [if_neg (c := v2 = 35) (by rw [i_eq, q1, hk]; decide), if_pos (c := v2 = 12) (by rw [i_eq, q1, hk]; rfl), hR1, ch_eq, m1', xb1_some]
    cases ch1 R2 (a + 1) M1 <;> rfl
  rcases m3 with fa | ⟨j1, k1, w1, r1, g, MY3, LY3, ⟨a1, a2, a3, a4, a5⟩, cx3, cy3, wh3, yz3, fy3, pb3, pr3, mg, vx3, pm3, ⟨zc, zc1, zc2, zc3⟩, ec0, ec1, ec2⟩
  · obtain ⟨M', n1, n2, n3⟩ := ch1_0 hz (k := k) fa.1
    exact ⟨M', q4.trans n1, d1.tr n2 (Nat.le_refl _), Or.inl ((fa.on yz o7 (Nat.le_refl _)).cg n3)⟩
  have T33 := cy3.T3
  have cin := cntO_in (pil MY3) (b + u + 1) r1
  have l3 : ∀ x, x < r1 → 1 ≤ rk (pil MY3 (b + u + 1 + x)) := fun x hx => by have := (pr3 x hx).1; omega
  have p41 : pil MY3 (b + u) = 41 := by rw [pb3 _ (by omega), o41]
  obtain ⟨vo3, va3, vb3⟩ := open_at cy3 (by omega) (by rw [p41]; decide) l3
  have vc3 : vo3 = 41 := by rw [i_eq, vb3, p41]; rfl
  rw [vc3] at va3
  have ic := y_isCompared cy3.2.1.2.2.1 (by omega) (p := pil MY3) (fun j _ => rfl) zc2
  rw [if_pos ⟨by omega, zc3⟩] at ic
  have bt3 := (y_nosign cy3.1.2.2.2 ec0 va3).2.2 rfl ic
  rw [if_neg (ec1 (by omega)), if_neg (ec2 (by omega))] at bt3
  have pt3 := (y_partOf cy3.1.2.2.2).2.1 ic
  obtain ⟨xw1, xw2⟩ := x_want cx3.1 (a := 13) (c := 13) rfl (by decide) G.ht.2.2.2.1
  have yz03 : YZ G i MY LY = YZ G j1 MY3 LY3 := yz.trans yz3
  have fy03 : frR G.t w MY MY3 := o7.tr fy3 (Nat.le_refl _)
  by_cases c13 : G.K j1 = 13
  case neg =>
    rw [if_neg c13] at pt3
    obtain ⟨M4, n1, n2⟩ := xw2 c13
    have yb2 := y_bad (G := G) T33.2.1 wh3 bt3 (by decide) va3 (by decide) pt3 (by decide)
    have fa := mkF2 (w := w) cy3 n2 (by decide) yz03 yb2 fy03
    have r1' : R2 0 M4 (a + 1) 0 = some M4 := hz M4 fa.1
    obtain ⟨M', u1, u2, u3⟩ := ch2_0 hz (v7 := -1) (k := k) fa.1 (Or.inl rfl)
    refine ⟨M', ?_, (d1.tr (k' := k) (frD.F n2) (Nat.le_refl _)).tr u2 (Nat.le_refl _), Or.inl (fa.cg u3)⟩
    rw [q4]
    unfold ch1
    rw [n1, xb1_some, x_emit0 fa.1, xb2_some, r1', xb1_some, u1]
  rw [if_pos c13] at pt3
  have jT1 := jT T33.2.1 c13 (by decide)
  obtain ⟨vw, n1, n2⟩ := xw1 c13
  have cx4 := cx3.at n2
  have ck3 := cx3.2.2.1
  obtain ⟨v7, M8, e1, e2, e3⟩ := x_emit cx4.1.1 cx4.2.1 (by omega) (a := 45) (o := 45) rfl (b := 0) (v := 0) rfl
  have cx8 := cx4.em e3 (by omega)
  obtain ⟨MY4, LY4, s1, s2, s3, s4, s5, s6, s7⟩ := y_part cy3 jT1 wh3 bt3 (by decide) va3 pt3 (by decide) (by rw [p41]; decide) (by omega) (by omega) (by omega) l3
  have en : ((e + 1 : Nat) : Int) + cntO (pil MY3) (b + u + 1) r1 - cntO (pil MY3) (b + u + 1) r1 = ((e + 1 : Nat) : Int) := by omega
  rw [en] at s2
  have s4' : pil MY4 (b + u) = 42 := s4
  have vc : VC G.pk (cYo G.t MY4) (cYv G.t MY4) w (w1 + r1) g := pm3.done (fun x hx => s7.2.2 x (Or.inl hx)) s6
  have yz04 := yz03.trans s1
  have fy04 : frR G.t w MY MY4 := fy03.tr s7 a4
  have d8 : frD k M M8 := (d1.tr (k' := k) frD.A (Nat.le_refl _)).tr (frD.E e3) (by omega)
  obtain ⟨M10, t1, t2, t3⟩ := in_sum h2 cx8 s2 s3 (by omega) (by omega) s4' (by decide) (by decide)
  have t1' : R2 0 M8 (a + 1) 0 = some M10 := t1
  have q5 : fb_X4_one R M a = ch2 R2 (a + 1) v7 M10 := by
    rw [q4]
    unfold ch1
    rw [n1, xb1_some, e1, xb2_some, t1', xb1_some]
  have d10 : frD k M M10 := d8.tr t2 (by omega)
  rcases t3 with fa | ⟨j2, k2, w2, r2, f, MY5, LY5, vo5, ⟨b1, b2, b3, b4, b5⟩, cx5, cy5, wh5, yz5, fy5, pb5, l5, c5, mf, vx5, pm5, va5, vb5, bt5⟩
  · obtain ⟨M', u1, u2, u3⟩ := ch2_0 hz (v7 := v7) (k := k) fa.1 (Or.inr ⟨k1, e2, by omega, by omega⟩)
    exact ⟨M', q5.trans u1, d10.tr u2 (Nat.le_refl _), Or.inl ((fa.on yz04 fy04 (by omega)).cg u3)⟩
  have T35 := cy5.T3
  have ck5 := cx5.2.2.1
  have vc5 : vo5 = 42 := by rw [i_eq, vb5]; rfl
  rw [vc5] at va5
  have p42 : pil MY5 (b + u) = 42 := by rw [pb5 _ (by omega), s4']
  have pt5 := (y_partOf cy5.1.2.2.2).2.2.2.1
  obtain ⟨xw3, xw4⟩ := x_want cx5.1 (a := 14) (c := 14) rfl (by decide) G.ht.2.2.2.1
  have yz05 := yz04.trans yz5
  have fy05 : frR G.t w MY MY5 := fy04.tr fy5 (by omega)
  by_cases c14 : G.K j2 = 14
  case neg =>
    rw [if_neg c14] at pt5
    obtain ⟨M13, n3, n4⟩ := xw4 c14
    have yb2 := y_bad (G := G) T35.2.1 wh5 bt5 (by decide) va5 (by decide) pt5 (by decide)
    have fa := mkF2 (w := w) cy5 n4 (by decide) yz05 yb2 fy05
    obtain ⟨M', u1, u2, u3⟩ := ch3_0 hz (v7 := v7) (v16 := -1) (k := k) fa.1 (Or.inr ⟨k1, e2, by omega, by omega⟩) (Or.inl rfl)
    refine ⟨M', ?_, (d10.tr (k' := k) (frD.F n4) (Nat.le_refl _)).tr u2 (Nat.le_refl _), Or.inl (fa.cg u3)⟩
    rw [q5]
    unfold ch2
    rw [n3, xb1_some, x_emit0 fa.1, xb2_some, u1]
  rw [if_pos c14] at pt5
  have jT2 := jT T35.2.1 c14 (by decide)
  obtain ⟨vw2, n3, n4⟩ := xw3 c14
  have cx6 := cx5.at n4
  obtain ⟨v16, M17, e4, e5, e6⟩ := x_emit cx6.1.1 cx6.2.1 (by omega) (a := 44) (o := 44) rfl (b := 0) (v := 0) rfl
  have cx17 := cx6.em e6 (by omega)
  have la1 := x_landed (M := M17) e2 (by omega) cx17.2.1 (by omega)
  have cx20 : CX G (up2 M17 1001 k1 (M17 995 9)) (j2 + 1) (k2 + 1) := cx17.ld
  obtain ⟨MY6, LY6, s9, s10, s11, s12, s13, s14, s15⟩ := y_part cy5 jT2 wh5 bt5 (by decide) va5 pt5 (by decide) (by rw [p42]; decide) (by omega) (by omega) (by omega) l5
  rw [c5, Int.sub_zero] at s10
  have s12' : pil MY6 (b + u) = 43 := s12
  have vf : VY G.pk (cYo G.t MY6) (cYv G.t MY6) (w1 + r1) (w2 + r2) f := pm5.done (fun x hx => s15.2.2 x (Or.inl hx)) s14
  have yz06 := yz05.trans s9
  have fy06 : frR G.t w MY MY6 := fy05.tr s15 (by omega)
  have fy46 : frR G.t (w1 + r1) MY4 MY6 := fy5.tr s15 (by omega)
  have d17 : frD (k1 + 1) M10 M17 := (frD.A.tr (k := k1 + 1) (k' := k1 + 1) (frD.re _ _) (Nat.le_refl _)).tr (frD.E e6) (by omega)
  have d20 : frD k M (up2 M17 1001 k1 (M17 995 9)) := (d10.tr d17 (by omega)).tr (k' := k1) (frD.ld (Nat.le_refl _)) (by omega)
  obtain ⟨M22, t4, t5, t6⟩ := in_sum h2 cx20 s10 s11 (by omega) (by omega) s12' (by decide) (by decide)
  have t4' : R2 0 (up2 M17 1001 k1 (M17 995 9)) (a + 1) 0 = some M22 := t4
  have q6 : fb_X4_one R M a = ch4 v16 M22 := by
    rw [q5]
    unfold ch2 ch3
    rw [n3, xb1_some, e4, xb2_some, la1, xb1_some, t4', xb1_some]
  have d22 : frD k M M22 := d20.tr t5 (by omega)
  rcases t6 with fa | ⟨j3, k3, w3, r3, f', MY7, LY7, vo7, ⟨g1, g2, g3, g4, g5⟩, cx7, cy7, wh7, yz7, fy7, pb7, l7, c7, mf', vx7, pm7, va7, vb7, bt7⟩
  · obtain ⟨M', u1, u2, u3⟩ := ch4_0 (v16 := v16) (k := k) fa.1 (Or.inr ⟨k2, e5, by omega, by omega⟩)
    exact ⟨M', q6.trans u1, d22.tr u2 (Nat.le_refl _), Or.inl ((fa.on yz06 fy06 (by omega)).cg u3)⟩
  have T37 := cy7.T3
  have ck7 := cx7.2.2.1
  have vc7 : vo7 = 43 := by rw [i_eq, vb7]; rfl
  rw [vc7] at va7
  have p43 : pil MY7 (b + u) = 43 := by rw [pb7 _ (by omega), s12']
  have pt7 := (y_partOf cy7.1.2.2.2).2.2.2.2
  obtain ⟨xw5, xw6⟩ := x_want cx7.1 (a := 15) (c := 15) rfl (by decide) G.ht.2.2.2.1
  have yz07 := yz06.trans yz7
  have fy07 : frR G.t w MY MY7 := fy06.tr fy7 (by omega)
  have pbl : ∀ x, x < b + u → pil MY7 x = pil MY x := fun x hx => by rw [pb7 x (by omega), s13 x hx, pb5 x (by omega), s5 x hx, pb3 x (by omega), o5 x hx]
  by_cases c15 : G.K j3 = 15
  case neg =>
    rw [if_neg c15] at pt7
    obtain ⟨M25, n5, n6⟩ := xw6 c15
    have yb2 := y_bad (G := G) T37.2.1 wh7 bt7 (by decide) va7 (by decide) pt7 (by decide)
    have fa := mkF2 (w := w) cy7 n6 (by decide) yz07 yb2 fy07
    obtain ⟨M', u1, u2, u3⟩ := x_land (M := M25) (v := v16) (k := k) (Or.inr ⟨k2, e5, by omega, by omega⟩)
    refine ⟨M', ?_, (d22.tr (k' := k) (frD.F n6) (Nat.le_refl _)).tr u2 (Nat.le_refl _), Or.inl (fa.cg u3)⟩
    rw [q6]
    unfold ch4
    rw [n5, xb1_some, u1, xb1_some]
  rw [if_pos c15] at pt7
  have jT3 := jT T37.2.1 c15 (by decide)
  obtain ⟨vw3, n5, n6⟩ := xw5 c15
  have cx25 := cx7.at n6
  have la2 := x_landed (M := up2 M22 990 9 vw3) e5 (by omega) cx25.2.1 (by omega)
  obtain ⟨MY8, LY8, z1, z2, z3, z4, z5, z6, z7, z8⟩ := y_shut (s := 1) cy7 jT3 wh7 bt7 (by decide) va7 pt7 rfl (by rw [p43]; decide) (Or.inl ⟨rfl, rfl⟩) (by omega) (by omega) (by omega) (by rw [c7]; omega) l7 (by
    rcases Nat.eq_zero_or_pos b with b0 | b0
    · exact Or.inl b0
    · rcases hb with z | z
      · exact Or.inl z
      · exact Or.inr (by rw [pbl _ (by omega)]; exact z)) (fun x hx => by rw [pbl _ (by omega)]; exact hu x hx)
  have vg : VY G.pk (cYo G.t MY8) (cYv G.t MY8) (w2 + r2) (w3 + r3) f' := pm7.done (fun x hx => z8.2.2 x (Or.inl hx)) z5
  have fy68 : frR G.t (w2 + r2) MY6 MY8 := fy7.tr z8 (by omega)
  have fy48 : frR G.t (w1 + r1) MY4 MY8 := fy46.tr fy68 (by omega)
  have vyf := VY_if (vc.fin fy48) (vf.fin fy68) vg (z6 rfl)
  have fin1000 : ∀ y, (up2 (up2 M22 990 9 vw3) 1001 k2 ((up2 M22 990 9 vw3) 995 9)) 1000 y = M22 1000 y := fun y => by rw [up2_cell (by decide), up2_cell (by decide)]
  have fin1001 : ∀ y, y ≠ k2 → (up2 (up2 M22 990 9 vw3) 1001 k2 ((up2 M22 990 9 vw3) 995 9)) 1001 y = M22 1001 y := fun y hy => by rw [up2_ne (by omega), up2_cell (by decide)]
  have finv : (up2 (up2 M22 990 9 vw3) 1001 k2 ((up2 M22 990 9 vw3) 995 9)) 1001 k2 = M22 995 9 := by rw [up2_same, up2_cell (by decide)]
  have cxf : CX G (up2 (up2 M22 990 9 vw3) 1001 k2 ((up2 M22 990 9 vw3) 995 9)) (j3 + 1) k3 := cx25.ld
  have df : frD k M (up2 (up2 M22 990 9 vw3) 1001 k2 ((up2 M22 990 9 vw3) 995 9)) := (d22.tr (k' := k) frD.A (Nat.le_refl _)).tr (k' := k2) (frD.ld (Nat.le_refl _)) (by omega)
  have q7 : fb_X4_one R M a = some (up2 (up2 M22 990 9 vw3) 1001 k2 ((up2 M22 990 9 vw3) 995 9)) := by
    rw [q6]
    unfold ch4
    rw [n5, xb1_some, la2, xb1_some]
  generalize up2 (up2 M22 990 9 vw3) 1001 k2 ((up2 M22 990 9 vw3) 995 9) = Mf' at fin1000 fin1001 finv cxf df q7
  have M20o : ∀ y, (up2 M17 1001 k1 (M17 995 9)) 1000 y = M17 1000 y := fun y => by rw [up2_cell (by decide)]
  have M20v : ∀ y, y ≠ k1 → (up2 M17 1001 k1 (M17 995 9)) 1001 y = M17 1001 y := fun y hy => up2_ne (by omega)
  have M20k : (up2 M17 1001 k1 (M17 995 9)) 1001 k1 = M17 995 9 := up2_same _ _ _ _
  have a13 : ∀ y, M17 1000 y = if y = k2 then M17 1000 y else M10 1000 y := fun y => by
    by_cases c : y = k2
    · rw [if_pos c]
    · rw [if_neg c, (e6.2.2.2.1 y c).1, up2_cell (by decide)]
  have a13v : ∀ y, y ≠ k2 → M17 1001 y = M10 1001 y := fun y c => by rw [(e6.2.2.2.1 y c).2, up2_cell (by decide)]
  have a13o : ∀ y, y ≠ k2 → M17 1000 y = M10 1000 y := fun y c => by rw [a13 y, if_neg c]
  have loF : ∀ y, y < k2 + 1 → Mf' 1000 y = M17 1000 y := fun y hy => by rw [fin1000, (t5.2.2.2 y hy).1, M20o]
  have loV : ∀ y, y < k2 → y ≠ k1 → Mf' 1001 y = M17 1001 y := fun y hy c => by rw [fin1001 y (by omega), (t5.2.2.2 y (by omega)).2, M20v y c]
  have VX1 : VX (cXo Mf') (cXv Mf') k k1 (mBo g) := vx3.fin (fun y y1 y2 => by
    rw [loF y (by omega), loV y (by omega) (by omega), a13o y (by omega), a13v y (by omega), (t2.2.2.2 y (by omega)).1, (t2.2.2.2 y (by omega)).2, (e3.2.2.2.1 y (by omega)).1, (e3.2.2.2.1 y (by omega)).2, up2_cell (by decide), up2_cell (by decide)]
    exact ⟨rfl, rfl⟩)
  have VX2 : VX (cXo Mf') (cXv Mf') (k1 + 1) k2 f := vx5.fin (fun y y1 y2 => by
    rw [loF y (by omega), loV y (by omega) (by omega), a13o y (by omega), a13v y (by omega)]
    exact ⟨rfl, rfl⟩)
  have VX3 : VX (cXo Mf') (cXv Mf') (k2 + 1) k3 f' := vx7.fin (fun y y1 y2 => by
    rw [fin1000, fin1001 y (by omega)]
    exact ⟨rfl, rfl⟩)
  have O1 : cXo Mf' k1 = 45 := by
    unfold cXo
    rw [loF k1 (by omega), a13o k1 (by omega), (t2.2.2.2 k1 (by omega)).1]
    exact e3.2.1
  have V1 : cXv Mf' k1 = ((k2 + 1 : Nat) : Int) := by
    unfold cXv
    rw [fin1001 k1 (by omega), (t5.2.2.2 k1 (by omega)).2, M20k]
    exact cx17.2.1
  have O2 : cXo Mf' k2 = 44 := by
    unfold cXo
    rw [loF k2 (by omega)]
    exact e6.2.1
  have V2 : cXv Mf' k2 = (k3 : Int) := by
    unfold cXv
    rw [finv]
    exact cx7.2.1
  have vxf := VX_if VX1 VX2 VX3 O1 V1 O2 V2
  refine ⟨Mf', q7, df, Or.inr ⟨j3 + 1, k3, w3 + r3 + 1, _, MY8, LY8, ⟨by omega, by omega, by omega, by omega⟩, cxf, ?_, z3, yz07.trans z1, fy07.tr z8 (by omega), fun x hx => by rw [z4, pbl x (by omega)], mIf_ok mg mf mf', vxf, vyf, fun x hx => ?_⟩⟩
  · rw [c7] at z2
    have e9 : ((e + 1 : Nat) : Int) - 0 - 1 - (u : Int) = (e : Int) - (u : Int) := by omega
    rw [e9] at z2
    exact z2
  · rw [z7 x hx, pbl _ (by omega)]
