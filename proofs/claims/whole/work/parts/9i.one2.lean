/-! one: signs before one, what is in brackets -/
theorem one_un {G : Qc} {M MY : xm} {LY : xn} {i k b u w e : Nat} {a : Int32} {R R1 : Nat → xm → Int32 → Int32 → Option xm} (hR : ∀ M v a2, R 3 M v a2 = fb_X4_openedOne R1 M v a2) (h1 : SO G (e + 1) (fun M => R1 2 M (a + 1) 0)) (h : PO G M MY LY i k b u w e) (ha : a.toInt = (e : Int)) (he : e < 8) (hk : G.K i = 32 ∨ G.K i = 10 ∨ G.K i = 11) : RsO G M MY LY i k b u w e (fb_X4_one R M a) := by
  obtain ⟨cx, cy, wh, ⟨e8, ue, hbb⟩, hb, hu, na⟩ := h
  have T3 := cy.T3
  have iT := jT T3.2.1 rfl (show G.K i ≠ 41 by omega)
  obtain ⟨v2, q1, q2, q3⟩ := x_one_open (R := R) cx ha (by omega)
  have yb := (y_beginOpen cy.1.2.2.2).1 (by omega)
  obtain ⟨MY2, LY2, o1, o2, o3, o4, o5, o6, o7⟩ := (y_opened cy (opO (G.K i))).2 he iT (by omega)
  have yz := YZ_begin iT wh (yb.trans o1)
  have zz : (opO (G.K i)).toInt = 2 ∨ (opO (G.K i)).toInt = 4 ∨ (opO (G.K i)).toInt = 5 := by
    rcases hk with z | z | z <;> rw [z]
    · exact Or.inr (Or.inr rfl)
    · exact Or.inl rfl
    · exact Or.inr (Or.inl rfl)
  have r7 : rk (opO (G.K i)).toInt = 7 := by rcases zz with z | z | z <;> rw [z] <;> rfl
  have ro : opU (opO (G.K i)).toInt = if G.K i = 32 then 43 else (G.K i : Int) := by
    rcases hk with z | z | z <;> rw [z] <;> rfl
  have po : PO G (up2 M 990 9 (M 990 9 + 1)) MY2 LY2 (i + 1) k b (u + 1) w (e + 1) := by
    refine ⟨cx.nx iT, o2, o3.trans wh, ⟨by omega, by omega, by omega⟩, ?_, fun x hx => ?_, fun _ => Or.inr ?_⟩
    · rcases Nat.eq_zero_or_pos b with b0 | b0
      · exact Or.inl b0
      · rcases hb with z | z
        · exact Or.inl z
        · exact Or.inr (by rw [o5 _ (by omega)]; exact z)
    · rcases Nat.lt_or_ge x u with z | z
      · rw [o5 _ (by omega)]; exact hu x z
      · rw [show b + x = b + u by omega, o4]; exact r7
    · rw [show b + (u + 1) - 1 = b + u by omega, o4, r7]
      omega
  obtain ⟨M1, m1, m2, m3⟩ := h1 _ _ _ _ _ _ _ _ po
  have q4 : fb_X4_one R M a = xb1 (some M1) (fun M3 => (if v2 = (32 : Int32) then xb2 (f_X4_emit M3 (43 : Int32) (0 : Int32)) (fun v11 M12 => some M12) else xb2 (f_X4_emit M3 v2 (0 : Int32)) (fun v7 M8 => some M8))) := by
    rw [q2 he, hR]
    unfold fb_X4_openedOne
    rw [if_neg (c := v2 = 35) (by rw [i_eq, q1]; simp only [Int32.reduceToInt]; omega), if_neg (c := v2 = 12) (by rw [i_eq, q1]; simp only [Int32.reduceToInt]; omega)]
    have m1' : R1 2 (up2 M 990 9 (M 990 9 + 1)) (a + 1) 0 = some M1 := m1
    rw [m1']
  rw [xb1_some] at q4
  have d1 : frD k M M1 := frD.A.tr m2 (Nat.le_refl _)
  rcases m3 with ⟨g1, MY3, LY3, g2, g3, g4⟩ | ⟨j, k', w1, f, MY3, LY3, ⟨a1, a2, a3, a4⟩, cx3, cy3, wh3, yz3, fy3, pb3, mf, vx, vy, un⟩
  · refine ⟨M1, ?_, d1, Or.inl ⟨g1, MY3, LY3, yz.trans g2, g3, o7.tr g4 (Nat.le_refl _)⟩⟩
    rw [q4, x_emit0 g1, x_emit0 g1, xb2_some, ite_self]
  · have ck := cx.2.2.1
    have T33 := cy3.T3
    have em : ∀ c : Int32, c.toInt = opU (opO (G.K i)).toInt → fb_X4_one R M a = xb2 (f_X4_emit M1 c 0) (fun _ M12 => some M12) → RsO G M MY LY i k b u w e (fb_X4_one R M a) := by
      intro c hc hq
      obtain ⟨rr, M2, n1, n2, n3⟩ := x_emit cx3.1.1 cx3.2.1 (by omega) hc (b := 0) (v := 0) rfl
      have u0 := un 0 (by omega)
      rw [Nat.add_zero, show b + (u + 1) - 1 - 0 = b + u by omega, o4] at u0
      have vx2 : VX (cXo M2) (cXv M2) k (k' + 1) (mUn (opU (opO (G.K i)).toInt) f) := VX_un (vx.eq (fun y _ hy => by
        unfold cXo cXv
        rw [(n3.2.2.2.1 y (by omega)).1, (n3.2.2.2.1 y (by omega)).2]
        exact ⟨rfl, rfl⟩)) mf n3.2.1 (by rw [ro]; by_cases z : G.K i = 32; rw [if_pos z]; omega; rw [if_neg z]; omega)
      have vy2 := VY_un vy mf u0 zz
      refine ⟨M2, by rw [hq, n1, xb2_some], d1.tr (k' := k') (frD.E n3) (by omega), Or.inr ⟨j, k' + 1, w1 + 1, _, MY3, LY3, ⟨by omega, by omega, by omega, by omega⟩, cx3.em n3 (by omega), ?_, wh3, yz.trans yz3, o7.tr fy3 (Nat.le_refl _), fun x hx => by rw [pb3 x hx, o5 x (by omega)], mUn_ok mf, vx2, vy2, fun x hx => ?_⟩⟩
      · have e1 : ((e + 1 : Nat) : Int) - ((u + 1 : Nat) : Int) = (e : Int) - (u : Int) := by omega
        rw [e1, show w1 + (u + 1) = w1 + 1 + u by omega] at cy3
        exact cy3
      · have := un (x + 1) (by omega)
        rw [show w1 + (x + 1) = w1 + 1 + x by omega, show b + (u + 1) - 1 - (x + 1) = b + u - 1 - x by omega, o5 _ (by omega)] at this
        exact this
    by_cases c32 : v2 = 32
    · have k32 : G.K i = 32 := by rw [i_eq, q1] at c32; simp only [Int32.reduceToInt] at c32; omega
      rw [if_pos c32] at q4
      exact em 43 (by rw [ro, if_pos k32]; rfl) q4
    · have k32 : ¬ G.K i = 32 := fun z => c32 (by rw [i_eq, q1, z]; rfl)
      rw [if_neg c32] at q4
      exact em v2 (by rw [ro, if_neg k32]; exact q1) q4
theorem open_at {G : Qc} {M : xm} {L : xn} {i b r w : Nat} {op : Int} (h : CY G M L i (b + 1 + r) w op) (hbr : b + 1 + r ≤ 160) (ho : 40 ≤ pil M b) (hl : ∀ x, x < r → 1 ≤ rk (pil M (b + 1 + x))) : ∃ vo, f_X10_openNow M = some vo ∧ vo.toInt = pil M b := by
  have t := (tpP.top (P := fun z => 40 ≤ z) (p := pil M) (b := b) ho).up r (fun _ _ => rfl) (fun x hx z => by have := rk_40 (hl x hx); omega)
  obtain ⟨vo, v1, v2⟩ := y_openNow h.2.1.2.2.1 hbr (p := pil M) (fun j _ => rfl) t
  rw [if_neg (by omega), Nat.add_sub_cancel] at v2
  exact ⟨vo, v1, v2⟩
theorem mkF2 {G : Qc} {M M' MY MY' : xm} {LY LY' : xn} {i j w b w' : Nat} {op : Int} {f : Int32} (cy : CY G MY' LY' j b w' op) (hx : XF M M' f (G.P j)) (hf : f ≠ 0) (hz : YZ G i MY LY = YZ G j MY' LY') (hy : YZ G j MY' LY' = some (f, MY', LY')) (hr : frR G.t w MY MY') : RFa G i w MY LY M' := ⟨by rw [hx.1]; exact hf, MY', LY', by rw [hx.1]; exact hz.trans hy, by rw [hx.2.1]; exact cy.1.2.2.1, hr⟩
theorem one_paren {G : Qc} {M MY : xm} {LY : xn} {i k b u w e : Nat} {a : Int32} {R R1 : Nat → xm → Int32 → Int32 → Option xm} (hR : ∀ M v a2, R 3 M v a2 = fb_X4_openedOne R1 M v a2) (h1 : SV G 5 (e + 1) (fun M => R1 0 M (a + 1) 0)) (h : PO G M MY LY i k b u w e) (ha : a.toInt = (e : Int)) (he : e < 8) (hk : G.K i = 35) : RsO G M MY LY i k b u w e (fb_X4_one R M a) := by
  obtain ⟨cx, cy, wh, ⟨e8, ue, hbb⟩, hb, hu, na⟩ := h
  have T3 := cy.T3
  have iT := jT T3.2.1 rfl (show G.K i ≠ 41 by omega)
  have ck := cx.2.2.1
  obtain ⟨v2, q1, q2, q3⟩ := x_one_open (R := R) cx ha (by omega)
  have yb := (y_beginOpen cy.1.2.2.2).1 (by omega)
  obtain ⟨MY2, LY2, o1, o2, o3, o4, o5, o6, o7⟩ := (y_opened cy (opO (G.K i))).2 he iT (by omega)
  have yz := YZ_begin iT wh (yb.trans o1)
  have o40 : pil MY2 (b + u) = 40 := by rw [o4, hk]; rfl
  have pv : PV G (up2 M 990 9 (M 990 9 + 1)) MY2 LY2 (i + 1) k (b + u + 1) w (e + 1) 5 := ⟨cx.nx iT, o2, o3.trans wh, ⟨by omega, by omega⟩, Or.inr (by rw [Nat.add_sub_cancel, o40]; decide), fun _ => Or.inr (by rw [Nat.add_sub_cancel, o40]; decide)⟩
  obtain ⟨M1, m1, m2, m3⟩ := h1 _ _ _ _ _ _ _ pv
  have d1 : frD k M M1 := frD.A.tr m2 (Nat.le_refl _)
  have q4 : fb_X4_one R M a = f_X4_want M1 36 := by
    rw [q2 he, hR]
    unfold fb_X4_openedOne
    have m1' : R1 0 (up2 M 990 9 (M 990 9 + 1)) (a + 1) 0 = some M1 := m1
    rw [if_pos (c := v2 = 35) (by rw [i_eq, q1, hk]; rfl), m1', xb1_some]
    cases f_X4_want M1 36 <;> rfl
  rcases m3 with ⟨g1, MY3, LY3, g2, g3, g4⟩ | ⟨j, k', w', r, f, MY3, LY3, ⟨a1, a2, a3, a4, a5⟩, cx3, cy3, wh3, yz3, fy3, pb3, pr3, mf, vx, pm, ec1, ec2⟩
  · refine ⟨M1, ?_, d1, Or.inl ⟨g1, MY3, LY3, yz.trans g2, g3, o7.tr g4 (Nat.le_refl _)⟩⟩
    rw [q4, x_want0 g1 (by decide)]
  · have T33 := cy3.T3
    have p40 : pil MY3 (b + u) = 40 := by rw [pb3 _ (by omega), o40]
    have l1 : ∀ x, x < r → 1 ≤ rk (pil MY3 (b + u + 1 + x)) := fun x hx => by have := (pr3 x hx).1; omega
    obtain ⟨vo, vo1, vo2⟩ := open_at cy3 (by omega) (by rw [p40]; decide) l1
    rw [p40] at vo2
    have vo3 : vo = 40 := by rw [i_eq, vo2]; rfl
    rw [vo3] at vo1
    have kn := ec1 (by omega)
    have kn2 := ec2 (by omega)
    have bt1 := (y_nosign cy3.1.2.2.2 ⟨kn2.1, kn2.2, kn.1, kn.2⟩ vo1).1 (by decide)
    have pt1 := (y_partOf cy3.1.2.2.2).1
    have c0 : cntO (pil MY3) (b + u + 1) r = 0 := cntO_0 r (fun x hx => ⟨by have := (pr3 x hx).1; omega, (pr3 x hx).2⟩)
    obtain ⟨x1, x2⟩ := x_want cx3.1 (a := 36) (c := 36) rfl (by decide) G.ht.2.2.2.1
    by_cases c36 : G.K j = 36
    · have jT2 := jT T33.2.1 c36 (by decide)
      rw [if_pos c36] at pt1
      obtain ⟨v, n1, n2⟩ := x1 c36
      obtain ⟨MY4, LY4, s1, s2, s3, s4, s5, s6, s7, s8⟩ := y_shut (s := 0) cy3 jT2 wh3 bt1 (by decide) vo1 pt1 rfl (by rw [p40]; decide) (Or.inr ⟨by decide, rfl⟩) (by omega) (by omega) (by omega) (by rw [c0]; omega) l1 (by
        rcases Nat.eq_zero_or_pos b with b0 | b0
        · exact Or.inl b0
        · rcases hb with z | z
          · exact Or.inl z
          · exact Or.inr (by rw [pb3 _ (by omega), o5 _ (by omega)]; exact z)) (fun x hx => by rw [pb3 _ (by omega), o5 _ (by omega)]; exact hu x hx)
      have vy : VY G.pk (cYo G.t MY4) (cYv G.t MY4) w (w' + r) f := pm.done (fun x hx => s8.2.2 x (Or.inl hx)) s5
      refine ⟨_, q4.trans n1, d1.tr (k' := k) frD.A (Nat.le_refl _), Or.inr ⟨j + 1, k', w' + r, f, MY4, LY4, ⟨by omega, by omega, by omega, by omega⟩, cx3.at n2, ?_, s3, (yz.trans yz3).trans s1, (o7.tr fy3 (Nat.le_refl _)).tr s8 a4, fun x hx => by rw [s4, pb3 x (by omega), o5 x (by omega)], mf, vx.eq (fun y _ _ => ?_), vy, fun x hx => ?_⟩⟩
      · rw [c0] at s2
        have e1 : ((e + 1 : Nat) : Int) - 0 - 1 - (u : Int) = (e : Int) - (u : Int) := by omega
        rw [e1, Nat.add_zero] at s2
        exact s2
      · unfold cXo cXv
        rw [up2_cell (by decide), up2_cell (by decide)]
        exact ⟨rfl, rfl⟩
      · have := s7 x hx
        rw [Nat.add_zero, pb3 _ (by omega), o5 _ (by omega)] at this
        exact this
    · rw [if_neg c36] at pt1
      obtain ⟨M', n1, n2⟩ := x2 c36
      have yb2 := y_bad (G := G) T33.2.1 wh3 bt1 (by decide) vo1 (by decide) pt1 (by decide)
      exact ⟨M', q4.trans n1, d1.tr (k' := k) (frD.F n2) (Nat.le_refl _), Or.inl (mkF2 cy3 n2 (by decide) (yz.trans yz3) yb2 (o7.tr fy3 (Nat.le_refl _)))⟩
