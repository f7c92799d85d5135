/-! the loops of both and either -/
def gLc (s : Int32) (F : xm → Option xm) : Nat → xm → Int32 → Option xm
  | 0, _, _ => none
  | n + 1, M5, x4 => (if (300 : Int32) ≤ x4 then some (M5) else xb1 (f_X4_isNext M5 s) (fun v9 => (if v9 = 0 then some (M5) else xlet (up2 M5 990 9 ((M5 990 9) + (1 : Int32))) (fun M12 => xb1 (F M12) (fun M13 => xb2 (f_X4_emit M13 s (0 : Int32)) (fun v16 M17 => xlet (x4 + (1 : Int32)) (fun v19 => gLc s F n M17 v19)))))))
theorem gLc_either (R : Nat → xm → Int32 → Int32 → Option xm) (x3 : Int32) : ∀ (n : Nat) (M : xm) (x : Int32), g_X4_either_7 R x3 n M x = gLc 16 (fun M => R 6 M x3 0) n M x := by
  intro n
  induction n with
  | zero => intro M x; rfl
  | succ n ih =>
    intro M x
    rw [g_X4_either_7, gLc]
    simp only [ih]
theorem gLc_both (R : Nat → xm → Int32 → Int32 → Option xm) (x3 : Int32) : ∀ (n : Nat) (M : xm) (x : Int32), g_X4_both_7 R x3 n M x = gLc 17 (fun M => R 7 M x3 0) n M x := by
  intro n
  induction n with
  | zero => intro M x; rfl
  | succ n ih =>
    intro M x
    rw [g_X4_both_7, gLc]
    simp only [ih]
theorem gLc_0 {s : Int32} {F : xm → Option xm} {n : Nat} {M : xm} {x : Int32} (h : M 990 6 ≠ 0) (h1 : s.toInt ≠ 42) : gLc s F (n + 1) M x = some M := by
  rw [gLc, x_isNext0 h h1, xb1_some, if_pos (c := (0 : Int32) = 0) rfl, ite_self]
theorem gLc_stop {s : Int32} {F : xm → Option xm} {n : Nat} {M : xm} {x : Int32} {T i c : Nat} {K P N : Nat → Nat} (h : XP M T K P N i) (h1 : s.toInt = (c : Int)) (k1 : K i ≠ c) : gLc s F (n + 1) M x = some M := by
  rw [gLc, x_isNext h h1, xb1_some, if_neg k1, if_pos (c := (0 : Int32) = 0) rfl, ite_self]
theorem gLc_turn {s : Int32} {F : xm → Option xm} {n : Nat} {M : xm} {x : Int32} {T i c q : Nat} {K P N : Nat → Nat} (h : XP M T K P N i) (h1 : s.toInt = (q : Int)) (kk : K i = q) (hx : x.toInt = (c : Int)) (hc : c < 300) : gLc s F (n + 1) M x = xb1 (F (up2 M 990 9 (M 990 9 + 1))) (fun M16 => xb2 (f_X4_emit M16 s (0 : Int32)) (fun _ M20 => gLc s F n M20 (x + 1))) := by
  rw [gLc, if_neg (c := (300 : Int32) ≤ x) (by rw [i_le, hx]; simp only [Int32.reduceToInt]; omega), x_isNext h h1, xb1_some, if_pos kk, if_neg n10, xlet_eq]
  simp only [xlet_eq]
theorem c_loop {G : Qc} {lv e q : Nat} {z : Int} {s : Int32} {F : xm → Option xm} (hs : s.toInt = (q : Int)) (hc : (lv = 1 ∧ q = 16 ∧ z = 22) ∨ (lv = 2 ∧ q = 17 ∧ z = 21)) (hF : SC G (lv + 1) e F) (e8 : e ≤ 8) {MY : xm} {LY : xn} {i k b w : Nat} (hbb : b + 1 ≤ 7 * e + lv) (b1 : 1 ≤ b) (hb : rk (pil MY (b - 1)) < (lv : Int)) {c : Nat} (c1 : 1 ≤ c) (ct : tpP (fun z => 40 ≤ z) (pil MY) b c) (c41 : pil MY (c - 1) = 41) : ∀ (y fu : Nat) (M : xm) (x : Int32) (cn' j k' w' r : Nat) (g : cn) (MY' : xm) (LY' : xn), Cst G i k b w e lv (lv + 1) MY LY M j k' w' r g MY' LY' → x.toInt = (cn' : Int) → cn' < j → G.T - j < y → y ≤ fu → ∃ M', gLc s F fu M x = some M' ∧ frD k M M' ∧ (RFa G i w MY LY M' ∨ ROc G i k b w e lv lv MY LY M') := by
  intro y
  induction y with
  | zero => intro fu M x cn' j k' w' r g MY' LY' hV hx hcj hq; omega
  | succ y ih =>
    intro fu M x cn' j k' w' r g MY' LY' hV hx hcj hq hfu
    obtain ⟨fu, rfl⟩ : ∃ z, fu = z + 1 := ⟨fu - 1, by omega⟩
    obtain ⟨⟨a1, a2, a3, a4, a5⟩, cx, cy, wh, yz, fy, pb, pr, mg, vx, pm, ⟨zc, zc1, zc2, zc3⟩, ec0, ec1, ec2⟩ := hV
    have T3 := cy.T3
    by_cases st : G.K j = q
    · have jT1 : j < G.T := jT T3.2.1 st (by omega)
      have cin := cntO_in (pil MY') b r
      have rz : rk z = (lv : Int) := by
        rcases hc with ⟨h1, h2, h3⟩ | ⟨h1, h2, h3⟩ <;> rw [h3, h1] <;> rfl
      have t40 : tpP (fun z => 40 ≤ z) (pil MY') (b + r) c := ct.up r pb (fun x hx z => by have := rk_40 (z := pil MY' (b + x)) (by have := (pr x hx).1; omega); omega)
      obtain ⟨vo, vo1, vo2⟩ := y_openNow cy.2.1.2.2.1 (by omega) (p := pil MY') (fun j _ => rfl) t40
      rw [if_neg (by omega), pb _ (by have := ct.1; omega), c41] at vo2
      have vo3 : vo = 41 := by rw [i_eq, vo2]; rfl
      rw [vo3] at vo1
      have ic := y_isCompared cy.2.1.2.2.1 (by omega) (p := pil MY') (fun j _ => rfl) zc2
      rw [if_pos ⟨by omega, zc3⟩] at ic
      have bt1 := (y_nosign cy.1.2.2.2 ec0 vo1).2.2 rfl ic
      have bt2 : ∃ v : Int32, f_X10_betweenOf MY' LY' = some v ∧ v.toInt = z := by
        rcases hc with ⟨h1, h2, h3⟩ | ⟨h1, h2, h3⟩
        · rw [if_neg (by omega), if_pos (by omega)] at bt1
          exact ⟨22, bt1, by rw [h3]; rfl⟩
        · rw [if_pos (by omega)] at bt1
          exact ⟨21, bt1, by rw [h3]; rfl⟩
      obtain ⟨v, v1, v2⟩ := bt2
      have z0 : 21 ≤ z ∧ z ≤ 22 := by omega
      obtain ⟨MY2, LY2, n1, n2, n3, n4, n5, n6, n7⟩ := y_between cy jT1 v1 v2 (by omega) (lv := (lv : Int)) (by rw [rz, if_neg (by omega)]) (Or.inr (by rw [pb _ (by omega)]; exact hb)) (by omega) (by omega) (by omega) (fun x hx => (pr x hx).1) wh
      have en : (e : Int) + cntO (pil MY') b r - cntO (pil MY') b r = (e : Int) := by omega
      rw [en] at n2
      have t41 : tpP (fun z => 40 ≤ z) (pil MY2) (b + 1) c := ct.up 1 (fun x hx => by rw [n5 x hx, pb x hx]) (fun x hx y => by
        rw [show b + x = b by omega] at y
        have y' : 40 ≤ pil MY2 b := y
        omega)
      have pc : PC G (up2 M 990 9 (M 990 9 + 1)) MY2 LY2 (j + 1) k' (b + 1) (w' + r) e (lv + 1) := ⟨cx.nx jT1, n2, n3, ⟨e8, by omega, by omega⟩, Or.inr (by rw [Nat.add_sub_cancel, n4, rz]; omega), fun _ => by rw [Nat.add_sub_cancel, n4, rz]; omega, ⟨c, c1, t41, by rw [n5 _ (by have := ct.1; omega), pb _ (by have := ct.1; omega)]; exact c41⟩, fun z => by omega⟩
      obtain ⟨M16, f1, f2, f3⟩ := hF _ _ _ _ _ _ _ pc
      have vd : VC G.pk (cYo G.t MY2) (cYv G.t MY2) w (w' + r) g := pm.done (fun x hx => n7.2.2 x (Or.inl hx)) n6
      have yz2 : YZ G i MY LY = YZ G (j + 1) MY2 LY2 := yz.trans n1
      have fy2 : frR G.t w MY MY2 := fy.tr n7 a4
      have d1 : frD k' M M16 := frD.A.tr f2 (Nat.le_refl _)
      rw [gLc_turn cx.1 hs st hx (by omega), f1, xb1_some]
      rcases f3 with ⟨g1, MY3, LY3, g2, g3, g4⟩ | ⟨j2, k2, w2, r2, g', MY3, LY3, ⟨g1, g2, g3, g4, g5⟩, cx3, cy3, wh3, yz3, fy3, pb3, pr3, mg', vx3, pm3, ⟨zd, zd1, zd2, zd3⟩, ed0, ed⟩
      · obtain ⟨fu, rfl⟩ : ∃ z, fu = z + 1 := ⟨fu - 1, by omega⟩
        refine ⟨M16, ?_, ⟨d1.1, d1.2.1, d1.2.2.1, fun y hy => d1.2.2.2 y (by omega)⟩, Or.inl ⟨g1, MY3, LY3, yz2.trans g2, g3, fy2.tr g4 (by omega)⟩⟩
        rw [x_emit0 g1, xb2_some, gLc_0 g1 (by omega)]
      · have cxk := cx.2.2.1
        have T33 := cy3.T3
        obtain ⟨rr, M20, m1, m2, m3⟩ := x_emit cx3.1.1 cx3.2.1 (by omega) hs (b := 0) (v := 0) rfl
        have d2 : frD k' M M20 := d1.tr (frD.E m3) (by omega)
        rw [m1, xb2_some]
        have vxf : VX (cXo M20) (cXv M20) k k' (mBo g) := vx.eq (fun y _ hy => by
          unfold cXo cXv
          rw [(d2.2.2.2 y hy).1, (d2.2.2.2 y hy).2]
          exact ⟨rfl, rfl⟩)
        have vxg : VX (cXo M20) (cXv M20) k' k2 (mBo g') := vx3.eq (fun y _ hy => by
          unfold cXo cXv
          rw [(m3.2.2.2.1 y (by omega)).1, (m3.2.2.2.1 y (by omega)).2]
          exact ⟨rfl, rfl⟩)
        have vxb := VX_bin vxf vxg (mBo_ok mg) (mBo_ok mg') (op := (q : Int)) m3.2.1 (by omega) (fun _ => ⟨mBo_01 g, mBo_01 g'⟩)
        have hq2 : (q = 16 ∧ z = 22) ∨ (q = 17 ∧ z = 21) := by omega
        rw [mJ_both hq2] at vxb
        have hp3 : pil MY3 b = z := by rw [pb3 b (by omega), n4]
        have pm4 := PMc.join vd (w2 := w2) g4 (fun x hx => fy3.2.2 x (Or.inl hx)) pm3 hp3 (by omega)
        have V2 : Cst G i k b w e lv (lv + 1) MY LY M20 j2 (k2 + 1) w2 (r2 + 1) (fun s p => mBoth z (g s p) (g' s p)) MY3 LY3 := by
          refine ⟨⟨by omega, by omega, by omega, by omega, by omega⟩, cx3.em m3 (by omega), ?_, wh3, yz2.trans yz3, fy2.tr fy3 (by omega), ?_, ?_, Mc_both mg mg', vxb, pm4, ⟨zd, by omega, ?_, zd3⟩, ed0, ed⟩
          · rw [cntO_head, hp3, rz, if_neg (by omega), Int.zero_add, show b + (r2 + 1) = b + 1 + r2 by omega]
            exact cy3
          · intro x hx; rw [pb3 x (by omega), n5 x hx, pb x hx]
          · intro x hx
            rcases Nat.eq_zero_or_pos x with x0 | x0
            · rw [x0, Nat.add_zero, hp3, rz]; omega
            · have := pr3 (x - 1) (by omega)
              rw [show b + 1 + (x - 1) = b + x by omega] at this
              omega
          · rw [show b + 1 + r2 = b + (r2 + 1) by omega] at zd2
            exact zd2
        obtain ⟨M', k1, k2', k3⟩ := ih fu M20 (x + 1) (cn' + 1) j2 (k2 + 1) w2 (r2 + 1) _ MY3 LY3 V2 (k_add hx (y := 1) (b := 1) rfl (by omega)) (by omega) (by omega) (by omega)
        exact ⟨M', k1, (show frD k M M20 from ⟨d2.1, d2.2.1, d2.2.2.1, fun y hy => d2.2.2.2 y (by omega)⟩).tr k2' (Nat.le_refl _), k3⟩
    · refine ⟨M, gLc_stop cx.1 hs st, frD.re k M, Or.inr ⟨j, k', w', r, g, MY', LY', ⟨a1, a2, a3, a4, a5⟩, cx, cy, wh, yz, fy, pb, pr, mg, vx, pm, ⟨zc, zc1, zc2, zc3⟩, ec0, ?_, ?_⟩⟩
      · intro y
        rcases hc with ⟨h1, h2, h3⟩ | ⟨h1, h2, h3⟩
        · exact ec1 (by omega)
        · omega
      · intro y
        omega
theorem c_level {G : Qc} {lv e q : Nat} {z : Int} {s : Int32} {F : xm → Option xm} (hs : s.toInt = (q : Int)) (hc : (lv = 1 ∧ q = 16 ∧ z = 22) ∨ (lv = 2 ∧ q = 17 ∧ z = 21)) (hF : SC G (lv + 1) e F) : SC G lv e (fun M => xb1 (F M) (fun M1 => xb1 (gLc s F xfuel M1 0) (fun M28 => some M28))) := by
  intro M MY LY i k b w hP
  obtain ⟨cx, cy, wh, ⟨e8, hbb, b1⟩, tp, hb, ⟨c, c1, ct, c41⟩, _⟩ := hP
  have T3 := cy.T3
  have hb2 := hb (by omega)
  obtain ⟨M1, f1, f2, f3⟩ := hF M MY LY i k b w ⟨cx, cy, wh, ⟨e8, by omega, b1⟩, tp, fun _ => by omega, ⟨c, c1, ct, c41⟩, fun z => by omega⟩
  have xf : xfuel = 99999 + 1 := rfl
  rcases f3 with fa | ⟨j, k', w', r, f, MY', LY', ⟨a1, a2, a3, a4, a5⟩, cx', cy', wh', yz, fy, pb, pr, rest⟩
  · refine ⟨M1, ?_, f2, Or.inl fa⟩
    show xb1 (F M) (fun M1 => xb1 (gLc s F xfuel M1 0) (fun M28 => some M28)) = some M1
    rw [f1, xb1_some, xf, gLc_0 fa.1 (by omega), xb1_some]
  · obtain ⟨M', n1, n2, n3⟩ := c_loop hs hc hF e8 hbb b1 hb2 c1 ct c41 400 xfuel M1 0 0 j k' w' r f MY' LY' ⟨⟨a1, a2, a3, a4, by omega⟩, cx', cy', wh', yz, fy, pb, fun x hx => ⟨by have := (pr x hx).1; omega, (pr x hx).2⟩, rest⟩ rfl (by omega) (by omega) (by unfold xfuel; omega)
    refine ⟨M', ?_, f2.tr n2 (Nat.le_refl _), n3⟩
    show xb1 (F M) (fun M1 => xb1 (gLc s F xfuel M1 0) (fun M28 => some M28)) = some M'
    rw [f1, xb1_some, n1, xb1_some]
