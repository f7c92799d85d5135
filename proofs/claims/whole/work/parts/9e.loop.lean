/-! the loops of sum and product -/
def gLv (s1 s2 : Int32) (F : xm → Option xm) : Nat → xm → Int32 → Option xm
  | 0, _, _ => none
  | n + 1, M5, x4 => (if (300 : Int32) ≤ x4 then some (M5) else xb1 (f_X4_isNext M5 s1) (fun v9 => xlet (xb1 (f_X4_nextKind M5) (fun v13 => xlet (up2 M5 990 9 ((M5 990 9) + (1 : Int32))) (fun M15 => xb1 (F M15) (fun M16 => xb2 (f_X4_emit M16 v13 (0 : Int32)) (fun v19 M20 => xlet (x4 + (1 : Int32)) (fun v22 => gLv s1 s2 F n M20 v22)))))) (fun k11 => (if v9 = 0 then xb1 (f_X4_isNext M5 s2) (fun v25 => (if v25 = 0 then some (M5) else k11)) else k11))))
theorem gLv_sum (R : Nat → xm → Int32 → Int32 → Option xm) (x3 : Int32) : ∀ (n : Nat) (M : xm) (x : Int32), g_X4_sum_7 R x3 n M x = gLv 31 32 (fun M => R 1 M x3 0) n M x := by
  intro n
  induction n with
  | zero => intro M x; rfl
  | succ n ih =>
    intro M x
    rw [g_X4_sum_7, gLv]
    simp only [ih]
theorem gLv_product (R : Nat → xm → Int32 → Int32 → Option xm) (x3 : Int32) : ∀ (n : Nat) (M : xm) (x : Int32), g_X4_product_7 R x3 n M x = gLv 33 34 (fun M => R 2 M x3 0) n M x := by
  intro n
  induction n with
  | zero => intro M x; rfl
  | succ n ih =>
    intro M x
    rw [g_X4_product_7, gLv]
    simp only [ih]
theorem gLv_0 {s1 s2 : Int32} {F : xm → Option xm} {n : Nat} {M : xm} {x : Int32} (h : M 990 6 ≠ 0) (h1 : s1.toInt ≠ 42) (h2 : s2.toInt ≠ 42) : gLv s1 s2 F (n + 1) M x = some M := by
  rw [gLv, x_isNext0 h h1, xb1_some, xlet_eq, if_pos (c := (0 : Int32) = 0) rfl, x_isNext0 h h2, xb1_some, if_pos rfl, ite_self]
theorem gLv_stop {s1 s2 : Int32} {F : xm → Option xm} {n : Nat} {M : xm} {x : Int32} {T i c1 c2 : Nat} {K P N : Nat → Nat} (h : XP M T K P N i) (h1 : s1.toInt = (c1 : Int)) (h2 : s2.toInt = (c2 : Int)) (k1 : K i ≠ c1) (k2 : K i ≠ c2) : gLv s1 s2 F (n + 1) M x = some M := by
  rw [gLv, x_isNext h h1, xb1_some, xlet_eq, if_neg k1, if_pos (c := (0 : Int32) = 0) rfl, x_isNext h h2, xb1_some, if_neg k2, if_pos rfl, ite_self]
theorem gLv_turn {s1 s2 : Int32} {F : xm → Option xm} {n : Nat} {M : xm} {x : Int32} {T i c c1 c2 : Nat} {K P N : Nat → Nat} (h : XP M T K P N i) (h1 : s1.toInt = (c1 : Int)) (h2 : s2.toInt = (c2 : Int)) (kk : K i = c1 ∨ K i = c2) (hx : x.toInt = (c : Int)) (hc : c < 300) : ∃ v13 : Int32, v13.toInt = (K i : Int) ∧ gLv s1 s2 F (n + 1) M x = xb1 (F (up2 M 990 9 (M 990 9 + 1))) (fun M16 => xb2 (f_X4_emit M16 v13 (0 : Int32)) (fun _ M20 => gLv s1 s2 F n M20 (x + 1))) := by
  obtain ⟨v, v1, v2⟩ := x_nextKind h
  refine ⟨v, v2, ?_⟩
  rw [gLv, if_neg (c := (300 : Int32) ≤ x) (by rw [i_le, hx]; simp only [Int32.reduceToInt]; omega), x_isNext h h1, xb1_some, xlet_eq, v1, xb1_some, xlet_eq]
  simp only [xlet_eq]
  by_cases q : K i = c1
  · rw [if_pos q, if_neg n10]
  · rw [if_neg q, if_pos (c := (0 : Int32) = 0) rfl, x_isNext h h2, xb1_some, if_pos (c := K i = c2) (by rcases kk with a | a; exact absurd a q; exact a), if_neg n10]
theorem mJ_two {c : Nat} (hc : 31 ≤ c ∧ c ≤ 34) (f g : fn) : (fun s p => mJ (c : Int) (f s p) (g s p)) = fun s p => mTwo (opT ((c : Int) - 25)) (f s p) (g s p) := by
  funext s p
  unfold mJ opT
  rw [if_neg (by omega), if_neg (by omega), if_pos (by omega), show (c : Int) - 25 + 25 = (c : Int) by omega]
theorem v_loop {G : Qc} {lv e c1 c2 : Nat} {s1 s2 : Int32} {F : xm → Option xm} (hs1 : s1.toInt = (c1 : Int)) (hs2 : s2.toInt = (c2 : Int)) (hc : (lv = 5 ∧ c1 = 31 ∧ c2 = 32) ∨ (lv = 6 ∧ c1 = 33 ∧ c2 = 34)) (hF : SV G (lv + 1) e F) (e8 : e ≤ 8) {MY : xm} {LY : xn} {i k b w : Nat} (hbb : b + 1 ≤ 7 * e + lv) (hb : b = 0 ∨ rk (pil MY (b - 1)) < (lv : Int)) : ∀ (q fu : Nat) (M : xm) (x : Int32) (c j k' w' r : Nat) (f : fn) (MY' : xm) (LY' : xn), Vst G i k b w e lv (lv + 1) MY LY M j k' w' r f MY' LY' → x.toInt = (c : Int) → c < j → G.T - j < q → q ≤ fu → ∃ M', gLv s1 s2 F fu M x = some M' ∧ frD k M M' ∧ (RFa G i w MY LY M' ∨ ROv G i k b w e lv lv MY LY M') := by
  intro q
  induction q with
  | zero => intro fu M x c j k' w' r f MY' LY' hV hx hcj hq; omega
  | succ q ih =>
    intro fu M x c j k' w' r f MY' LY' hV hx hcj hq hfu
    obtain ⟨fu, rfl⟩ : ∃ z, fu = z + 1 := ⟨fu - 1, by omega⟩
    have hV0 := hV
    obtain ⟨⟨a1, a2, a3, a4, a5⟩, cx, cy, wh, yz, fy, pb, pr, mf, vx, pm, ec1, ec2⟩ := hV
    have T3 := cy.T3
    by_cases st : G.K j = c1 ∨ G.K j = c2
    · have jT : j < G.T := by
        rcases Nat.lt_or_ge j G.T with z | z
        · exact z
        · have : j = G.T := by omega
          rw [this, G.ht.2.2.2.1] at st
          omega
      have kr : 31 ≤ G.K j ∧ G.K j ≤ 34 := by omega
      obtain ⟨v, v1, v2⟩ := y_sign cy.1.2.2.2 kr
      have rz : rk ((G.K j : Int) - 25) = (lv : Int) := by
        rcases hc with ⟨h1, h2, h3⟩ | ⟨h1, h2, h3⟩
        · rcases st with s | s <;> rw [s, h1] <;> first | rw [h2]; rfl | rw [h3]; rfl
        · rcases st with s | s <;> rw [s, h1] <;> first | rw [h2]; rfl | rw [h3]; rfl
      have hb' : b = 0 ∨ rk (pil MY' (b - 1)) < (lv : Int) := by
        rcases hb with z | z
        · exact Or.inl z
        · rcases Nat.eq_zero_or_pos b with b0 | b0
          · exact Or.inl b0
          · exact Or.inr (by rw [pb (b - 1) (by omega)]; exact z)
      have c0 : cntO (pil MY') b r = 0 := cntO_0 r (fun x hx => ⟨by have := (pr x hx).1; omega, (pr x hx).2⟩)
      obtain ⟨MY2, LY2, b1, b2, b3, b4, b5, b6, b7⟩ := y_between cy jT v1 v2 (by omega) (lv := (lv : Int)) (by rw [rz, if_neg (by omega)]) hb' (by omega) (by omega) (by omega) (fun x hx => (pr x hx).1) wh
      rw [c0, Int.sub_zero] at b2
      obtain ⟨v13, u1, u2⟩ := gLv_turn (F := F) (n := fu) cx.1 hs1 hs2 st hx (by omega)
      have z40 : (G.K j : Int) - 25 < 40 := by omega
      have pv : PV G (up2 M 990 9 (M 990 9 + 1)) MY2 LY2 (j + 1) k' (b + 1) (w' + r) e (lv + 1) := ⟨cx.nx jT, b2, b3, ⟨e8, by omega⟩, Or.inr (by rw [Nat.add_sub_cancel, b4, rz]; omega), fun _ => Or.inr (by rw [Nat.add_sub_cancel, b4, rz]; omega)⟩
      obtain ⟨M16, f1, f2, f3⟩ := hF _ _ _ _ _ _ _ pv
      have vd : VY G.pk (cYo G.t MY2) (cYv G.t MY2) w (w' + r) f := pm.done (fun x hx => b7.2.2 x (Or.inl hx)) b6
      have yz2 : YZ G i MY LY = YZ G (j + 1) MY2 LY2 := yz.trans b1
      have fy2 : frR G.t w MY MY2 := fy.tr b7 a4
      have d1 : frD k' M M16 := frD.A.tr f2 (Nat.le_refl _)
      rw [u2, f1, xb1_some]
      rcases f3 with ⟨g1, MY3, LY3, g2, g3, g4⟩ | ⟨j2, k2, w2, r2, g, MY3, LY3, ⟨g1, g2, g3, g4, g5⟩, cx3, cy3, wh3, yz3, fy3, pb3, pr3, mg, vx3, pm3, ec3⟩
      · obtain ⟨fu, rfl⟩ : ∃ z, fu = z + 1 := ⟨fu - 1, by omega⟩
        refine ⟨M16, ?_, ⟨d1.1, d1.2.1, d1.2.2.1, fun y hy => d1.2.2.2 y (by omega)⟩, Or.inl ⟨g1, MY3, LY3, yz2.trans g2, g3, fy2.tr g4 (by omega)⟩⟩
        rw [x_emit0 g1, xb2_some, gLv_0 g1 (by omega) (by omega)]
      · have cxk := cx.2.2.1
        have T33 := cy3.T3
        obtain ⟨rr, M20, m1, m2, m3⟩ := x_emit cx3.1.1 cx3.2.1 (by omega) u1 (b := 0) (v := 0) rfl
        have d2 : frD k' M M20 := d1.tr (frD.E m3) (by omega)
        rw [m1, xb2_some]
        have vxf : VX (cXo M20) (cXv M20) k k' f := vx.eq (fun y _ hy => by
          unfold cXo cXv
          rw [(d2.2.2.2 y hy).1, (d2.2.2.2 y hy).2]
          exact ⟨rfl, rfl⟩)
        have vxg : VX (cXo M20) (cXv M20) k' k2 g := vx3.eq (fun y _ hy => by
          unfold cXo cXv
          rw [(m3.2.2.2.1 y (by omega)).1, (m3.2.2.2.1 y (by omega)).2]
          exact ⟨rfl, rfl⟩)
        have vxb := VX_bin vxf vxg mf mg (op := (G.K j : Int)) m3.2.1 (by omega) (fun z => by omega)
        have hp3 : pil MY3 b = (G.K j : Int) - 25 := by rw [pb3 b (by omega), b4]
        have pm4 := PMv.two vd (w2 := w2) g4 (fun x hx => fy3.2.2 x (Or.inl hx)) pm3 mf mg hp3 (by omega)
        rw [mJ_two kr] at vxb
        have V2 : Vst G i k b w e lv (lv + 1) MY LY M20 j2 (k2 + 1) w2 (r2 + 1) (fun s p => mTwo (opT ((G.K j : Int) - 25)) (f s p) (g s p)) MY3 LY3 := by
          refine ⟨⟨by omega, by omega, by omega, by omega, by omega⟩, cx3.em m3 (by omega), ?_, wh3, yz2.trans yz3, fy2.tr fy3 (by omega), ?_, ?_, mTwo_ok mf mg, vxb, pm4, ec3⟩
          · rw [show b + (r2 + 1) = b + 1 + r2 by omega]; exact cy3
          · intro x hx; rw [pb3 x (by omega), b5 x hx, pb x hx]
          · intro x hx
            rcases Nat.eq_zero_or_pos x with x0 | x0
            · rw [x0, Nat.add_zero, hp3, rz]; omega
            · have := pr3 (x - 1) (by omega)
              rw [show b + 1 + (x - 1) = b + x by omega] at this
              omega
        obtain ⟨M', n1, n2, n3⟩ := ih fu M20 (x + 1) (c + 1) j2 (k2 + 1) w2 (r2 + 1) _ MY3 LY3 V2 (k_add hx (y := 1) (b := 1) rfl (by omega)) (by omega) (by omega) (by omega)
        exact ⟨M', n1, (show frD k M M20 from ⟨d2.1, d2.2.1, d2.2.2.1, fun y hy => d2.2.2.2 y (by omega)⟩).tr n2 (Nat.le_refl _), n3⟩
    · refine ⟨M, gLv_stop cx.1 hs1 hs2 (fun z => st (Or.inl z)) (fun z => st (Or.inr z)), frD.re k M, Or.inr ⟨j, k', w', r, f, MY', LY', ⟨a1, a2, a3, a4, a5⟩, cx, cy, wh, yz, fy, pb, pr, mf, vx, pm, ?_, ?_⟩⟩
      · intro z
        rcases hc with ⟨h1, h2, h3⟩ | ⟨h1, h2, h3⟩
        · exact ec1 (by omega)
        · omega
      · intro z
        omega
theorem v_level {G : Qc} {lv e c1 c2 : Nat} {s1 s2 : Int32} {F : xm → Option xm} (hs1 : s1.toInt = (c1 : Int)) (hs2 : s2.toInt = (c2 : Int)) (hc : (lv = 5 ∧ c1 = 31 ∧ c2 = 32) ∨ (lv = 6 ∧ c1 = 33 ∧ c2 = 34)) (hF : SV G (lv + 1) e F) : SV G lv e (fun M => xb1 (F M) (fun M1 => xb1 (gLv s1 s2 F xfuel M1 0) (fun M28 => some M28))) := by
  intro M MY LY i k b w hP
  obtain ⟨cx, cy, wh, ⟨e8, hbb⟩, hb, na⟩ := hP
  have T3 := cy.T3
  obtain ⟨M1, f1, f2, f3⟩ := hF M MY LY i k b w ⟨cx, cy, wh, ⟨e8, by omega⟩, by rcases hb with z | z; exact Or.inl z; exact Or.inr (by omega), na⟩
  have xf : xfuel = 99999 + 1 := rfl
  rcases f3 with fa | ⟨j, k', w', r, f, MY', LY', ⟨a1, a2, a3, a4, a5⟩, cx', cy', wh', yz, fy, pb, pr, rest⟩
  · refine ⟨M1, ?_, f2, Or.inl fa⟩
    show xb1 (F M) (fun M1 => xb1 (gLv s1 s2 F xfuel M1 0) (fun M28 => some M28)) = some M1
    rw [f1, xb1_some, xf, gLv_0 fa.1 (by omega) (by omega), xb1_some]
  · obtain ⟨M', n1, n2, n3⟩ := v_loop hs1 hs2 hc hF e8 hbb hb 400 xfuel M1 0 0 j k' w' r f MY' LY' ⟨⟨a1, a2, a3, a4, by omega⟩, cx', cy', wh', yz, fy, pb, fun x hx => ⟨by have := (pr x hx).1; omega, (pr x hx).2⟩, rest⟩ rfl (by omega) (by omega) (by unfold xfuel; omega)
    refine ⟨M', ?_, f2.tr n2 (Nat.le_refl _), n3⟩
    show xb1 (F M) (fun M1 => xb1 (gLv s1 s2 F xfuel M1 0) (fun M28 => some M28)) = some M'
    rw [f1, xb1_some, n1, xb1_some]
