/-! a choice, by both -/
theorem x_land {k : Nat} {M : xm} {v : Int32} (hv : v.toInt = -1 ∨ ∃ q : Nat, v.toInt = (q : Int) ∧ k ≤ q ∧ q < 300) : ∃ M', f_X7_landHere (990 + 5) M v = some M' ∧ frD k M M' ∧ M' 990 = M 990 := by
  unfold f_X7_landHere
  rcases hv with h | ⟨q, h1, h2, h3⟩
  · rw [if_pos (by rw [i_lt, h]; decide)]
    exact ⟨M, rfl, frD.re k M, rfl⟩
  · rw [if_neg (c := v < 0) (by rw [i_lt, h1]; simp only [Int32.reduceToInt]; omega)]
    by_cases c : M (990 + 5) 9 ≤ v
    · rw [if_pos c]
      exact ⟨M, rfl, frD.re k M, rfl⟩
    · rw [if_neg c, if_pos (i_in h1 h3), i_ix h1, xlet_eq]
      refine ⟨_, rfl, ⟨fun q _ _ _ d => up2_cell d, fun j _ => by rw [up2_cell (by decide)], fun j _ _ _ => by rw [up2_cell (by decide)], fun i hi => ⟨by rw [up2_cell (by decide)], up2_ne (by omega)⟩⟩, up2_cell (by decide)⟩
theorem x_landed {M : xm} {v : Int32} {q k : Nat} (h1 : v.toInt = (q : Int)) (h2 : q < 300) (hk : (M 995 9).toInt = (k : Int)) (h3 : q < k) : f_X7_landHere (990 + 5) M v = some (up2 M 1001 q (M 995 9)) := by
  have e5 : (M (990 + 5) 9).toInt = (k : Int) := hk
  unfold f_X7_landHere
  rw [if_neg (c := v < 0) (by rw [i_lt, h1]; simp only [Int32.reduceToInt]; omega), if_neg (c := M (990 + 5) 9 ≤ v) (by rw [i_le, e5, h1]; omega), if_pos (i_in h1 h2), i_ix h1, xlet_eq]
def ch4 (v16 : Int32) (M22 : xm) : Option xm := xb1 (f_X4_want M22 (15 : Int32)) (fun M25 => xb1 (f_X7_landHere (990 + 5) M25 v16) (fun M28 => some M28))
def ch3 (R : Nat → xm → Int32 → Int32 → Option xm) (a v7 v16 : Int32) (M17 : xm) : Option xm := xb1 (f_X7_landHere (990 + 5) M17 v7) (fun M20 => xb1 (R 0 M20 a 0) (ch4 v16))
def ch2 (R : Nat → xm → Int32 → Int32 → Option xm) (a v7 : Int32) (M10 : xm) : Option xm := xb1 (f_X4_want M10 (14 : Int32)) (fun M13 => xb2 (f_X4_emit M13 (44 : Int32) (0 : Int32)) (fun v16 M17 => ch3 R a v7 v16 M17))
def ch1 (R : Nat → xm → Int32 → Int32 → Option xm) (a : Int32) (M1 : xm) : Option xm := xb1 (f_X4_want M1 (13 : Int32)) (fun M4 => xb2 (f_X4_emit M4 (45 : Int32) (0 : Int32)) (fun v7 M8 => xb1 (R 0 M8 a 0) (ch2 R a v7)))
theorem ch_eq (R : Nat → xm → Int32 → Int32 → Option xm) (M : xm) (a : Int32) : fb_X4_choice R M a = xb1 (R 5 M a 0) (ch1 R a) := rfl
theorem ch4_0 {k : Nat} {v16 : Int32} {M : xm} (hf : M 990 6 ≠ 0) (hv : v16.toInt = -1 ∨ ∃ q : Nat, v16.toInt = (q : Int) ∧ k ≤ q ∧ q < 300) : ∃ M', ch4 v16 M = some M' ∧ frD k M M' ∧ M' 990 = M 990 := by
  obtain ⟨M', m1, m2, m3⟩ := x_land (M := M) hv
  refine ⟨M', ?_, m2, m3⟩
  unfold ch4
  rw [x_want0 hf (by decide), xb1_some, m1, xb1_some]
theorem ch3_0 {R : Nat → xm → Int32 → Int32 → Option xm} {a : Int32} (hR : Fz (fun M => R 0 M a 0)) {k : Nat} {v7 v16 : Int32} {M : xm} (hf : M 990 6 ≠ 0) (hv : v7.toInt = -1 ∨ ∃ q : Nat, v7.toInt = (q : Int) ∧ k ≤ q ∧ q < 300) (hv2 : v16.toInt = -1 ∨ ∃ q : Nat, v16.toInt = (q : Int) ∧ k ≤ q ∧ q < 300) : ∃ M', ch3 R a v7 v16 M = some M' ∧ frD k M M' ∧ M' 990 = M 990 := by
  obtain ⟨M1, m1, m2, m3⟩ := x_land (M := M) hv
  have hf1 : M1 990 6 ≠ 0 := by rw [m3]; exact hf
  have r1 : R 0 M1 a 0 = some M1 := hR M1 hf1
  obtain ⟨M', n1, n2, n3⟩ := ch4_0 hf1 hv2
  refine ⟨M', ?_, m2.tr n2 (Nat.le_refl _), n3.trans m3⟩
  unfold ch3
  rw [m1, xb1_some, r1, xb1_some, n1]
theorem ch2_0 {R : Nat → xm → Int32 → Int32 → Option xm} {a : Int32} (hR : Fz (fun M => R 0 M a 0)) {k : Nat} {v7 : Int32} {M : xm} (hf : M 990 6 ≠ 0) (hv : v7.toInt = -1 ∨ ∃ q : Nat, v7.toInt = (q : Int) ∧ k ≤ q ∧ q < 300) : ∃ M', ch2 R a v7 M = some M' ∧ frD k M M' ∧ M' 990 = M 990 := by
  obtain ⟨M', n1, n2, n3⟩ := ch3_0 hR (v16 := -1) hf hv (Or.inl rfl)
  refine ⟨M', ?_, n2, n3⟩
  unfold ch2
  rw [x_want0 hf (by decide), xb1_some, x_emit0 hf, xb2_some, n1]
theorem ch1_0 {R : Nat → xm → Int32 → Int32 → Option xm} {a : Int32} (hR : Fz (fun M => R 0 M a 0)) {k : Nat} {M : xm} (hf : M 990 6 ≠ 0) : ∃ M', ch1 R a M = some M' ∧ frD k M M' ∧ M' 990 = M 990 := by
  obtain ⟨M', n1, n2, n3⟩ := ch2_0 hR (v7 := -1) (k := k) hf (Or.inl rfl)
  have r1 : R 0 M a 0 = some M := hR M hf
  refine ⟨M', ?_, n2, n3⟩
  unfold ch1
  rw [x_want0 hf (by decide), xb1_some, x_emit0 hf, xb2_some, r1, xb1_some, n1]
theorem RFa.cg {G : Qc} {i w : Nat} {MY : xm} {LY : xn} {M M' : xm} (h : RFa G i w MY LY M) (e : M' 990 = M 990) : RFa G i w MY LY M' := by
  unfold RFa
  rw [e]
  exact h
theorem RFa.on {G : Qc} {i j w w' : Nat} {MY MY' : xm} {LY LY' : xn} {M : xm} (h : RFa G j w' MY' LY' M) (hz : YZ G i MY LY = YZ G j MY' LY') (hr : frR G.t w MY MY') (hw : w ≤ w') : RFa G i w MY LY M := by
  obtain ⟨g1, MY3, LY3, g2, g3, g4⟩ := h
  exact ⟨g1, MY3, LY3, hz.trans g2, g3, hr.tr g4 hw⟩
theorem VY.fin {G : Qc} {M M' : xm} {w w1 : Nat} {f : fn} (h : VY G.pk (cYo G.t M) (cYv G.t M) w w1 f) (hr : frR G.t w1 M M') : VY G.pk (cYo G.t M') (cYv G.t M') w w1 f := h.eq (fun i _ b => ⟨by unfold cYo; rw [hr.2.2 _ (by omega)], by unfold cYv; rw [hr.2.2 _ (by omega)]⟩)
theorem VC.fin {G : Qc} {M M' : xm} {w w1 : Nat} {f : cn} (h : VC G.pk (cYo G.t M) (cYv G.t M) w w1 f) (hr : frR G.t w1 M M') : VC G.pk (cYo G.t M') (cYv G.t M') w w1 f := h.eq (fun i _ b => ⟨by unfold cYo; rw [hr.2.2 _ (by omega)], by unfold cYv; rw [hr.2.2 _ (by omega)]⟩)
theorem VX.fin {M M' : xm} {k k' : Nat} {f : fn} (h : VX (cXo M) (cXv M) k k' f) (e : ∀ i, k ≤ i → i < k' → M' 1000 i = M 1000 i ∧ M' 1001 i = M 1001 i) : VX (cXo M') (cXv M') k k' f := h.eq (fun i a b => by
  unfold cXo cXv
  rw [(e i a b).1, (e i a b).2]
  exact ⟨rfl, rfl⟩)
theorem CX.ld {G : Qc} {M : xm} {i k q : Nat} {v : Int32} (h : CX G M i k) : CX G (up2 M 1001 q v) i k := by
  obtain ⟨a, b, c, d⟩ := h
  exact ⟨a.fr (fun j _ => by rw [up2_cell (by decide)]) (up2_cell (by decide)) (up2_cell (by decide)) (up2_cell (by decide)), by rw [up2_cell (by decide)]; exact b, c, by rw [up2_cell (by decide)]; exact d⟩
theorem frD.ld {k q : Nat} {M : xm} {v : Int32} (h : k ≤ q) : frD k M (up2 M 1001 q v) := ⟨fun q _ _ _ d => up2_cell d, fun j _ => by rw [up2_cell (by decide)], fun j _ _ _ => by rw [up2_cell (by decide)], fun i hi => ⟨by rw [up2_cell (by decide)], up2_ne (by omega)⟩⟩
theorem frD.lo {k k' : Nat} {M M' : xm} (h : frD k M M') (hk : k' ≤ k) : frD k' M M' := ⟨h.1, h.2.1, h.2.2.1, fun i hi => h.2.2.2 i (by omega)⟩
