/-! a clause, by both -/
theorem x_lawClause {M M7 : xm} {a : Int32} {j : Nat} (ha : a.toInt = (j : Int)) (hj : j < 2) (h : f_X4_sum (up2 (up2 M 990 10 a) 1002 j (M 995 9)) 0 = some M7) : f_X4_lawClause M a = f_X7_addClause (990 + 5) (up2 M7 1003 j (M7 995 9)) a 0 0 0 := by
  have e5 : up2 M 990 10 a (990 + 5) = M 995 := up2_cell (by decide)
  unfold f_X4_lawClause
  rw [if_neg (c := a < 0) (by rw [i_lt, ha]; simp only [Int32.reduceToInt]; omega), if_pos (c := a < 2) (by rw [i_lt, ha]; simp only [Int32.reduceToInt]; omega), xlet_eq, if_pos (i_in ha hj), i_ix ha, xlet_eq, e5, show (990 + 5 + 7 : Nat) = 1002 from rfl, h, xb1_some, xlet_eq, show (990 + 5 + 8 : Nat) = 1003 from rfl, xb1_id]
theorem y_lawClause {M M5 : xm} {L L6 : xn} {x v : Int32} {xi : Nat} (hx : x.toInt = (xi : Int)) (hxl : xi + 4 ≤ 2820) (h : f_X10_summed (up2 M 3 (xi + 1) (M 0 13)) L = some (v, M5, L6)) : f_X10_lawClause M L x = some (v, up2 M5 3 (xi + 2) (M5 0 13), L6) := by
  have x1 : (x + 1).toInt = ((xi + 1 : Nat) : Int) := k_add hx (y := 1) (b := 1) rfl (by omega)
  have x2 : (x + 2).toInt = ((xi + 2 : Nat) : Int) := k_add hx (y := 2) (b := 2) rfl (by omega)
  unfold f_X10_lawClause
  rw [if_pos (i_in x1 (by omega)), i_ix x1, xlet_eq, h, xb3_some, if_pos (i_in x2 (by omega)), i_ix x2, xlet_eq]
def frLw (t xi w : Nat) (M M' : xm) : Prop := (∀ q, q ≠ 0 → q ≠ 3 → q ≠ 5 → M' q = M q) ∧ (∀ j, j = 4 ∨ j = 5 ∨ j = 6 ∨ j = 12 ∨ j = 19 → M' 0 j = M 0 j) ∧ ∀ y, (y < 705 * t + 97 + 2 * w ∨ 705 * t + 705 ≤ y) → y ≠ xi + 1 → y ≠ xi + 2 → M' 3 y = M 3 y
def Qc.wi (G : Qc) (pk : Bool) (m : Nat) : Qc := ⟨(G.B, G.n, G.T, G.K, G.P, G.N, G.E, G.t, m, pk), G.2⟩
theorem law_both (G : Qc) {M MY : xm} {LY : xn} {i k w c xi j : Nat} {a x : Int32} (h : Bst G i M MY LY) (hk : (M 995 9).toInt = (k : Int)) (ki : k ≤ i) (hc : (M 995 8).toInt = (c : Int)) (h24 : c < 24) (h12 : (MY 0 12).toInt = ((705 * G.t : Nat) : Int)) (t4 : G.t < 4) (h13 : (MY 0 13).toInt = (w : Int)) (wi : w ≤ i) (ha : a.toInt = (j : Int)) (hj : j < 2) (h14 : (MY 0 14).toInt = (j : Int)) (hx : x.toInt = (xi : Int)) (hxi : xi = 705 * G.t + 1 + 4 * c) : (∃ M' MYf LYf, f_X4_lawClause M a = some M' ∧ M' 990 6 ≠ 0 ∧ frC M M' ∧ f_X10_lawClause MY LY x = some (M' 990 6, MYf, LYf) ∧ (MYf 0 8).toInt = (M' 990 7).toInt ∧ frLw G.t xi w MY MYf) ∨ (∃ (jj k' w' : Nat) (f : fn) (M' MY' : xm) (LY' : xn), f_X4_lawClause M a = some M' ∧ f_X10_lawClause MY LY x = some (0, MY', LY') ∧ i < jj ∧ Bst G jj M' MY' LY' ∧ frC M M' ∧ frLw G.t xi w MY MY' ∧ (M' 995 9).toInt = (k' : Int) ∧ k' ≤ jj ∧ k < k' ∧ (M' 995 8).toInt = ((c + 1 : Nat) : Int) ∧ (MY' 0 13).toInt = (w' : Int) ∧ w' ≤ jj ∧ w ≤ w' ∧ M' 996 c = a ∧ (∀ q, q ≠ c → M' 996 q = M 996 q ∧ M' 997 q = M 997 q ∧ M' 998 q = M 998 q ∧ M' 999 q = M 999 q) ∧ (∀ q, q < k → M' 1000 q = M 1000 q ∧ M' 1001 q = M 1001 q) ∧ (M' 1002 j).toInt = (k : Int) ∧ (M' 1003 j).toInt = (k' : Int) ∧ (∀ q, q ≠ j → M' 1002 q = M 1002 q ∧ M' 1003 q = M 1003 q) ∧ Mf f ∧ VX (cXo M') (cXv M') k k' f ∧ VY (decide (j = 0)) (cYo G.t MY') (cYv G.t MY') w w' f ∧ (MY' 3 (xi + 1)).toInt = (w : Int) ∧ (MY' 3 (xi + 2)).toInt = (w' : Int)) := by
  have iT := h.1.2.2.1
  have T3 := h.1.2.2.2.1
  have sj : sot (decide (j = 0)) = (j : Int) := by
    have : j = 0 ∨ j = 1 := by omega
    rcases this with q | q <;> rw [q] <;> rfl
  have xfb : 400 ≤ xfuel := by unfold xfuel; omega
  have hm : (xfuel - (G.T + 2 - i)) + (G.T + 2 - i) = xfuel := by omega
  have cx : CX (G.wi (decide (j = 0)) (xfuel - (G.T + 2 - i))) (up2 (up2 M 990 10 a) 1002 j (M 995 9)) i k := by
    refine ⟨h.1.fr (fun q hq => by rw [up2_cell (by decide), up2_ne (by omega)]) (by rw [up2_cell (by decide), up2_cell (by decide)]) (by rw [up2_cell (by decide), up2_cell (by decide)]) (by rw [up2_cell (by decide), up2_cell (by decide)]), by rw [up2_cell (by decide), up2_cell (by decide)]; exact hk, ki, ?_⟩
    rw [up2_cell (by decide), up2_same, ha]
    exact sj.symm
  have z0 : up2 MY 3 (xi + 1) (MY 0 13) 0 = MY 0 := up2_cell (by decide)
  have yp : YP (up2 MY 3 (xi + 1) (MY 0 13)) LY G.B G.n G.K G.P G.N G.E i := h.2.fr (by rw [up2_cell (by decide)]) (fun q _ => by rw [z0])
  obtain ⟨M7, m1, m2, m3⟩ := law_sum (G.wi (decide (j = 0)) (xfuel - (G.T + 2 - i))) cx yp (by rw [z0]; exact h12) t4 (by rw [z0]; exact h13) wi iT (by rw [z0, h14]; exact sj.symm) hm
  have xl := x_lawClause ha hj m1
  have d5 : frC M (up2 (up2 M 990 10 a) 1002 j (M 995 9)) := ⟨fun q q1 q2 => by rw [up2_cell (by omega), up2_cell (by omega)], fun q _ _ _ q4 => by rw [up2_cell (by decide), up2_ne (by omega)]⟩
  have d7 : frC M M7 := d5.tr (frC.D m2)
  have d9 : frC M7 (up2 M7 1003 j (M7 995 9)) := ⟨fun q q1 q2 => by rw [up2_cell (by omega)], fun q _ _ _ _ => by rw [up2_cell (by decide)]⟩
  have e995 : ∀ q, q ≠ 9 → up2 M7 1003 j (M7 995 9) 995 q = M 995 q := fun q hq => by rw [up2_cell (by decide), m2.2.1 q hq, up2_cell (by decide), up2_cell (by decide)]
  obtain ⟨M', c1, c2⟩ := x_addClause (M := up2 M7 1003 j (M7 995 9)) (by rw [e995 8 (by decide)]; exact hc) h24 a 0 0 0
  have e990 : M' 990 = M7 990 := by rw [c2.2.2.2.1 990 (by decide), up2_cell (by decide)]
  have fC : frC M M' := (d7.tr d9).tr (frC.C c2)
  have frl : ∀ M5 : xm, frR G.t w (up2 MY 3 (xi + 1) (MY 0 13)) M5 → frLw G.t xi w MY (up2 M5 3 (xi + 2) (M5 0 13)) := fun M5 r => ⟨fun q q1 q2 q3 => by rw [up2_cell q2, r.1 q q1 q2 q3, up2_cell q2], fun q hq => by rw [up2_cell (by decide), r.2.1 q (by omega) (by omega) (by omega) (by omega) (by omega) (by omega) (by omega) (by omega), z0], fun y y1 y2 y3 => by rw [up2_ne (by omega), r.2.2 y y1, up2_ne (by omega)]⟩
  rcases m3 with ⟨g1, MY5, LY5, g2, g3, g4⟩ | ⟨jj, k', w', f, MY5, LY5, ⟨a1, a2, a3⟩, cx5, y5, yp5, w5, wj, jT5, fr5, mf, vx, vy⟩
  · refine Or.inl ⟨M', _, LY5, xl.trans c1, by rw [e990]; exact g1, fC, by rw [e990]; exact y_lawClause hx (by omega) g2, by rw [e990, up2_cell (by decide)]; exact g3, frl MY5 g4⟩
  · have yl := y_lawClause hx (by omega) y5
    have e0 : up2 MY5 3 (xi + 2) (MY5 0 13) 0 = MY5 0 := up2_cell (by decide)
    refine Or.inr ⟨jj, k', w', f, M', _, LY5, xl.trans c1, yl, a1, ⟨?_, ?_⟩, fC, frl MY5 fr5, ?_, cx5.2.2.1, a2, c2.1, by rw [e0]; exact w5, wj, a3, c2.2.1.1, fun q hq => ?_, fun q hq => ?_, ?_, ?_, fun q hq => ?_, mf, ?_, ?_, ?_, by rw [up2_same]; exact w5⟩
    · exact XP.fr (M := M7) cx5.1 (fun q _ => by rw [e990]) (by rw [c2.2.2.2.1 992 (by decide), up2_cell (by decide)]) (by rw [c2.2.2.2.1 993 (by decide), up2_cell (by decide)]) (by rw [c2.2.2.2.1 994 (by decide), up2_cell (by decide)])
    · exact YP.fr (M := MY5) yp5 (by rw [up2_cell (by decide)]) (fun q _ => by rw [e0])
    · rw [c2.2.2.2.2 9 (by decide), up2_cell (by decide)]; exact cx5.2.1
    · obtain ⟨q1, q2, q3, q4⟩ := c2.2.2.1 q hq
      rw [q1, q2, q3, q4]
      refine ⟨?_, ?_, ?_, ?_⟩
      · rw [up2_cell (by decide), m2.1 996 (by decide) (by decide) (by decide) (by decide), up2_cell (by decide), up2_cell (by decide)]
      · rw [up2_cell (by decide), m2.1 997 (by decide) (by decide) (by decide) (by decide), up2_cell (by decide), up2_cell (by decide)]
      · rw [up2_cell (by decide), m2.1 998 (by decide) (by decide) (by decide) (by decide), up2_cell (by decide), up2_cell (by decide)]
      · rw [up2_cell (by decide), m2.1 999 (by decide) (by decide) (by decide) (by decide), up2_cell (by decide), up2_cell (by decide)]
    · rw [c2.2.2.2.1 1000 (by decide), c2.2.2.2.1 1001 (by decide), up2_cell (by decide), up2_cell (by decide), (m2.2.2.2 q hq).1, (m2.2.2.2 q hq).2, up2_cell (by decide), up2_cell (by decide), up2_cell (by decide), up2_cell (by decide)]
      exact ⟨rfl, rfl⟩
    · rw [c2.2.2.2.1 1002 (by decide), up2_cell (by decide), m2.1 1002 (by decide) (by decide) (by decide) (by decide), up2_same]; exact hk
    · rw [c2.2.2.2.1 1003 (by decide), up2_same]; exact cx5.2.1
    · rw [c2.2.2.2.1 1002 (by decide), c2.2.2.2.1 1003 (by decide), up2_cell (by decide), up2_ne (by omega), m2.1 1002 (by decide) (by decide) (by decide) (by decide), m2.1 1003 (by decide) (by decide) (by decide) (by decide), up2_ne (by omega), up2_cell (by decide), up2_cell (by decide), up2_cell (by decide)]
      exact ⟨rfl, rfl⟩
    · exact vx.fin (fun y _ _ => by
        rw [c2.2.2.2.1 1000 (by decide), c2.2.2.2.1 1001 (by decide), up2_cell (by decide), up2_cell (by decide)]
        exact ⟨rfl, rfl⟩)
    · exact VY.eq vy (fun y _ _ => ⟨by unfold cYo; rw [up2_ne (by omega)]; rfl, by unfold cYv; rw [up2_ne (by omega)]; rfl⟩)
    · rw [up2_ne (by omega), fr5.2.2 (xi + 1) (Or.inl (show xi + 1 < 705 * G.t + 97 + 2 * w by omega)), up2_same]; exact h13
def nB (p0 p1 : Bool) : Int32 := if p0 = true then (if p1 = true then 3 else 1) else (if p1 = true then 2 else 0)
def CRx (MX MY : xm) (t q : Nat) : Prop := MX 996 q = MY 3 (705 * t + 1 + 4 * q) ∧ (0 ≤ (MX 996 q).toInt ∧ (MX 996 q).toInt ≤ 6) ∧ (2 ≤ (MX 996 q).toInt → MX 997 q = MY 3 (705 * t + 2 + 4 * q)) ∧ (2 ≤ (MX 996 q).toInt → (MX 996 q).toInt ≤ 4 → MX 998 q = MY 3 (705 * t + 3 + 4 * q)) ∧ (3 ≤ (MX 996 q).toInt → (MX 996 q).toInt ≤ 4 → MX 999 q = MY 3 (705 * t + 4 + 4 * q)) ∧ ((MX 996 q).toInt = 6 → 1 ≤ (MX 997 q).toInt ∧ (MX 997 q).toInt ≤ 60)
def LwP (MX MY : xm) (t c k w j : Nat) : Prop := ∃ (q ks ke ws we : Nat) (f : fn), q < c ∧ (MY 3 (705 * t + 1 + 4 * q)).toInt = (j : Int) ∧ (∀ x, x < c → x ≠ q → (MY 3 (705 * t + 1 + 4 * x)).toInt ≠ (j : Int)) ∧ (MX 1002 j).toInt = (ks : Int) ∧ (MX 1003 j).toInt = (ke : Int) ∧ (MY 3 (705 * t + 2 + 4 * q)).toInt = (ws : Int) ∧ (MY 3 (705 * t + 3 + 4 * q)).toInt = (we : Int) ∧ ke ≤ k ∧ we ≤ w ∧ Mf f ∧ VX (cXo MX) (cXv MX) ks ke f ∧ VY (decide (j = 0)) (cYo t MY) (cYv t MY) ws we f
def LwN (MX MY : xm) (t c j : Nat) : Prop := MX 1002 j = -1 ∧ ∀ x, x < c → (MY 3 (705 * t + 1 + 4 * x)).toInt ≠ (j : Int)
theorem LwP.fr {MX MX' MY MY' : xm} {t c k w j k' w' : Nat} (h : LwP MX MY t c k w j) (h2 : MX' 1002 j = MX 1002 j) (h3 : MX' 1003 j = MX 1003 j) (hc : ∀ i, i < k → MX' 1000 i = MX 1000 i ∧ MX' 1001 i = MX 1001 i) (hy : ∀ y, 705 * t + 1 ≤ y → y < 705 * t + 1 + 4 * c → MY' 3 y = MY 3 y) (hw : ∀ y, 705 * t + 97 ≤ y → y < 705 * t + 97 + 2 * w → MY' 3 y = MY 3 y) (hn : (MY' 3 (705 * t + 1 + 4 * c)).toInt ≠ (j : Int)) (hk : k ≤ k') (hw' : w ≤ w') : LwP MX' MY' t (c + 1) k' w' j := by
  obtain ⟨q, ks, ke, ws, we, f, a1, a2, a3, a4, a5, a6, a7, a8, a9, a10, a11, a12⟩ := h
  refine ⟨q, ks, ke, ws, we, f, by omega, by rw [hy _ (by omega) (by omega)]; exact a2, fun x x1 x2 => ?_, by rw [h2]; exact a4, by rw [h3]; exact a5, by rw [hy _ (by omega) (by omega)]; exact a6, by rw [hy _ (by omega) (by omega)]; exact a7, by omega, by omega, a10, a11.fin (fun y _ _ => hc y (by omega)), a12.eq (fun y _ _ => ⟨by unfold cYo; rw [hw _ (by omega) (by omega)], by unfold cYv; rw [hw _ (by omega) (by omega)]⟩)⟩
  rcases Nat.lt_or_ge x c with z | z
  · rw [hy _ (by omega) (by omega)]; exact a3 x z x2
  · rw [show x = c by omega]; exact hn
theorem LwN.fr {MX MX' MY MY' : xm} {t c j : Nat} (h : LwN MX MY t c j) (h2 : MX' 1002 j = MX 1002 j) (hy : ∀ y, 705 * t + 1 ≤ y → y < 705 * t + 1 + 4 * c → MY' 3 y = MY 3 y) (hn : (MY' 3 (705 * t + 1 + 4 * c)).toInt ≠ (j : Int)) : LwN MX' MY' t (c + 1) j := by
  refine ⟨by rw [h2]; exact h.1, fun x hx => ?_⟩
  rcases Nat.lt_or_ge x c with z | z
  · rw [hy _ (by omega) (by omega)]; exact h.2 x z
  · rw [show x = c by omega]; exact hn
theorem CRx.fr {MX MX' MY MY' : xm} {t q : Nat} (h : CRx MX MY t q) (hx : MX' 996 q = MX 996 q ∧ MX' 997 q = MX 997 q ∧ MX' 998 q = MX 998 q ∧ MX' 999 q = MX 999 q) (hy : ∀ y, 705 * t + 1 + 4 * q ≤ y → y < 705 * t + 5 + 4 * q → MY' 3 y = MY 3 y) : CRx MX' MY' t q := by
  unfold CRx
  rw [hx.1, hx.2.1, hx.2.2.1, hx.2.2.2, hy _ (by omega) (by omega), hy _ (by omega) (by omega), hy _ (by omega) (by omega), hy _ (by omega) (by omega)]
  exact h
def LwS (b : Bool) (MX MY : xm) (t c k w j : Nat) : Prop := (b = true → LwP MX MY t c k w j) ∧ (b = false → LwN MX MY t c j)
def CLx (G : Qc) (M MY : xm) (LY : xn) (i k w c : Nat) (p0 p1 : Bool) : Prop := Bst G i M MY LY ∧ ((M 995 9).toInt = (k : Int) ∧ k ≤ i) ∧ ((M 995 8).toInt = (c : Int) ∧ c ≤ 24) ∧ ((MY 0 12).toInt = ((705 * G.t : Nat) : Int) ∧ G.t < 4) ∧ ((MY 0 13).toInt = (w : Int) ∧ w ≤ i) ∧ (MY 3 (705 * G.t)).toInt = (c : Int) ∧ MY 0 19 = nB p0 p1 ∧ (∀ q, q < c → CRx M MY G.t q) ∧ LwS p0 M MY G.t c k w 0 ∧ LwS p1 M MY G.t c k w 1
