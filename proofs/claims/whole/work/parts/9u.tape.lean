/-! the whole tape, read by both -/
theorem x_clear (M : xm) : ∃ M', f_X7_clear (990 + 5) M = some M' ∧ M' 995 8 = 0 ∧ M' 995 9 = 0 ∧ M' 1002 0 = -1 ∧ M' 1002 1 = -1 ∧ ∀ q, ¬ (995 ≤ q ∧ q ≤ 1003) → M' q = M q := by
  obtain ⟨M1, a1, a2⟩ := fill_raw (o := 990 + 5 + 7) (n := 2) (by decide) (up2 (up2 M (990 + 5) 8 0) (990 + 5) 9 0) (-1)
  obtain ⟨M2, b1, b2⟩ := fill_raw (o := 990 + 5 + 8) (n := 2) (by decide) M1 (-1)
  refine ⟨M2, ?_, ?_, ?_, ?_, ?_, fun q hq => ?_⟩
  · unfold f_X7_clear
    rw [xlet_eq, xlet_eq, a1, xb1_some, b1, xb1_some]
  · rw [b2, if_neg (by omega), a2, if_neg (by omega), up2_ne (by omega), up2_same]
  · rw [b2, if_neg (by omega), a2, if_neg (by omega), up2_same]
  · rw [b2, if_neg (by omega), a2, if_pos (by omega)]
  · rw [b2, if_neg (by omega), a2, if_pos (by omega)]
  · funext j
    rw [b2, if_neg (by omega), a2, if_neg (by omega), up2_ne (by omega), up2_ne (by omega)]
def frXt (M M' : xm) : Prop := (∀ q, q ≠ 990 → ¬ (992 ≤ q ∧ q ≤ 1003) → M' q = M q) ∧ M' 990 5 = M 990 5
def frYt (t : Nat) (M M' : xm) : Prop := (∀ q, q ≠ 0 → q ≠ 3 → q ≠ 5 → M' q = M q) ∧ (∀ j, j = 4 ∨ j = 5 ∨ j = 6 → M' 0 j = M 0 j) ∧ ∀ y, (y < 705 * t ∨ 705 * t + 705 ≤ y) → M' 3 y = M 3 y
theorem frXt.c {M M1 M' : xm} (h : frXt M M1) (h' : frC M1 M') : frXt M M' := ⟨fun q a b => (h'.1 q a (by omega)).trans (h.1 q a b), (h'.2 5 (by decide) (by decide) (by decide) (by decide)).trans h.2⟩
theorem frYt.c {t : Nat} {M M1 M' : xm} (h : frYt t M M1) (h' : frYc t M1 M') : frYt t M M' := ⟨fun q a b c => (h'.1 q a b c).trans (h.1 q a b c), fun j hj => (h'.2.1 j (by omega)).trans (h.2.1 j hj), fun y hy => (h'.2.2 y hy).trans (h.2.2 y hy)⟩
theorem read_both {MX MY : xm} {LY : xn} {t : Nat} (ht : Tap MX MY) (t4 : t < 4) (hy : (MY 1 0).toInt = (t : Int)) : ∃ M', frXt MX M' ∧ ((M' 990 6 ≠ 0 ∧ f_X4_readTape MX = some (0, M') ∧ ∃ MY' LY', f_X10_readText MY LY = some (M' 990 6, MY', LY') ∧ (MY' 0 8).toInt = (M' 990 7).toInt ∧ frYt t MY MY') ∨ (f_X4_readTape MX = some (1, M') ∧ ∃ (G : Qc) (j k' w' c' : Nat) (p0 p1 : Bool) (MY' : xm) (LY' : xn), G.t = t ∧ f_X10_readText MY LY = some (0, MY', LY') ∧ CLx G M' MY' LY' j k' w' c' p0 p1 ∧ frYt t MY MY')) := by
  obtain ⟨n, n3, h1, h2, h3, h4, h5⟩ := ht
  obtain ⟨M2, c1, c2, c3, c4, c5, c6⟩ := x_clear MX
  have z990 : M2 990 = MX 990 := c6 990 (by decide)
  have z991 : M2 991 = MX 991 := c6 991 (by decide)
  have xb : XB (up2 (up2 M2 990 6 0) 990 7 (-1)) (fun i => (MX 991 i).toInt) n := by
    refine ⟨by rw [up2_ne (by omega), up2_ne (by omega), z990]; exact h1, n3, fun i hi => ?_⟩
    rw [up2_cell (by decide), up2_cell (by decide), z991]
    exact ⟨rfl, (h3 i hi).2.1, (h3 i hi).2.2⟩
  obtain ⟨M7, T, K, P, N, E, s1, s2, s3, s4, s5, s6, s7⟩ := x_scan xb
  have xf : 400 ≤ xfuel := by unfold xfuel; omega
  have T3 : T ≤ 300 := s4.2.1
  have xp : XP (up2 M7 990 9 0) T K P N 0 := by
    refine ⟨?_, by rw [up2_same]; rfl, by omega, T3, by rw [up2_ne (by omega)]; exact s3, fun k hk => ?_, ?_⟩
    · rw [up2_ne (by omega), s7 6 (by decide), up2_ne (by omega), up2_same]
    · rw [up2_cell (by decide), up2_cell (by decide), up2_cell (by decide)]; exact s5 k hk
    · rw [up2_ne (by omega), s7 7 (by decide), up2_same]
  have x7 : ∀ q, q ≠ 990 → ¬ (992 ≤ q ∧ q ≤ 994) → (up2 M7 990 9 0) q = M2 q := fun q a b => by rw [up2_cell a, s6 q a (by omega) (by omega) (by omega), up2_cell a, up2_cell a]
  have fx : frXt MX (up2 M7 990 9 0) := ⟨fun q a b => by rw [x7 q a (by omega), c6 q (by omega)], by rw [up2_ne (by omega), s7 5 (by decide), up2_ne (by omega), up2_ne (by omega), z990]⟩
  -- the reference
  have m12 : ((705 : Int32) * MY 1 0).toInt = ((705 * t : Nat) : Int) := by rw [i_mul (x := 705) (a := 705) rfl hy (by omega) (by omega)]; omega
  have w0 : up2 MY 0 12 (705 * MY 1 0) 0 12 = 705 * MY 1 0 := up2_same _ _ _ _
  have m0 : ∀ j, j ≠ 7 → j ≠ 12 → j ≠ 13 → j ≠ 19 → (up2 (up2 (up2 (up2 (up2 MY 0 12 (705 * MY 1 0)) 3 (705 * t) 0) 0 13 0) 0 19 0) 0 7 0) 0 j = MY 0 j := fun j a b c d => by rw [up2_ne (by omega), up2_ne (by omega), up2_ne (by omega), up2_cell (by decide), up2_ne (by omega)]
  have yb : YB (up2 (up2 (up2 (up2 (up2 MY 0 12 (705 * MY 1 0)) 3 (705 * t) 0) 0 13 0) 0 19 0) 0 7 0) (fun i => (MX 991 i).toInt) n := by
    refine ⟨by rw [m0 4 (by decide) (by decide) (by decide) (by decide)]; exact h2, n3, fun i hi => ?_⟩
    rw [up2_cell (by decide), up2_cell (by decide), up2_cell (by decide), up2_cell (by decide), up2_cell (by decide), ← (h3 i hi).1]
    exact ⟨rfl, (h3 i hi).2.1, (h3 i hi).2.2⟩
  obtain ⟨b1, b2, b3, b4⟩ := s4.2.2.2.2.1 0 (by omega)
  obtain ⟨MY8, L9, k1, k2, k3, k4, k5⟩ := y_nextToken (L := LY) yb (c := E 0) (by rw [up2_same, s4.1]; rfl) b3 b1 b2
  have o0 : ∀ j, j ≠ 7 → j ≠ 8 → j ≠ 9 → j ≠ 10 → j ≠ 12 → j ≠ 13 → j ≠ 19 → MY8 0 j = MY 0 j := fun j a b c d e f g => by rw [k5.2 j a b c d, m0 j a e f g]
  have o12 : MY8 0 12 = 705 * MY 1 0 := by rw [k5.2 12 (by decide) (by decide) (by decide) (by decide), up2_ne (by omega), up2_ne (by omega), up2_ne (by omega), up2_cell (by decide), up2_same]
  have o13 : MY8 0 13 = 0 := by rw [k5.2 13 (by decide) (by decide) (by decide) (by decide), up2_ne (by omega), up2_ne (by omega), up2_same]
  have o19 : MY8 0 19 = 0 := by rw [k5.2 19 (by decide) (by decide) (by decide) (by decide), up2_ne (by omega), up2_same]
  have o3 : MY8 3 (705 * t) = 0 := by rw [k5.1 3 (by decide), up2_cell (by decide), up2_cell (by decide), up2_cell (by decide), up2_same]
  have fy : frYt t MY MY8 := ⟨fun q a b c => by rw [k5.1 q a, up2_cell a, up2_cell a, up2_cell a, up2_cell b, up2_cell a], fun j hj => o0 j (by omega) (by omega) (by omega) (by omega) (by omega) (by omega) (by omega), fun y hy => by rw [k5.1 3 (by decide), up2_cell (by decide), up2_cell (by decide), up2_cell (by decide), up2_ne (by omega), up2_cell (by decide)]⟩
  have yp : YP MY8 L9 (fun i => (MX 991 i).toInt) n K P N E 0 := ⟨yb.fr k5, k2, k3, k4⟩
  have cl : CLx ⟨(fun i => (MX 991 i).toInt, n, T, K, P, N, E, t, 0, true), s4⟩ (up2 M7 990 9 0) MY8 L9 0 0 0 0 false false := by
    refine ⟨⟨xp, yp⟩, ⟨by rw [x7 995 (by decide) (by decide), c3]; rfl, by omega⟩, ⟨by rw [x7 995 (by decide) (by decide), c2]; rfl, by omega⟩, ⟨by rw [o12]; exact m12, t4⟩, ⟨by rw [o13]; rfl, by omega⟩, ?_, by rw [o19]; rfl, fun q hq => by omega, ⟨fun z => (by cases z), fun _ => ⟨by rw [x7 1002 (by decide) (by decide), c4], fun x hx => by omega⟩⟩, ⟨fun z => (by cases z), fun _ => ⟨by rw [x7 1002 (by decide) (by decide), c5], fun x hx => by omega⟩⟩⟩
    show (MY8 3 (705 * t)).toInt = ((0 : Nat) : Int)
    rw [o3]
    rfl
  obtain ⟨M', r1, r2, r3⟩ := read_loop 350 xfuel xfuel (up2 M7 990 9 0) MY8 L9 0 0 0 0 0 false false cl rfl (show T - 0 < 350 by omega) (by omega) (by omega)
  have ex : f_X4_readTape MX = if M' 990 6 = 0 then some (1, M') else some (0, M') := by
    unfold f_X4_readTape
    rw [c1, xb1_some, xlet_eq, xlet_eq, s1, xb1_some, xlet_eq, r1, xb1_some]
  have ey : f_X10_readText MY LY = xs2 (g_X10_readText_43 xfuel MY8 L9) (fun q20 => some (q20.1, (q20.2.1), q20.2.2)) (fun q20 => some ((0 : Int32), (q20.1), q20.2)) := by
    unfold f_X10_readText
    rw [xlet_eq, w0, if_pos (i_in m12 (by omega)), i_ix m12, xlet_eq, xlet_eq, xlet_eq, xlet_eq, k1, xb2_some]
  refine ⟨M', fx.c r2, ?_⟩
  rcases r3 with ⟨g1, MY', LY', g2, g3, g4⟩ | ⟨j, k', w', c', p0, p1, MY', LY', g1, g2, g3⟩
  · refine Or.inl ⟨g1, by rw [ex, if_neg g1], MY', LY', ?_, g3, fy.c g4⟩
    rw [ey, g2, xs2_l]
  · refine Or.inr ⟨by rw [ex, if_pos g2.1.1.1], _, j, k', w', c', p0, p1, MY', LY', rfl, ?_, g2, fy.c g3⟩
    rw [ey, g1, xs2_r]
