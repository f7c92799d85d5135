/-! the law that rules -/
def TYr (MY0 M : xm) : Prop := M 3 = MY0 3 ∧ M 1 1 = MY0 1 1
def Lnv (MX0 MY0 : xm) (o : Option Nat) (π : hs → Nat → Bool) (κ : hs → Nat → Int) : Prop := f_X9_textAt (MX0 483 4) = some o ∧ PiC π ∧ KRng κ ∧ (∀ u, u + 15 ≤ 1004 → PkX (sameX MX0) u o π) ∧ PkY (TYr MY0) π ∧ PcX (sameX MX0) o κ ∧ PcY (TYr MY0) κ
theorem sameX.s (MX0 : xm) : TXs (sameX MX0) := fun M M' h t q hq => (h q hq).trans (t q hq)
theorem TYr.s (MY0 : xm) : TYs (TYr MY0) := fun M M' h1 h2 t => ⟨h1.trans t.1, (h2 1 (by omega)).trans t.2⟩
theorem clause_none {M : xm} {a b : Int32} (ha : a.toInt < 0) : f_X10_clauseOf M a b = some (-1) := by
  unfold f_X10_clauseOf
  have : g_X10_clauseOf_2 M a b xfuel 0 = some (Sum.inr ()) := by
    rw [show xfuel = 99999 + 1 from rfl]
    unfold g_X10_clauseOf_2
    rw [if_pos (by rw [i_lt]; exact ha)]
  rw [this, xs2_r]
/-- without a picks the half of what is used decides -/
theorem half_x {u : Nat} {M : xm} {s : hs} (h : RX u M s) (o : Ok s) {a : Int32} {p : Nat} (ha : a.toInt = (p : Int)) (hp : p < 8) : (if xin a 8 = true then (if (M (u + 6) (Int32.toNatClampNeg a)) < ((M (u + 5) (Int32.toNatClampNeg a)) * (2 : Int32)) then some ((0 : Int32), M) else some ((1 : Int32), M)) else none) = some (if decide (2 * s 5 p ≤ s 6 p) = true then 1 else 0, M) := by
  have o5 := o.l hp
  have m2 := i_mul (h.l hp) (y := 2) (b := 2) rfl (by omega) (by omega)
  rw [if_pos (i_in ha hp), i_ix ha]
  by_cases c : 2 * s 5 p ≤ s 6 p
  · rw [if_neg (by rw [i_lt, h.u hp, m2]; omega), if_pos (decide_eq_true c)]
  · rw [if_pos (by rw [i_lt, h.u hp, m2]; omega), if_neg (by rw [decide_eq_true_eq]; exact c)]
theorem half_y {M : xm} {L : xn} {s : hs} (h : RY M s) (o : Ok s) {a v : Int32} {p : Nat} (ha : a.toInt = (p : Int)) (hp : p < 8) (hv : v.toInt = s 5 p) : (if xin ((21 : Int32) + a) 9878 = true then (if (M 1 (Int32.toNatClampNeg ((21 : Int32) + a))) < ((2 : Int32) * v) then some ((0 : Int32), M, L) else some ((1 : Int32), M, L)) else none) = some (if decide (2 * s 5 p ≤ s 6 p) = true then 1 else 0, M, L) := by
  have o5 := o.l hp
  have m2 := i_mul (x := 2) (a := 2) rfl hv (by omega) (by omega)
  have e := yx 21 (b := 21) rfl ha (by omega)
  rw [if_pos e.1, e.2]
  by_cases c : 2 * s 5 p ≤ s 6 p
  · rw [if_neg (by rw [i_lt, h.u hp, m2]; omega), if_pos (decide_eq_true c)]
  · rw [if_pos (by rw [i_lt, h.u hp, m2]; omega), if_neg (by rw [decide_eq_true_eq]; exact c)]
theorem law_now {MX MY : xm} {nt sd : Nat} {ru : Int} {sp sk : Nat → Int} (a7 : TdX 483 MX nt ru sd sp sk) (a8 : TdY (MY 1) nt ru sd sp sk) (a9 : TdO nt ru sd sp sk) (lw : ∀ t, t < nt → Tx MX MY t) : ∃ o π κ, Lnv MX MY o π κ := by
  have h4 : (MX 483 4).toInt = ru := a7.2.2.1
  have y1 : (MY 1 1).toInt = ru := a8.2.1
  have n4 := a9.1
  have rr := a9.2.1
  by_cases c : ru = -1
  · refine ⟨none, fun s p => decide (2 * s 5 p ≤ s 6 p), fun _ _ => 0, ?_, ?_, fun _ _ => (by decide : (0 : Int) ≤ 0 ∧ (0 : Int) ≤ 9), ?_, ?_, ?_, ?_⟩
    · unfold f_X9_textAt; rw [if_pos (by rw [i_lt, h4, c]; decide)]
    · intro s t _ h5 h6 _ p
      show decide _ = decide _
      rw [h5, h6]
    · intro u hu M s a p h o _ ha hp
      unfold f_X3_picked
      rw [f_isPage_1 ha hp, if_neg n10, xlet_eq]
      exact ⟨M, half_x h o ha hp, fun _ _ _ => rfl⟩
    · intro M L s a p h o l7 ht ha hp
      obtain ⟨v, v1, v2⟩ := y_liveOf h o l7 ha hp
      unfold f_X10_doesPick
      rw [clause_none (by rw [ht.2, y1, c]; decide), xb1_some, v1, xb1_some, if_pos rfl]
      exact ⟨M, L, half_y h o ha hp v2, fun _ _ _ => rfl⟩
    · intro M s a f h o _ ha hf
      exact ⟨0, M, rfl, rfl, fun _ _ _ => rfl⟩
    · intro M L s a f h o l7 ht ha hf
      unfold f_X10_pacesOf
      rw [clause_none (by rw [ht.2, y1, c]; decide), xb1_some, if_pos rfl]
      exact ⟨0, M, L, rfl, rfl, fun _ _ _ => rfl⟩
  · obtain ⟨t, ht⟩ : ∃ t : Nat, ru = t := ⟨ru.toNat, by omega⟩
    obtain ⟨π, κ, cc, h1, h2, h3, h5, h6, h7, _⟩ := (lw t (by omega)).old
    have hy : MY 1 1 = nI t := by rw [i_eq, y1, nI_toInt (by omega), ht]
    refine ⟨some (1007 + 9 * t), π, κ, ?_, h1, h2, h3, ?_, h6, ?_⟩
    · have h4' : (MX 483 4).toInt = (t : Int) := by rw [h4, ht]
      unfold f_X9_textAt
      rw [if_neg (by rw [i_lt, h4']; simp only [Int32.reduceToInt]; omega), if_neg (by rw [i_le, h4']; simp only [Int32.reduceToInt]; omega), if_pos (i_in h4' (by omega)), i_ix h4']
      congr 2
      omega
    · intro M L s a p h o l7 ht' ha hp
      rw [ht'.2, hy]
      exact h5 M L s a p h o l7 ht'.1 ha hp
    · intro M L s a f h o l7 ht' ha hf
      exact h7 M L s a f h o l7 ⟨ht'.1, by rw [ht'.2, y1, ht]⟩ ha hf
theorem s_choose : sim_choose Rel := by
  intro MX MY LY h
  have hr := h
  obtain ⟨nt, nti, ⟨s, St, n, ru, sd, sp, sk, hs⟩, _, _, _, lw⟩ := h
  have ⟨a1, a2, ⟨⟨G, hi⟩, hc, hrw⟩, a4, a5, a6, a7, a8, a9⟩ := hs
  obtain ⟨ot, π, κ, e1, e2, e3, e4, e5, e6, e7⟩ := law_now a7 a8 a9 lw
  unfold f_X9_choose f_X10_choose
  rw [x_canChoose a1, xb1_some, y_canChoose a2, xb1_some]
  by_cases c : s 0 14 = 1 ∧ s 0 13 = 0 ∧ s 10 0 = -1 ∧ s 10 1 = -1
  · obtain ⟨M1, M2, N1, p1, p2, p3, p4, p5, p6, p7, p8, p9, p10, p11, p12⟩ := kept hs
    obtain ⟨M3, t1, t2, t3, t4⟩ := x_turnToMoving (by omega) (sameX.s MX) (e4 1 (by omega)) e2 p6 hi c.1 c.2.1 c.2.2 (fun q hq => p10 q (by omega))
    obtain ⟨M4, r1, r2, r3⟩ := x_mendRoots t2 (hi.c4 c.1 c.2.1 c.2.2 π)
    obtain ⟨N2, L2, y1, y2, y3, y4⟩ := y_chooseNow (TYr.s MY) e5 (L := LY) p7 hi c.1 c.2.1 c.2.2 ⟨p11 3 (by decide), p12 1 (by omega) (by omega)⟩
    have t483 : M2 483 = MX 483 := p10 483 (by omega)
    rw [if_pos c, if_neg n10, p1, xb1_some, p2, xb1_some, t483, e1, xb1_some, t1, xb2_some, r1, xb1_some, p3, xb1_some, y1, xb3_some]
    refine ⟨_, M4, N2, L2, rfl, rfl, ?_⟩
    have fx := frL.tr t4 r3.l
    refine hr.done nt (fun nt' h' => (Snp.of hs).nt h') ?_ (fun q hq => (fx q (by omega) (by omega) (by omega)).trans (p10 q (by omega))) (fun q hq => (y4.1 q (by omega) (by omega) (by omega)).trans (p11 q (by omega)))
    have ho : HO (sChoose s π) := ⟨hi.choose c.1 c.2.1 c.2.2 π, by
      have : sChoose s π 0 17 = s 0 17 := by
        have := sOp_17 (s := s) (π := π) (i := 17) (Or.inl rfl)
        unfold sOp at this
        rw [if_neg (by omega), if_neg (by omega), if_pos ⟨c.1, c.2.2⟩] at this
        exact this
      rw [this]; exact hc, by
      have := hrw.op hi π
      unfold sOp at this
      rw [if_neg (by omega), if_neg (by omega), if_pos ⟨c.1, c.2.2⟩] at this
      exact this⟩
    exact Snp.of (p8.heap r2 y2 ho fx y4)
  · rw [if_neg c, if_pos rfl]
    exact ⟨_, MX, MY, LY, rfl, rfl, hr⟩
/-- only work rows of the law change -/
theorem Rel.law {MX MY MX' MY' : xm} {LY LY' : xn} (h : Rel MX MY LY) (fx : ∀ q, q ≠ 1004 → q ≠ 1005 → MX' q = MX q) (fy : ∀ q, q ≠ 6 → q ≠ 8 → MY' q = MY q) : Rel MX' MY' LY' := by
  refine h.mk (fun nt h' => ?_) (fun q hq => fx q (by omega) (by omega)) (fun q hq => fy q (by omega) (by omega))
  rw [fy 1 (by decide) (by decide)]
  exact h'.fr (fun q _ _ => fx q (by omega) (by omega)) (fun q _ _ => fx q (by omega) (by omega)) (fun q _ _ => fx q (by omega) (by omega))
theorem s_page : sim_page Rel := by
  intro MX MY LY a0 b0 h
  have hr := h
  obtain ⟨nt, nti, ⟨s, St, n, ru, sd, sp, sk, hs⟩, _, _, _, lw⟩ := h
  have ⟨a1, a2, ⟨⟨G, hi⟩, hc, hrw⟩, a4, a5, a6, a7, a8, a9⟩ := hs
  obtain ⟨ot, π, κ, e1, e2, e3, e4, e5, e6, e7⟩ := law_now a7 a8 a9 lw
  have o := hi.1
  have l7 := hi.2.1.2.2.2.2.2.2
  unfold f_X9_page f_X10_page
  rw [f_isPage_eq, yPage]
  by_cases d : 0 ≤ a0.toInt ∧ a0.toInt ≤ 7
  · obtain ⟨p, hp0⟩ : ∃ p : Nat, a0.toInt = p := ⟨a0.toInt.toNat, by omega⟩
    have p8 : p < 8 := by omega
    have e13 := yx 13 (b := 13) rfl hp0 (by omega)
    have e21 := yx 21 (b := 21) rfl hp0 (by omega)
    obtain ⟨v, v1, v2⟩ := y_liveOf a2 o l7 hp0 p8
    rw [if_pos (c := 0 ≤ a0.toInt ∧ a0.toInt < 8) (by omega), if_neg n10, if_pos d, if_neg n10, if_pos (i_in hp0 p8), i_ix hp0, if_pos e13.1, e13.2, if_pos e21.1, e21.2, v1, xb1_some, e1, xb1_some]
    by_cases c0 : b0 = 0
    · rw [if_pos c0, if_pos c0, i_inj (a1.h p8) (a2.h p8)]
      exact ⟨_, MX, MY, LY, rfl, rfl, hr⟩
    · rw [if_neg c0, if_neg c0]
      by_cases c1 : b0 = 1
      · rw [if_pos c1, if_pos c1, if_pos (i_in hp0 p8), i_inj (a1.u p8) (a2.u p8)]
        exact ⟨_, MX, MY, LY, rfl, rfl, hr⟩
      · rw [if_neg c1, if_neg c1]
        by_cases c2 : b0 = 2
        · rw [if_pos c2, if_pos c2, if_pos (i_in hp0 p8), i_inj (a1.l p8) v2]
          exact ⟨_, MX, MY, LY, rfl, rfl, hr⟩
        · rw [if_neg c2, if_neg c2]
          by_cases c3 : b0 = 3
          · obtain ⟨M1, k1, k2⟩ := e4 1 (by omega) MX s a0 p a1 o (fun _ _ => rfl) hp0 p8
            obtain ⟨N1, L1, y1, y2⟩ := e5 MY LY s a0 p a2 o l7 ⟨rfl, rfl⟩ hp0 p8
            rw [if_pos c3, if_pos c3, k1, xb2_some, y1, xb3_some]
            by_cases cp : π s p = true
            · rw [if_pos cp, if_neg n10, if_neg n10]
              exact ⟨_, M1, N1, L1, rfl, rfl, hr.law k2 y2⟩
            · rw [if_neg cp, if_pos rfl, if_pos rfl]
              exact ⟨_, M1, N1, L1, rfl, rfl, hr.law k2 y2⟩
          · rw [if_neg c3, if_neg c3]
            exact ⟨_, MX, MY, LY, rfl, rfl, hr⟩
  · rw [if_neg (c := 0 ≤ a0.toInt ∧ a0.toInt < 8) (by omega), if_pos rfl, if_neg d, if_pos rfl]
    exact ⟨_, MX, MY, LY, rfl, rfl, hr⟩
theorem s_paces : sim_paces Rel := by
  intro MX MY LY a0 h
  have hr := h
  obtain ⟨nt, nti, ⟨s, St, n, ru, sd, sp, sk, hs⟩, _, _, _, lw⟩ := h
  have ⟨a1, a2, ⟨⟨G, hi⟩, hc, hrw⟩, a4, a5, a6, a7, a8, a9⟩ := hs
  obtain ⟨ot, π, κ, e1, e2, e3, e4, e5, e6, e7⟩ := law_now a7 a8 a9 lw
  have o := hi.1
  have l7 := hi.2.1.2.2.2.2.2.2
  unfold f_X9_paces f_X10_paces
  rw [yIn]
  have z0 : (0 : Int32).toInt = 0 := rfl
  have z3 : (3 : Int32).toInt = 3 := rfl
  rw [z0, z3, e1, xb1_some]
  by_cases d : 0 ≤ a0.toInt ∧ a0.toInt ≤ 3
  · obtain ⟨f, hf0⟩ : ∃ f : Nat, a0.toInt = f := ⟨a0.toInt.toNat, by omega⟩
    obtain ⟨v, M1, k1, k2, k3⟩ := e6 MX s a0 f a1 o (fun _ _ => rfl) hf0 (by omega)
    obtain ⟨v', N1, L1, y1, y2, y3⟩ := e7 MY LY s a0 f a2 o l7 ⟨rfl, rfl⟩ hf0 (by omega)
    rw [if_neg (by rw [i_lt]; simp only [Int32.reduceToInt]; omega), if_pos (by rw [i_le]; simp only [Int32.reduceToInt]; omega), if_pos d, if_neg n10, k1, xb2_some, y1, xb3_some, i_inj k2 y2]
    exact ⟨_, M1, N1, L1, rfl, rfl, hr.law k3 y3⟩
  · rw [if_neg d, if_pos rfl]
    refine ⟨-1, MX, MY, LY, ?_, rfl, hr⟩
    by_cases c : a0.toInt < 0
    · rw [if_pos (by rw [i_lt]; exact c)]
    · rw [if_neg (by rw [i_lt]; exact c), if_neg (by rw [i_le]; simp only [Int32.reduceToInt]; omega)]
