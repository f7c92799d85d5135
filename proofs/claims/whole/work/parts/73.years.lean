/-! years by chance -/
theorem HO.x {s : hs} (h : HO s) {z : Int} (hz : 0 ≤ z ∧ z ≤ 31062) : HO (up2 s 0 18 z) := by
  obtain ⟨G, hi⟩ := h.1
  exact ⟨h.1.x hz, h.2.1, h.2.2.wk hi (Wk.up (by decide) (by decide) (by decide))⟩
theorem anew_v {x : Int32} {z : Int} (hx : x.toInt = z) (hz : 0 ≤ z ∧ z ≤ 31062) : ((xremL ((x.toInt64 * (733 : Int64)) + (599 : Int64)) (31063 : Int64)).toInt32).toInt = (z * 733 + 599) % 31063 := by
  have e1 : (x.toInt64 * (733 : Int64)).toInt = z * 733 := by
    rw [Int64.toInt_mul, Int32.toInt_toInt64, hx, show Int64.toInt 733 = 733 from rfl]
    apply Int.bmod_eq_of_le <;> omega
  have e2 : (x.toInt64 * (733 : Int64) + 599).toInt = z * 733 + 599 := by
    rw [Int64.toInt_add, e1, show Int64.toInt 599 = 599 from rfl]
    apply Int.bmod_eq_of_le <;> omega
  have e3 : ((x.toInt64 * (733 : Int64) + 599) / 31063).toInt = (z * 733 + 599) / 31063 := by
    rw [Int64.toInt_div, e2, show Int64.toInt 31063 = 31063 from rfl, Int.tdiv_eq_ediv_of_nonneg (by omega)]
    apply Int.bmod_eq_of_le <;> omega
  have e4 : ((x.toInt64 * (733 : Int64) + 599) / 31063 * 31063).toInt = (z * 733 + 599) / 31063 * 31063 := by
    rw [Int64.toInt_mul, e3, show Int64.toInt 31063 = 31063 from rfl]
    apply Int.bmod_eq_of_le <;> omega
  have e5 : (xremL ((x.toInt64 * (733 : Int64)) + (599 : Int64)) (31063 : Int64)).toInt = (z * 733 + 599) % 31063 := by
    show ((x.toInt64 * (733 : Int64) + 599) - (x.toInt64 * (733 : Int64) + 599) / 31063 * 31063).toInt = _
    rw [Int64.toInt_sub, e2, e4, show z * 733 + 599 - (z * 733 + 599) / 31063 * 31063 = (z * 733 + 599) % 31063 by omega]
    apply Int.bmod_eq_of_le <;> omega
  rw [Int64.toInt_toInt32, e5]
  apply Int.bmod_eq_of_le <;> omega
/-- one thing that happens -/
theorem draw_both {MX0 MY0 : xm} {o : Option Nat} {π : hs → Nat → Bool} {κ : hs → Nat → Int} (E : Env MX0 MY0 o π κ) {M N : xm} {L : xn} {s : hs} (h1 : RX 1 M s) (h2 : RY N s) (ho : HO s) (hsx : sameX MX0 M) (h483 : M 483 = MX0 483) (hty : TYr MY0 N) {v : Int32} {z : Int} (hv : v.toInt = z) (hz : 0 ≤ z ∧ z ≤ 31062) : ∃ M' N' L' s', f_X9_draw M v = some M' ∧ f_X10_happens N L v = some (N', L') ∧ RX 1 M' s' ∧ RY N' s' ∧ HO s' ∧ frL 1 M M' ∧ frP N N' := by
  have ho' := ho
  obtain ⟨⟨G, hi⟩, hc, hrw⟩ := ho'
  have ok := hi.1
  have l := hi.2.1
  have d6 := i_div hv (y := 6) (b := 6) rfl hz.1 (by omega) (by omega)
  have m6 := i_rem hv (y := 6) (b := 6) rfl hz.1 (by omega) (by omega)
  have m5 := i_rem hv (y := 5) (b := 5) rfl hz.1 (by omega) (by omega)
  have m4 := i_rem hv (y := 4) (b := 4) rfl hz.1 (by omega) (by omega)
  have m3 := i_rem hv (y := 3) (b := 3) rfl hz.1 (by omega) (by omega)
  have m2 := i_rem hv (y := 2) (b := 2) rfl hz.1 (by omega) (by omega)
  have q6 := i_rem d6 (y := 6) (b := 6) rfl (by omega) (by omega) (by omega)
  have q4 := i_rem d6 (y := 4) (b := 4) rfl (by omega) (by omega) (by omega)
  have q3 := i_rem d6 (y := 3) (b := 3) rfl (by omega) (by omega) (by omega)
  unfold f_X9_draw f_X10_happens
  simp only [xlet_eq]
  have z0 : (0 : Int32).toInt = 0 := rfl
  by_cases c0 : z % 6 = 0
  · rw [if_pos (c := xrem v 6 = 0) (by rw [i_eq, m6]; exact c0), if_pos (c := xrem v 6 = 0) (by rw [i_eq, m6]; exact c0)]
    have r0 : (xrem v 5).toInt = (((z % 5).toNat : Nat) : Int) := by rw [m5]; omega
    have n0 : (xrem (v / 6) 4).toInt = (((z / 6 % 4).toNat : Nat) : Int) := by rw [q4]; omega
    have sz : (xrem (v / 6) 4 + 1).toInt = (((z / 6 % 4).toNat + 1 : Nat) : Int) := by rw [i_add n0 (b := 1) rfl (by omega) (by omega)]; omega
    obtain ⟨u1, u2⟩ := x_makeObject h1 ok l (a := xrem v 5) (b := xrem (v / 6) 4) r0 (by omega) n0 (by omega)
    rw [y_hasRoom h2 ok (n := (z / 6 % 4).toNat + 1) (u := 0) (b := 9) sz (by omega) rfl (by omega), xb1_some]
    by_cases rm : sRoom s 0 ((z / 6 % 4).toNat + 1)
    · obtain ⟨w, M1, w1, w2, w3, w4⟩ := u1 rm
      obtain ⟨w', N1, t1, t2, t3, t4⟩ := y_makeNow h2 ok l (a := xrem v 5) (b := xrem (v / 6) 4) r0 (by omega) n0 (by omega) rm
      rw [w1, xb2_some, if_pos rm, if_neg n10, t1, xb2_some]
      exact ⟨M1, N1, L, _, rfl, rfl, w3, t3, ⟨hi.make (by omega) rm, by rw [sMake_17]; exact hc, hrw.wk hi (Wk.make ok l (by omega) rm)⟩, w4.l, t4.p⟩
    · rw [u2 rm, xb2_some, if_neg rm, if_pos rfl]
      exact ⟨M, N, L, s, rfl, rfl, h1, h2, ho, frL.rfl, frP.rfl⟩
  · rw [if_neg (c := xrem v 6 = 0) (by rw [i_eq, m6]; exact c0), if_neg (c := xrem v 6 = 0) (by rw [i_eq, m6]; exact c0)]
    by_cases c1 : z % 6 = 1
    · rw [if_pos (c := xrem v 6 = 1) (by rw [i_eq, m6]; exact c1), if_pos (c := xrem v 6 = 1) (by rw [i_eq, m6]; exact c1)]
      have ra : ((4 : Int32) + xrem v 2).toInt = 4 + z % 2 := i_add (a := 4) rfl m2 (by omega) (by omega)
      obtain ⟨s1, s2⟩ := x_loadField h1 hi (a := 4 + xrem v 2) (b := xrem v 4) (c := xrem (v / 6) 3)
      rw [y_canLoad h2 hi, xb1_some]
      by_cases g : (0 ≤ ((4 : Int32) + xrem v 2).toInt ∧ ((4 : Int32) + xrem v 2).toInt ≤ 5) ∧ sFAx s (xrem v 4).toInt (xrem (v / 6) 3).toInt ≠ -1 ∧ sMendV s (s 1 (sFAx s (xrem v 4).toInt (xrem (v / 6) 3).toInt).toNat) ≠ -2
      · obtain ⟨r, M3, k1, k2, k3, k4⟩ := s1 g
        have f0 := g.2.1
        have ef : sFAx s (xrem v 4).toInt (xrem (v / 6) 3).toInt = sFA s (xrem v 4).toInt.toNat (xrem (v / 6) 3).toInt := by unfold sFAx; rw [if_pos (by rw [m4]; omega)]
        have f1 : sFA s (xrem v 4).toInt.toNat (xrem (v / 6) 3).toInt ≠ -1 := by rw [← ef]; exact f0
        obtain ⟨w, w1, w2, w3, w4⟩ := fieldFacts hi (r := (xrem v 4).toInt.toNat) (by rw [m4]; omega) f1
        have ew : sFAx s (xrem v 4).toInt (xrem (v / 6) 3).toInt = w := by rw [ef, w1]
        rw [ew, Int.toNat_natCast] at k2 k3
        have gm := g.2.2
        rw [ew, Int.toNat_natCast] at gm
        obtain ⟨t, ht0⟩ : ∃ t : Nat, ((4 : Int32) + xrem v 2).toInt = t := ⟨((4 : Int32) + xrem v 2).toInt.toNat, by rw [ra]; omega⟩
        rw [ht0, Int.toNat_natCast] at k3
        obtain ⟨v', N2, y1, y2, y3, y4⟩ := y_loadNow h2 hi (a := 4 + xrem v 2) (b := xrem v 4) (c := xrem (v / 6) 3) (r := t) (w := w) ht0 (by omega) w2 ew w4 w3 gm
        rw [k1, xb2_some, if_pos g, if_neg n10, y1, xb2_some]
        have ho2 : HO (sLoad s t w) := ⟨hi.load w2 w3 w4 gm, by
          have : sLoad s t w 0 17 = s 0 17 := by
            unfold sLoad; rw [up2_ap, if_neg (by omega), sMW_0 (by decide)]
          rw [this]; exact hc, hrw.wk hi ((Wk.mw hi w2 w3 w4).tr (Wk.up (by decide) (by decide) (by decide)))⟩
        exact ⟨M3, N2, L, _, rfl, rfl, k3, y3, ho2, k4.l, y4.p⟩
      · obtain ⟨M3, k1, k2, k3⟩ := s2 g
        rw [k1, xb2_some, if_neg g, if_pos rfl]
        exact ⟨M3, N, L, s, rfl, rfl, k2, h2, ho, k3.l, frP.rfl⟩
    · rw [if_neg (c := xrem v 6 = 1) (by rw [i_eq, m6]; exact c1), if_neg (c := xrem v 6 = 1) (by rw [i_eq, m6]; exact c1)]
      have hq : (xrem (v / 6) 6).toInt = (((z / 6 % 6).toNat : Nat) : Int) := by rw [q6]; omega
      have q5 : (z / 6 % 6).toNat < 6 := by omega
      by_cases c2 : z % 6 = 2
      · rw [if_pos (c := xrem v 6 = 2) (by rw [i_eq, m6]; exact c2), if_pos (c := xrem v 6 = 2) (by rw [i_eq, m6]; exact c2)]
        obtain ⟨s1, s2⟩ := x_storeField h1 hi (a := xrem v 4) (b := xrem v 3) (c := xrem (v / 6) 6)
        obtain ⟨x, x1, x2⟩ := y_fieldAt h2 ok l (a := xrem v 4) (b := xrem v 3)
        rw [x1, xb1_some, xb1_some]
        by_cases f0 : sFAx s (xrem v 4).toInt (xrem v 3).toInt = -1
        · rw [s2 (fun q => q.1 f0), xb2_some, if_pos (by rw [i_eq, x2, f0]; rfl)]
          exact ⟨M, N, L, s, rfl, rfl, h1, h2, ho, frL.rfl, frP.rfl⟩
        · obtain ⟨M3, k1, k2, k3⟩ := s1 ⟨f0, by rw [hq]; omega⟩
          have ef : sFAx s (xrem v 4).toInt (xrem v 3).toInt = sFA s (xrem v 4).toInt.toNat (xrem v 3).toInt := by unfold sFAx; rw [if_pos (by rw [m4]; omega)]
          rw [ef] at f0 x2 k2
          obtain ⟨w, w1, w2, w3, w4⟩ := fieldFacts hi (r := (xrem v 4).toInt.toNat) (by rw [m4]; omega) f0
          rw [w1] at x2
          rw [w1, Int.toNat_natCast, hq, Int.toNat_natCast] at k2
          have e := yx 29 (b := 29) rfl hq (by omega)
          have e' := yx 41 (b := 41) rfl x2 (by omega)
          rw [k1, xb2_some, if_neg (by rw [i_eq, x2]; simp only [Int32.reduceToInt]; omega), if_pos e.1, if_pos e'.1, e.2, e'.2]
          have hy : RY (up2 N 1 (41 + w) (N 1 (29 + (z / 6 % 6).toNat))) (up2 s 1 w (s 8 (z / 6 % 6).toNat)) := RY.up h2 (k := 1) (i := w) (yd_i w2 (by decide) (by decide)) (by decide) (h2.r q5)
          exact ⟨M3, _, L, _, rfl, rfl, k2, hy, ⟨hi.store q5 w2 w3, hc, hrw.wk hi (Wk.store w3 (ok.r q5))⟩, k3.l, (frY.up (by omega)).p⟩
      · rw [if_neg (c := xrem v 6 = 2) (by rw [i_eq, m6]; exact c2), if_neg (c := xrem v 6 = 2) (by rw [i_eq, m6]; exact c2)]
        by_cases c3 : z % 6 = 3
        · rw [if_pos (c := xrem v 6 = 3) (by rw [i_eq, m6]; exact c3), if_pos (c := xrem v 6 = 3) (by rw [i_eq, m6]; exact c3)]
          by_cases c4 : z % 4 = 1
          · have e := yx 29 (b := 29) rfl hq (by omega)
            rw [if_pos (c := xrem v 4 = 1) (by rw [i_eq, m4]; exact c4), if_pos (c := xrem v 4 = 1) (by rw [i_eq, m4]; exact c4), f_isRoot_eq, if_pos (c := 0 ≤ (xrem (v / 6) 6).toInt ∧ (xrem (v / 6) 6).toInt < 6) (by rw [hq]; omega), if_neg n10, if_pos (i_in hq q5), i_ix hq, if_pos e.1, e.2]
            exact ⟨_, _, L, up2 s 8 (z / 6 % 6).toNat (-1), rfl, rfl, h1.up (k := 8) (by decide) rfl, RY.up h2 (k := 8) (i := (z / 6 % 6).toNat) (yd_i q5 (by decide) (by decide)) (by decide) rfl, ⟨⟨G, hi.root (by omega) (Or.inl rfl) (fun _ => Or.inl rfl)⟩, hc, hrw.wk hi (Wk.up (by decide) (by decide) (by decide))⟩, (frX.up (k := 8) (by decide)).l, (frY.up (by omega)).p⟩
          · rw [if_neg (c := xrem v 4 = 1) (by rw [i_eq, m4]; exact c4), if_neg (c := xrem v 4 = 1) (by rw [i_eq, m4]; exact c4)]
            exact ⟨M, N, L, s, rfl, rfl, h1, h2, ho, frL.rfl, frP.rfl⟩
        · rw [if_neg (c := xrem v 6 = 3) (by rw [i_eq, m6]; exact c3), if_neg (c := xrem v 6 = 3) (by rw [i_eq, m6]; exact c3)]
          by_cases c : s 0 17 < 9999
          · obtain ⟨M3, k1, k2, k3, k4⟩ := x_tick (by omega) (sameX.s MX0) (E.2.2.2.1 1 (by omega)) E.2.1 h1 hi (by omega) hsx
            obtain ⟨N2, L2, y1, y2, y3, y4⟩ := y_tick (TYr.s MY0) E.2.2.2.2.1 (L := L) h2 hi (by omega) hty
            rw [if_neg (by rw [i_le, h1.clock]; simp only [Int32.reduceToInt]; omega), if_neg (by rw [i_le, h2.clock]; simp only [Int32.reduceToInt]; omega), h483, E.1, xb1_some, k1, xb1_some, y1, xb2_some]
            exact ⟨M3, N2, L2, _, rfl, rfl, k2, y2, ho.tick c π, k4, y4⟩
          · rw [if_pos (by rw [i_le, h1.clock]; simp only [Int32.reduceToInt]; omega), if_pos (by rw [i_le, h2.clock]; simp only [Int32.reduceToInt]; omega)]
            exact ⟨M, N, L, s, rfl, rfl, h1, h2, ho, frL.rfl, frP.rfl⟩
