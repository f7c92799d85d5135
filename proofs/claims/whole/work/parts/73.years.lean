/-! years by chance -/
theorem HO.x {s : hs} (h : HO s) {z : Int} (hz : 0 ≤ z ∧ z ≤ 31062) : HO (up2 s 0 18 z) := by
  obtain ⟨G, hi⟩ := h.1
  exact ⟨h.1.x hz, h.2.1, h.2.2.wk hi (Wk.up (by decide) (by decide) (by decide))⟩
theorem anew_v {x : Int32} {z : Int} (hx : x.toInt = z) (hz : 0 ≤ z ∧ z ≤ 31062) : ((xremL ((x.toInt64 * (733 : Int64)) + (599 : Int64)) (31063 : Int64)).toInt32).toInt = (z * 733 + 599) % 31063 := by
  have e1 : (x.toInt64 * (733 : Int64)).toInt = z * 733 := by
    rw [Int64.toInt_mul, Int32.toInt_toInt64, hx, show Int64.toInt 733 = 733 from rfl]
    apply Int.bmod_eq_of_le <;> omega
  have e2 : (x.toInt64 * (733 : Int64) + 599).toInt = z * 733 + 599 := by
    rw [Int64.toInt_add, e1, show Int64.toInt 599 = 599 from rfl]
    apply Int.bmod_eq_of_le <;> omega
  have e3 : ((x.toInt64 * (733 : Int64) + 599) / 31063).toInt = (z * 733 + 599) / 31063 := by
    rw [Int64.toInt_div, e2, show Int64.toInt 31063 = 31063 from rfl, Int.tdiv_eq_ediv_of_nonneg (by omega)]
    apply Int.bmod_eq_of_le <;> omega
  have e4 : ((x.toInt64 * (733 : Int64) + 599) / 31063 * 31063).toInt = (z * 733 + 599) / 31063 * 31063 := by
    rw [Int64.toInt_mul, e3, show Int64.toInt 31063 = 31063 from rfl]
    apply Int.bmod_eq_of_le <;> omega
  have e5 : (xremL ((x.toInt64 * (733 : Int64)) + (599 : Int64)) (31063 : Int64)).toInt = (z * 733 + 599) % 31063 := by
    show ((x.toInt64 * (733 : Int64) + 599) - (x.toInt64 * (733 : Int64) + 599) / 31063 * 31063).toInt = _
    rw [Int64.toInt_sub, e2, e4, show z * 733 + 599 - (z * 733 + 599) / 31063 * 31063 = (z * 733 + 599) % 31063 by omega]
    apply Int.bmod_eq_of_le <;> omega
  rw [Int64.toInt_toInt32, e5]
  apply Int.bmod_eq_of_le <;> omega
/-- one thing that happens -/
theorem draw_both {MX0 MY0 : xm} {o : Option Nat} {π : hs → Nat → Bool} {κ : hs → Nat → Int} (E : Lnv MX0 MY0 o π κ) {M N : xm} {L : xn} {s : hs} (h1 : RX 1 M s) (h2 : RY N s) (ho : HO s) (hsx : sameX MX0 M) (h483 : M 483 = MX0 483) (hty : TYr MY0 N) {v : Int32} {z : Int} (hv : v.toInt = z) (hz : 0 ≤ z ∧ z ≤ 31062) : ∃ M' N' L' s', f_X9_draw M v = some M' ∧ f_X10_happens N L v = some (N', L') ∧ RX 1 M' s' ∧ RY N' s' ∧ HO s' ∧ frL 1 M M' ∧ frP N N' := by
  have ho' := ho
  obtain ⟨⟨G, hi⟩, hc, hrw⟩ := ho'
  have ok := hi.1
  have l := hi.2.1
  have d6 := i_div hv (y := 6) (b := 6) rfl hz.1 (by omega) (by omega)
  have m6 := i_rem hv (y := 6) (b := 6) rfl hz.1 (by omega) (by omega)
  have m5 := i_rem hv (y := 5) (b := 5) rfl hz.1 (by omega) (by omega)
  have m4 := i_rem hv (y := 4) (b := 4) rfl hz.1 (by omega) (by omega)
  have m3 := i_rem hv (y := 3) (b := 3) rfl hz.1 (by omega) (by omega)
  have m2 := i_rem hv (y := 2) (b := 2) rfl hz.1 (by omega) (by omega)
  have q6 := i_rem d6 (y := 6) (b := 6) rfl (by omega) (by omega) (by omega)
  have q4 := i_rem d6 (y := 4) (b := 4) rfl (by omega) (by omega) (by omega)
  have q3 := i_rem d6 (y := 3) (b := 3) rfl (by omega) (by omega) (by omega)
  unfold f_X9_draw f_X10_happens
  simp only [xlet_eq]
  have z0 : (0 : Int32).toInt = 0 := rfl
  by_cases c0 : z % 6 = 0
  · rw [if_pos (c := xrem v 6 = 0) (by rw [i_eq, m6]; exact c0), if_pos (c := xrem v 6 = 0) (by rw [i_eq, m6]; exact c0)]
    have r0 : (xrem v 5).toInt = (((z % 5).toNat : Nat) : Int) := by rw [m5]; omega
    have n0 : (xrem (v / 6) 4).toInt = (((z / 6 % 4).toNat : Nat) : Int) := by rw [q4]; omega
    have sz : (xrem (v / 6) 4 + 1).toInt = (((z / 6 % 4).toNat + 1 : Nat) : Int) := by rw [i_add n0 (b := 1) rfl (by omega) (by omega)]; omega
    obtain ⟨u1, u2⟩ := x_makeObject h1 ok l (a := xrem v 5) (b := xrem (v / 6) 4) r0 (by omega) n0 (by omega)
    rw [y_hasRoom h2 ok (n := (z / 6 % 4).toNat + 1) (u := 0) (b := 9) sz (by omega) rfl (by omega), xb1_some]
    by_cases rm : sRoom s 0 ((z / 6 % 4).toNat + 1)
    · obtain ⟨w, M1, w1, w2, w3, w4⟩ := u1 rm
      obtain ⟨w', N1, t1, t2, t3, t4⟩ := y_makeNow h2 ok l (a := xrem v 5) (b := xrem (v / 6) 4) r0 (by omega) n0 (by omega) rm
      rw [w1, xb2_some, if_pos rm, if_neg n10, t1, xb2_some]
      exact ⟨M1, N1, L, _, rfl, rfl, w3, t3, ⟨hi.make (by omega) rm, by rw [sMake_17]; exact hc, hrw.wk hi (Wk.make ok l (by omega) rm)⟩, w4.l, t4.p⟩
    · rw [u2 rm, xb2_some, if_neg rm, if_pos rfl]
      exact ⟨M, N, L, s, rfl, rfl, h1, h2, ho, frL.rfl, frP.rfl⟩
  · rw [if_neg (c := xrem v 6 = 0) (by rw [i_eq, m6]; exact c0), if_neg (c := xrem v 6 = 0) (by rw [i_eq, m6]; exact c0)]
    by_cases c1 : z % 6 = 1
    · rw [if_pos (c := xrem v 6 = 1) (by rw [i_eq, m6]; exact c1), if_pos (c := xrem v 6 = 1) (by rw [i_eq, m6]; exact c1)]
      have ra : ((4 : Int32) + xrem v 2).toInt = 4 + z % 2 := i_add (a := 4) rfl m2 (by omega) (by omega)
      obtain ⟨s1, s2⟩ := x_loadField h1 hi (a := 4 + xrem v 2) (b := xrem v 4) (c := xrem (v / 6) 3)
      rw [y_canLoad h2 hi, xb1_some]
      by_cases g : (0 ≤ ((4 : Int32) + xrem v 2).toInt ∧ ((4 : Int32) + xrem v 2).toInt ≤ 5) ∧ sFAx s (xrem v 4).toInt (xrem (v / 6) 3).toInt ≠ -1 ∧ sMendV s (s 1 (sFAx s (xrem v 4).toInt (xrem (v / 6) 3).toInt).toNat) ≠ -2
      · obtain ⟨r, M3, k1, k2, k3, k4⟩ := s1 g
        have f0 := g.2.1
        have ef : sFAx s (xrem v 4).toInt (xrem (v / 6) 3).toInt = sFA s (xrem v 4).toInt.toNat (xrem (v / 6) 3).toInt := by unfold sFAx; rw [if_pos (by rw [m4]; omega)]
        have f1 : sFA s (xrem v 4).toInt.toNat (xrem (v / 6) 3).toInt ≠ -1 := by rw [← ef]; exact f0
        obtain ⟨w, w1, w2, w3, w4⟩ := fieldFacts hi (r := (xrem v 4).toInt.toNat) (by rw [m4]; omega) f1
        have ew : sFAx s (xrem v 4).toInt (xrem (v / 6) 3).toInt = w := by rw [ef, w1]
        rw [ew, Int.toNat_natCast] at k2 k3
        have gm := g.2.2
        rw [ew, Int.toNat_natCast] at gm
        obtain ⟨t, ht0⟩ : ∃ t : Nat, ((4 : Int32) + xrem v 2).toInt = t := ⟨((4 : Int32) + xrem v 2).toInt.toNat, by rw [ra]; omega⟩
        rw [ht0, Int.toNat_natCast] at k3
        obtain ⟨v', N2, y1, y2, y3, y4⟩ := y_loadNow h2 hi (a := 4 + xrem v 2) (b := xrem v 4) (c := xrem (v / 6) 3) (r := t) (w := w) ht0 (by omega) w2 ew w4 w3 gm
        rw [k1, xb2_some, if_pos g, if_neg n10, y1, xb2_some]
        have ho2 : HO (sLoad s t w) := ⟨hi.load w2 w3 w4 gm, by
          have : sLoad s t w 0 17 = s 0 17 := by
            unfold sLoad; rw [up2_ap, if_neg (by omega), sMW_0 (by decide)]
          rw [this]; exact hc, hrw.wk hi ((Wk.mw hi w2 w3 w4).tr (Wk.up (by decide) (by decide) (by decide)))⟩
        exact ⟨M3, N2, L, _, rfl, rfl, k3, y3, ho2, k4.l, y4.p⟩
      · obtain ⟨M3, k1, k2, k3⟩ := s2 g
        rw [k1, xb2_some, if_neg g, if_pos rfl]
        exact ⟨M3, N, L, s, rfl, rfl, k2, h2, ho, k3.l, frP.rfl⟩
    · rw [if_neg (c := xrem v 6 = 1) (by rw [i_eq, m6]; exact c1), if_neg (c := xrem v 6 = 1) (by rw [i_eq, m6]; exact c1)]
      have hq : (xrem (v / 6) 6).toInt = (((z / 6 % 6).toNat : Nat) : Int) := by rw [q6]; omega
      have q5 : (z / 6 % 6).toNat < 6 := by omega
      by_cases c2 : z % 6 = 2
      · rw [if_pos (c := xrem v 6 = 2) (by rw [i_eq, m6]; exact c2), if_pos (c := xrem v 6 = 2) (by rw [i_eq, m6]; exact c2)]
        obtain ⟨s1, s2⟩ := x_storeField h1 hi (a := xrem v 4) (b := xrem v 3) (c := xrem (v / 6) 6)
        obtain ⟨x, x1, x2⟩ := y_fieldAt h2 ok l (a := xrem v 4) (b := xrem v 3)
        rw [x1, xb1_some, xb1_some]
        by_cases f0 : sFAx s (xrem v 4).toInt (xrem v 3).toInt = -1
        · rw [s2 (fun q => q.1 f0), xb2_some, if_pos (by rw [i_eq, x2, f0]; rfl)]
          exact ⟨M, N, L, s, rfl, rfl, h1, h2, ho, frL.rfl, frP.rfl⟩
        · obtain ⟨M3, k1, k2, k3⟩ := s1 ⟨f0, by rw [hq]; omega⟩
          have ef : sFAx s (xrem v 4).toInt (xrem v 3).toInt = sFA s (xrem v 4).toInt.toNat (xrem v 3).toInt := by unfold sFAx; rw [if_pos (by rw [m4]; omega)]
          rw [ef] at f0 x2 k2
          obtain ⟨w, w1, w2, w3, w4⟩ := fieldFacts hi (r := (xrem v 4).toInt.toNat) (by rw [m4]; omega) f0
          rw [w1] at x2
          rw [w1, Int.toNat_natCast, hq, Int.toNat_natCast] at k2
          have e := yx 29 (b := 29) rfl hq (by omega)
          have e' := yx 41 (b := 41) rfl x2 (by omega)
          rw [k1, xb2_some, if_neg (by rw [i_eq, x2]; simp only [Int32.reduceToInt]; omega), if_pos e.1, if_pos e'.1, e.2, e'.2]
          have hy : RY (up2 N 1 (41 + w) (N 1 (29 + (z / 6 % 6).toNat))) (up2 s 1 w (s 8 (z / 6 % 6).toNat)) := RY.up h2 (k := 1) (i := w) (yd_i w2 (by decide) (by decide)) (by decide) (h2.r q5)
          exact ⟨M3, _, L, _, rfl, rfl, k2, hy, ⟨hi.store q5 w2 w3, hc, hrw.wk hi (Wk.store w3 (ok.r q5))⟩, k3.l, (frY.up (by omega)).p⟩
      · rw [if_neg (c := xrem v 6 = 2) (by rw [i_eq, m6]; exact c2), if_neg (c := xrem v 6 = 2) (by rw [i_eq, m6]; exact c2)]
        by_cases c3 : z % 6 = 3
        · rw [if_pos (c := xrem v 6 = 3) (by rw [i_eq, m6]; exact c3), if_pos (c := xrem v 6 = 3) (by rw [i_eq, m6]; exact c3)]
          by_cases c4 : z % 4 = 1
          · have e := yx 29 (b := 29) rfl hq (by omega)
            rw [if_pos (c := xrem v 4 = 1) (by rw [i_eq, m4]; exact c4), if_pos (c := xrem v 4 = 1) (by rw [i_eq, m4]; exact c4), f_isRoot_eq, if_pos (c := 0 ≤ (xrem (v / 6) 6).toInt ∧ (xrem (v / 6) 6).toInt < 6) (by rw [hq]; omega), if_neg n10, if_pos (i_in hq q5), i_ix hq, if_pos e.1, e.2]
            exact ⟨_, _, L, up2 s 8 (z / 6 % 6).toNat (-1), rfl, rfl, h1.up (k := 8) (by decide) rfl, RY.up h2 (k := 8) (i := (z / 6 % 6).toNat) (yd_i q5 (by decide) (by decide)) (by decide) rfl, ⟨⟨G, hi.root (by omega) (Or.inl rfl) (fun _ => Or.inl rfl)⟩, hc, hrw.wk hi (Wk.up (by decide) (by decide) (by decide))⟩, (frX.up (k := 8) (by decide)).l, (frY.up (by omega)).p⟩
          · rw [if_neg (c := xrem v 4 = 1) (by rw [i_eq, m4]; exact c4), if_neg (c := xrem v 4 = 1) (by rw [i_eq, m4]; exact c4)]
            exact ⟨M, N, L, s, rfl, rfl, h1, h2, ho, frL.rfl, frP.rfl⟩
        · rw [if_neg (c := xrem v 6 = 3) (by rw [i_eq, m6]; exact c3), if_neg (c := xrem v 6 = 3) (by rw [i_eq, m6]; exact c3)]
          by_cases c : s 0 17 < 9999
          · obtain ⟨M3, k1, k2, k3, k4⟩ := x_tick (by omega) (sameX.s MX0) (E.2.2.2.1 1 (by omega)) E.2.1 h1 hi (by omega) hsx
            obtain ⟨N2, L2, y1, y2, y3, y4⟩ := y_tick (TYr.s MY0) E.2.2.2.2.1 (L := L) h2 hi (by omega) hty
            rw [if_neg (by rw [i_le, h1.clock]; simp only [Int32.reduceToInt]; omega), if_neg (by rw [i_le, h2.clock]; simp only [Int32.reduceToInt]; omega), h483, E.1, xb1_some, k1, xb1_some, y1, xb2_some]
            exact ⟨M3, N2, L2, _, rfl, rfl, k2, y2, ho.tick c π, k4, y4⟩
          · rw [if_pos (by rw [i_le, h1.clock]; simp only [Int32.reduceToInt]; omega), if_pos (by rw [i_le, h2.clock]; simp only [Int32.reduceToInt]; omega)]
            exact ⟨M, N, L, s, rfl, rfl, h1, h2, ho, frL.rfl, frP.rfl⟩
theorem years_loop {MX0 MY0 : xm} {o : Option Nat} {π : hs → Nat → Bool} {κ : hs → Nat → Int} (E : Lnv MX0 MY0 o π κ) {a : Int32} {n : Nat} (ha : a.toInt = (n : Int)) (hn : n ≤ 40) : ∀ (d i f g : Nat) (M N : xm) (L : xn) (s : hs) (x : Int32), i + d = n → d < f → d < g → RX 1 M s → RY N s → HO s → sameX MX0 M → M 483 = MX0 483 → TYr MY0 N → x.toInt = (i : Int) → ∃ M' N' L' s', g_X9_years_58 a f M x = some M' ∧ g_X10_years_42 a g N L x = some (N', L') ∧ RX 1 M' s' ∧ RY N' s' ∧ HO s' ∧ frL 1 M M' ∧ frP N N' := by
  intro d
  induction d with
  | zero =>
    intro i f g M N L s x hi hf hg h1 h2 ho hsx h483 hty hx
    obtain ⟨f, rfl⟩ : ∃ q, f = q + 1 := ⟨f - 1, by omega⟩
    obtain ⟨g, rfl⟩ : ∃ q, g = q + 1 := ⟨g - 1, by omega⟩
    unfold g_X9_years_58 g_X10_years_42
    rw [if_pos (by rw [i_le, ha, hx]; omega), if_pos (by rw [i_le, ha, hx]; omega)]
    exact ⟨M, N, L, s, rfl, rfl, h1, h2, ho, frL.rfl, frP.rfl⟩
  | succ d ih =>
    intro i f g M N L s x hi hf hg h1 h2 ho hsx h483 hty hx
    obtain ⟨f, rfl⟩ : ∃ q, f = q + 1 := ⟨f - 1, by omega⟩
    obtain ⟨g, rfl⟩ : ∃ q, g = q + 1 := ⟨g - 1, by omega⟩
    have rx := ho.ok.x
    have e1 : M 1 18 = N 1 5 := i_inj h1.x h2.x
    have v1 : (xrem (((N 1 5) * (733 : Int32)) + (599 : Int32)) (31063 : Int32)).toInt = (s 0 18 * 733 + 599) % 31063 :=
      i_rem (i_add (i_mul h2.x (b := 733) rfl (by omega) (by omega)) (b := 599) rfl (by omega) (by omega)) (b := 31063) rfl (by omega) (by omega) (by omega)
    have v2 := anew_v h2.x rx
    have k1 : RX 1 (up2 M 1 18 (xrem (((N 1 5) * (733 : Int32)) + (599 : Int32)) (31063 : Int32))) (up2 s 0 18 ((s 0 18 * 733 + 599) % 31063)) := h1.up (k := 0) (i := 18) (by decide) v1
    have k2 : RY (up2 N 1 5 ((xremL (((N 1 5).toInt64 * (733 : Int64)) + (599 : Int64)) (31063 : Int64)).toInt32)) (up2 s 0 18 ((s 0 18 * 733 + 599) % 31063)) := RY.up h2 (k := 0) (i := 18) (by decide) (by decide) v2
    have k3 : HO (up2 s 0 18 ((s 0 18 * 733 + 599) % 31063)) := ho.x (by omega)
    have f1 : frL 1 M (up2 M 1 18 (xrem (((N 1 5) * (733 : Int32)) + (599 : Int32)) (31063 : Int32))) := (frX.up (k := 0) (by decide)).l
    have f2 : frP N (up2 N 1 5 ((xremL (((N 1 5).toInt64 * (733 : Int64)) + (599 : Int64)) (31063 : Int64)).toInt32)) := (frY.up (by omega)).p
    obtain ⟨M1, N1, L1, s1, p1, p2, p3, p4, p5, p6, p7⟩ := draw_both E (L := L) k1 k2 k3 (fun q hq => (f1 q (by omega) (by omega) (by omega)).trans (hsx q hq)) ((f1 483 (by omega) (by omega) (by omega)).trans h483) ⟨(f2.1 3 (by decide) (by decide) (by decide)).trans hty.1, (f2.2 1 (by omega)).trans hty.2⟩ h2.x rx
    have f3 := frL.tr f1 p6
    have f4 := frP.tr f2 p7
    obtain ⟨M', N', L', s', r1, r2, r3, r4, r5, r6, r7⟩ := ih (i + 1) f g M1 N1 L1 s1 (x + 1) (by omega) (by omega) (by omega) p3 p4 p5 (fun q hq => by
      by_cases c : q = 1004 ∨ q = 1005
      · omega
      · exact (f3 q (by omega) (by omega) (by omega)).trans (hsx q hq)) ((f3 483 (by omega) (by omega) (by omega)).trans h483) ⟨(f4.1 3 (by decide) (by decide) (by decide)).trans hty.1, (f4.2 1 (by omega)).trans hty.2⟩ (by rw [i_add hx (b := 1) rfl (by omega) (by omega)]; omega)
    unfold g_X9_years_58 g_X10_years_42 f_X10_anew
    simp only [xlet_eq, xb1_some]
    rw [if_neg (by rw [i_le, ha, hx]; omega), if_neg (by rw [i_le, ha, hx]; omega), e1, p1, xb1_some, p2, xb2_some]
    exact ⟨M', N', L', s', r1, r2, r3, r4, r5, frL.tr f3 r6, frP.tr f4 r7⟩
theorem s_years : sim_years Rel := by
  intro MX MY LY a0 b0 h
  have hr := h
  obtain ⟨nt, nti, ⟨s, St, n, ru, sd, sp, sk, hs⟩, _, _, _, lw⟩ := h
  have ⟨a1, a2, a3, a4, a5, a6, a7, a8, a9⟩ := hs
  obtain ⟨ot, π, κ, E⟩ := law_now a7 a8 a9 lw
  unfold f_X9_years f_X10_years
  rw [yIn, yIn]
  have z0 : (0 : Int32).toInt = 0 := rfl
  have z1 : (1 : Int32).toInt = 1 := rfl
  have z4 : (40 : Int32).toInt = 40 := rfl
  have z9 : (9999 : Int32).toInt = 9999 := rfl
  rw [z0, z1, z4, z9]
  by_cases c : 0 ≤ a0.toInt ∧ a0.toInt ≤ 9999
  · rw [if_pos c, if_neg n10, if_neg (by rw [i_lt, z0]; omega), if_neg (by rw [i_lt, z9]; omega)]
    by_cases d : 1 ≤ b0.toInt ∧ b0.toInt ≤ 40
    · obtain ⟨k, hk⟩ : ∃ k : Nat, b0.toInt = k := ⟨b0.toInt.toNat, by omega⟩
      obtain ⟨M1, M2, N1, p1, p2, p3, p4, p5, p6, p7, p8, p9, p10, p11, p12⟩ := kept hs
      have w : ((a0 * 2) + 463).toInt = a0.toInt * 2 + 463 := i_add (i_mul (x := a0) rfl (b := 2) rfl (by omega) (by omega)) (b := 463) rfl (by omega) (by omega)
      have k1 : RX 1 (up2 M2 1 18 ((a0 * 2) + 463)) (up2 s 0 18 (a0.toInt * 2 + 463)) := p6.up (k := 0) (i := 18) (by decide) w
      have k2 : RY (up2 N1 1 5 ((a0 * 2) + 463)) (up2 s 0 18 (a0.toInt * 2 + 463)) := RY.up p7 (k := 0) (i := 18) (by decide) (by decide) w
      have k3 : HO (up2 s 0 18 (a0.toInt * 2 + 463)) := a3.x (by omega)
      have f1 : frL 1 M2 (up2 M2 1 18 ((a0 * 2) + 463)) := (frX.up (k := 0) (by decide)).l
      have f2 : frP N1 (up2 N1 1 5 ((a0 * 2) + 463)) := (frY.up (by omega)).p
      obtain ⟨M', N', L', s', r1, r2, r3, r4, r5, r6, r7⟩ := years_loop E hk (by omega) k 0 xfuel xfuel _ _ LY _ 0 (by omega) (by unfold xfuel; omega) (by unfold xfuel; omega) k1 k2 k3 (fun q hq => (f1 q (by omega) (by omega) (by omega)).trans (p10 q (by omega))) ((f1 483 (by omega) (by omega) (by omega)).trans (p10 483 (by omega))) ⟨(f2.1 3 (by decide) (by decide) (by decide)).trans (p11 3 (by decide)), (f2.2 1 (by omega)).trans (p12 1 (by omega) (by omega))⟩ rfl
      have f3 := frL.tr f1 r6
      have f4 := frP.tr f2 r7
      rw [if_pos d, if_neg n10, if_neg (by rw [i_lt, z1]; omega), if_pos (by rw [i_le, z4]; omega), p1, xb1_some, p2, xb1_some, xlet_eq, r1, xb1_some, p3, xb1_some, xlet_eq, r2, xb2_some, i_inj r3.clock r4.clock]
      refine ⟨_, M', N', L', rfl, rfl, ?_⟩
      refine hr.done nt (fun nt' h' => (Snp.of hs).nt h') (Snp.of (p8.heap r3 r4 r5 f3 f4)) (fun q hq => (f3 q (by omega) (by omega) (by omega)).trans (p10 q (by omega))) (fun q hq => (f4.1 q (by omega) (by omega) (by omega)).trans (p11 q (by omega)))
    · rw [if_neg d, if_pos rfl]
      refine ⟨-1, MX, MY, LY, ?_, rfl, hr⟩
      by_cases e : b0.toInt < 1
      · rw [if_pos (by rw [i_lt, z1]; exact e)]
      · rw [if_neg (by rw [i_lt, z1]; exact e), if_neg (by rw [i_le, z4]; omega)]
  · rw [if_neg c, if_pos rfl]
    refine ⟨-1, MX, MY, LY, ?_, rfl, hr⟩
    by_cases e : a0.toInt < 0
    · rw [if_pos (by rw [i_lt, z0]; exact e)]
    · rw [if_neg (by rw [i_lt, z0]; exact e), if_pos (by rw [i_lt, z9]; omega)]
