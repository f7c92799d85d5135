/-! the same, with the number of texts kept in sight -/
def RelN (nt : Nat) (MX MY : xm) (_ : xn) : Prop := ∃ nti : Nat, Sna 1 16 483 MX (MY 1) nt ∧ Sna 486 501 968 MX (MY 2) nti ∧ nti ≤ nt ∧ Tap MX MY ∧ ∀ t, t < nt → Tx MX MY t
theorem RelN.done {nt : Nat} {MX MY MX' MY' : xm} {LY LY' : xn} (h : RelN nt MX MY LY) (nt1 : Nat) (hn : ∀ nt', Sna 1 16 483 MX (MY 1) nt' → nt' = nt1) (hs : Sna 1 16 483 MX' (MY' 1) nt1) (hx : ∀ q, (486 ≤ q ∧ q < 971) ∨ q = 990 ∨ q = 991 ∨ 1006 ≤ q → MX' q = MX q) (hy : ∀ q, q = 0 ∨ q = 2 ∨ q = 3 ∨ q = 4 → MY' q = MY q) : RelN nt MX' MY' LY' := by
  obtain ⟨nti, a1, a2, a3, a4, a5⟩ := h
  obtain rfl := hn nt a1
  refine ⟨nti, hs, ?_, a3, a4.fr (hx 990 (by omega)) (hx 991 (by omega)) (hy 0 (by omega)) (hy 4 (by omega)), fun t ht => (a5 t ht).fr (fun q hq => hx q (by omega)) (hy 3 (by omega))⟩
  rw [hy 2 (by omega)]
  exact a2.fr (fun q _ _ => hx q (by omega)) (fun q _ _ => hx q (by omega)) (fun q _ _ => hx q (by omega))
theorem RelN.prep {nt0 : Nat} {MX MY : xm} {LY : xn} {nt : Nat} {s : hs} {St : Nat → hs} {n : Nat} {ru : Int} {sd : Nat} {sp sk : Nat → Int} (h : RelN nt0 MX MY LY) (hs : Snp 1 16 483 MX (MY 1) nt s St n ru sd sp sk) {M : xm} (h1 : RX 1 M s) (h2 : StX 16 M St n) (h3 : ∀ q, (q < 16 ∨ 483 ≤ q) → (q < 1 ∨ 16 ≤ q) → M q = MX q) : RelN nt0 M MY LY := by
  obtain ⟨a1, a2, a3, a4, a5, a6, a7, a8, a9⟩ := hs
  refine h.done nt (fun nt' h' => (Snp.of ⟨a1, a2, a3, a4, a5, a6, a7, a8, a9⟩).nt h') ?_ (fun q hq => h3 q (by omega) (by omega)) (fun q _ => rfl)
  exact Snp.of ⟨h1, a2, a3, h2, a5, a6, a7.fr (fun q _ _ => h3 q (by omega) (by omega)), a8, a9⟩
theorem RelN.law {nt : Nat} {MX MY MX' MY' : xm} {LY LY' : xn} (h : RelN nt MX MY LY) (fx : ∀ q, q ≠ 1004 → q ≠ 1005 → MX' q = MX q) (fy : ∀ q, q ≠ 6 → q ≠ 8 → MY' q = MY q) : RelN nt MX' MY' LY' := by
  have a1 := h
  obtain ⟨nti, a1, _⟩ := a1
  refine h.done nt (fun nt' h' => a1.nt h') ?_ (fun q hq => fx q (by omega) (by omega)) (fun q hq => fy q (by omega) (by omega))
  rw [fy 1 (by decide) (by decide)]
  exact a1.fr (fun q _ _ => fx q (by omega) (by omega)) (fun q _ _ => fx q (by omega) (by omega)) (fun q _ _ => fx q (by omega) (by omega))
theorem n_drop (nt : Nat) : sim_drop (RelN nt) := by
  intro MX MY LY a0 h
  have hr := h
  obtain ⟨nti, ⟨s, St, n, ru, sd, sp, sk, hs⟩, _⟩ := h
  have ⟨a1, a2, ⟨⟨G, hi⟩, hc, hrw⟩, a4, a5, a6, a7, a8, a9⟩ := hs
  unfold f_X9_drop f_X10_drop
  rw [f_isRoot_eq, yRoot]
  by_cases c : 0 ≤ a0.toInt ∧ a0.toInt ≤ 5
  · obtain ⟨r, hr0⟩ : ∃ r : Nat, a0.toInt = r := ⟨a0.toInt.toNat, by omega⟩
    have r6 : r < 6 := by omega
    have e := yx 29 (b := 29) rfl hr0 (by omega)
    rw [if_pos (c := 0 ≤ a0.toInt ∧ a0.toInt < 6) (by omega), if_neg n10, if_pos (i_in hr0 (by omega)), i_ix hr0, if_pos c, if_neg n10, if_pos e.1, e.2]
    by_cases c1 : s 8 r = -1
    · rw [if_pos (by rw [i_eq, a1.r r6, c1]; rfl), if_pos (by rw [i_eq, a2.r r6, c1]; rfl)]
      exact ⟨_, MX, MY, rfl, rfl, hr⟩
    · obtain ⟨M1, M2, N1, p1, p2, p3, p4, p5, p6, p7, p8, p9, p10, p11, p12⟩ := kept hs
      rw [if_neg (by rw [i_eq, a1.r r6]; exact c1), if_neg (by rw [i_eq, a2.r r6]; exact c1), p1, xb1_some, p2, xb1_some, p3, xb1_some, xlet_eq, xlet_eq]
      refine ⟨_, _, _, rfl, rfl, ?_⟩
      refine hr.done nt (fun nt' h' => (Snp.of hs).nt h') ?_ (fun q hq => (up2_cell (by omega)).trans (p10 q (by omega))) (fun q hq => (up2_cell (by omega)).trans (p11 q (by omega)))
      exact Snp.of (p8.heap (s' := up2 s 8 r (-1)) (p6.up (k := 8) (by decide) rfl) (RY.up p7 (k := 8) (i := r) (yd_i r6 (by decide) (by decide)) (by decide) rfl) ⟨⟨G, hi.root (by omega) (Or.inl rfl) (fun _ => Or.inl rfl)⟩, hc, hrw.wk hi (Wk.up (by decide) (by decide) (by decide))⟩ (frX.up (k := 8) (by decide)).l (frY.up (by omega)).p)
  · rw [if_neg (c := 0 ≤ a0.toInt ∧ a0.toInt < 6) (by omega), if_pos rfl, if_neg c, if_pos rfl]
    exact ⟨_, MX, MY, rfl, rfl, hr⟩
theorem n_store (nt : Nat) : sim_store (RelN nt) := by
  intro MX MY LY a0 b0 c0 h
  have hr := h
  obtain ⟨nti, ⟨s, St, n, ru, sd, sp, sk, hs⟩, _⟩ := h
  have ⟨a1, a2, ⟨⟨G, hi⟩, hc, hrw⟩, a4, a5, a6, a7, a8, a9⟩ := hs
  have o := hi.1
  have l := hi.2.1
  obtain ⟨x, x1, x2⟩ := y_fieldAt a2 o l (a := a0) (b := b0)
  unfold f_X9_store f_X10_store
  rw [f_isRoot_eq, yRoot, x1, xb1_some]
  obtain ⟨M1, M2, N1, p1, p2, p3, p4, p5, p6, p7, p8, p9, p10, p11, p12⟩ := kept hs
  by_cases d : 0 ≤ c0.toInt ∧ c0.toInt ≤ 5
  · obtain ⟨s1, s2⟩ := x_storeField p4 hi (a := a0) (b := b0) (c := c0)
    rw [if_pos (c := 0 ≤ c0.toInt ∧ c0.toInt < 6) (by omega), if_neg n10, if_pos d, if_neg n10, p1, xb1_some]
    by_cases f0 : sFAx s a0.toInt b0.toInt = -1
    · rw [s2 (fun q => q.1 f0), xb2_some, if_pos rfl, if_pos (by rw [i_eq, x2, f0]; rfl)]
      exact ⟨_, M1, MY, rfl, rfl, hr.prep hs p4 p5.1 (fun q q1 _ => p9 q q1)⟩
    · obtain ⟨M3, k1, k2, k3⟩ := s1 ⟨f0, d⟩
      have p5' : PrX 16 M3 St n s := p5.fr (fun q _ _ => k3 q (by omega))
      obtain ⟨M4, m1, m2, m3⟩ := x_keep p5'
      have cb : 0 ≤ a0.toInt ∧ a0.toInt ≤ 5 := by
        by_cases q : 0 ≤ a0.toInt ∧ a0.toInt ≤ 5
        · exact q
        · exact absurd (by unfold sFAx; rw [if_neg q]) f0
      have ef : sFAx s a0.toInt b0.toInt = sFA s a0.toInt.toNat b0.toInt := by unfold sFAx; rw [if_pos cb]
      rw [ef] at f0 x2 k2
      obtain ⟨w, w1, w2, w3, w4⟩ := fieldFacts hi (r := a0.toInt.toNat) (by omega) f0
      rw [w1] at x2
      rw [w1, Int.toNat_natCast] at k2
      obtain ⟨t, ht0⟩ : ∃ t : Nat, c0.toInt = t := ⟨c0.toInt.toNat, by omega⟩
      have t6 : t < 6 := by omega
      rw [ht0, Int.toNat_natCast] at k2
      have e := yx 29 (b := 29) rfl ht0 (by omega)
      have e' := yx 41 (b := 41) rfl x2 (by omega)
      rw [k1, xb2_some, if_neg n10, m1, xb1_some, if_neg (by rw [i_eq, x2]; simp only [Int32.reduceToInt]; omega), p3, xb1_some, if_pos e.1, if_pos e'.1, e.2, e'.2, xlet_eq]
      refine ⟨_, _, _, rfl, rfl, ?_⟩
      refine hr.done nt (fun nt' h' => (Snp.of hs).nt h') ?_ (fun q hq => (m3 q (by omega)).trans ((k3 q (by omega)).trans (p9 q (by omega)))) (fun q hq => (up2_cell (by omega)).trans (p11 q (by omega)))
      have hy : RY (up2 N1 1 (41 + w) (N1 1 (29 + t))) (up2 s 1 w (s 8 t)) := RY.up p7 (k := 1) (i := w) (yd_i w2 (by decide) (by decide)) (by decide) (p7.r t6)
      obtain ⟨q1, q2, q3, q4, q5, q6, q7, q8, q9⟩ := p8
      have fy : frP N1 (up2 N1 1 (41 + w) (N1 1 (29 + t))) := (frY.up (by omega)).p
      refine Snp.of (St := kSt St n s) ⟨k2.fr (fun q _ _ => m3 q (by omega)), hy, ⟨hi.store t6 w2 w3, hc, hrw.wk hi (Wk.store w3 (o.r t6))⟩, m2, ⟨q5.1, by rw [fy.2 2 (by omega)]; exact q5.2.1, fun i hi => ?_⟩, q6, a7.fr (fun q _ _ => (m3 q (by omega)).trans ((k3 q (by omega)).trans (p9 q (by omega)))), q8.fr q9.2.2.1 (fun j j1 j2 => fy.2 j (by omega)) (fun j j1 j2 => fy.2 j (by omega)), q9⟩
      refine (q5.2.2 i hi).fr (q6 i hi).ok (fun j j1 j2 => ?_)
      unfold rwY
      exact fy.2 _ (by omega)
  · rw [if_neg (c := 0 ≤ c0.toInt ∧ c0.toInt < 6) (by omega), if_pos rfl, if_neg d, if_pos rfl]
    refine ⟨0, MX, MY, rfl, ?_, hr⟩
    split <;> rfl
theorem n_load (nt : Nat) : sim_load (RelN nt) := by
  intro MX MY LY a0 b0 c0 h
  have hr := h
  obtain ⟨nti, ⟨s, St, n, ru, sd, sp, sk, hs⟩, _⟩ := h
  have ⟨a1, a2, ⟨⟨G, hi⟩, hc, hrw⟩, a4, a5, a6, a7, a8, a9⟩ := hs
  have o := hi.1
  have l := hi.2.1
  unfold f_X9_load f_X10_load
  rw [f_isRoot_eq, y_canLoad a2 hi, xb1_some]
  obtain ⟨M1, M2, N1, p1, p2, p3, p4, p5, p6, p7, p8, p9, p10, p11, p12⟩ := kept hs
  obtain ⟨s1, s2⟩ := x_loadField p4 hi (a := a0) (b := b0) (c := c0)
  by_cases d : 0 ≤ a0.toInt ∧ a0.toInt ≤ 5
  · rw [if_pos (c := 0 ≤ a0.toInt ∧ a0.toInt < 6) (by omega), if_neg n10, p1, xb1_some]
    by_cases g : (0 ≤ a0.toInt ∧ a0.toInt ≤ 5) ∧ sFAx s b0.toInt c0.toInt ≠ -1 ∧ sMendV s (s 1 (sFAx s b0.toInt c0.toInt).toNat) ≠ -2
    · obtain ⟨v, M3, k1, k2, k3, k4⟩ := s1 g
      have p5' : PrX 16 M3 St n s := p5.fr (fun q _ _ => k4 q (by omega))
      obtain ⟨M4, m1, m2, m3⟩ := x_keep p5'
      have f0 := g.2.1
      have cb : 0 ≤ b0.toInt ∧ b0.toInt ≤ 5 := by
        by_cases q : 0 ≤ b0.toInt ∧ b0.toInt ≤ 5
        · exact q
        · exact absurd (by unfold sFAx; rw [if_neg q]) f0
      have ef : sFAx s b0.toInt c0.toInt = sFA s b0.toInt.toNat c0.toInt := by unfold sFAx; rw [if_pos cb]
      have f1 : sFA s b0.toInt.toNat c0.toInt ≠ -1 := by rw [← ef]; exact f0
      obtain ⟨w, w1, w2, w3, w4⟩ := fieldFacts hi (r := b0.toInt.toNat) (by omega) f1
      have ew : sFAx s b0.toInt c0.toInt = w := by rw [ef, w1]
      rw [ew, Int.toNat_natCast] at k2 k3
      have gm := g.2.2
      rw [ew, Int.toNat_natCast] at gm
      obtain ⟨t, ht0⟩ : ∃ t : Nat, a0.toInt = t := ⟨a0.toInt.toNat, by omega⟩
      rw [ht0, Int.toNat_natCast] at k3
      obtain ⟨v', N2, y1, y2, y3, y4⟩ := y_loadNow p7 hi (a := a0) (b := b0) (c := c0) (r := t) (w := w) ht0 (by omega) w2 ew w4 w3 gm
      rw [k1, xb2_some, if_neg (by rw [i_eq, k2]; exact gm), m1, xb1_some, if_pos g, if_neg n10, p3, xb1_some, y1, xb2_some, i_inj k2 y2]
      refine ⟨_, M4, N2, rfl, rfl, ?_⟩
      refine hr.done nt (fun nt' h' => (Snp.of hs).nt h') ?_ (fun q hq => (m3 q (by omega)).trans ((k4 q (by omega)).trans (p9 q (by omega)))) (fun q hq => (y4.1 q (by omega)).trans (p11 q (by omega)))
      obtain ⟨q1, q2, q3, q4, q5, q6, q7, q8, q9⟩ := p8
      have ho : HO (sLoad s t w) := ⟨hi.load w2 w3 w4 gm, by
        have : sLoad s t w 0 17 = s 0 17 := by
          unfold sLoad; rw [up2_ap, if_neg (by omega), sMW_0 (by decide)]
        rw [this]; exact hc, hrw.wk hi ((Wk.mw hi w2 w3 w4).tr (Wk.up (by decide) (by decide) (by decide)))⟩
      refine Snp.of (St := kSt St n s) ⟨k3.fr (fun q _ _ => m3 q (by omega)), y3, ho, m2, ⟨q5.1, by rw [y4.2 2 (by omega)]; exact q5.2.1, fun i hi => ?_⟩, q6, a7.fr (fun q _ _ => (m3 q (by omega)).trans ((k4 q (by omega)).trans (p9 q (by omega)))), q8.fr q9.2.2.1 (fun j j1 j2 => y4.2 j (by omega)) (fun j j1 j2 => y4.2 j (by omega)), q9⟩
      refine (q5.2.2 i hi).fr (q6 i hi).ok (fun j j1 j2 => ?_)
      unfold rwY
      exact y4.2 _ (by omega)
    · obtain ⟨M3, k1, k2, k3⟩ := s2 g
      rw [k1, xb2_some, if_pos rfl, if_neg g, if_pos rfl]
      exact ⟨_, M3, MY, rfl, rfl, hr.prep hs k2 (p5.1.fr (fun q _ _ => k3 q (by omega))) (fun q q1 q2 => (k3 q (by omega)).trans (p9 q q1))⟩
  · rw [if_neg (c := 0 ≤ a0.toInt ∧ a0.toInt < 6) (by omega), if_pos rfl, if_neg (c := (0 ≤ a0.toInt ∧ a0.toInt ≤ 5) ∧ sFAx s b0.toInt c0.toInt ≠ -1 ∧ sMendV s (s 1 (sFAx s b0.toInt c0.toInt).toNat) ≠ -2) (fun q => d q.1), if_pos rfl]
    exact ⟨_, MX, MY, rfl, rfl, hr⟩
theorem n_make (nt : Nat) : ∀ (MX MY : xm) (LY : xn) (a0 : Int32) (a1 : Int32), RelN nt MX MY LY → ∃ (r : Int32) (MX' : xm) (MY' : xm) (LY' : xn), f_X9_make MX a0 a1 = some (r, MX') ∧ f_X10_make MY LY a0 a1 = some (r, MY', LY') ∧ (r = -1 ∨ 0 ≤ r.toInt) ∧ RelN nt MX' MY' LY' := by
  intro MX MY LY a0 b0 h
  have hr := h
  obtain ⟨nti, ⟨s, St, n, ru, sd, sp, sk, hs⟩, _, _, _, lw⟩ := h
  have ⟨a1, a2, a3, a4, a5, a6, a7, a8, a9⟩ := hs
  have ⟨⟨G, hi⟩, hc, hrw⟩ := a3
  obtain ⟨ot, π, κ, E⟩ := law_now a7 a8 a9 lw
  have o := hi.1
  have l := hi.2.1
  unfold f_X9_make f_X10_make
  rw [f_isRoot_eq, yRoot, yIn, E.1, xb1_some]
  have z0 : (0 : Int32).toInt = 0 := rfl
  have z3 : (3 : Int32).toInt = 3 := rfl
  rw [z0, z3]
  by_cases d : 0 ≤ a0.toInt ∧ a0.toInt ≤ 5
  · rw [if_pos (c := 0 ≤ a0.toInt ∧ a0.toInt < 6) (by omega), if_neg n10, if_pos d, if_neg n10]
    by_cases g : 0 ≤ b0.toInt ∧ b0.toInt ≤ 3
    · obtain ⟨r, hr0⟩ : ∃ r : Nat, a0.toInt = r := ⟨a0.toInt.toNat, by omega⟩
      obtain ⟨f, hf0⟩ : ∃ f : Nat, b0.toInt = f := ⟨b0.toInt.toNat, by omega⟩
      obtain ⟨v, M0, k1, k2, k3⟩ := E.2.2.2.2.2.1 MX s b0 f a1 o (fun _ _ => rfl) hf0 (by omega)
      have s0 : Snp 1 16 483 M0 (MY 1) nt s St n ru sd sp sk := ⟨a1.law (by omega) k3, a2, a3, a4.fr (fun q _ _ => k3 q (by omega) (by omega)), a5, a6, a7.fr (fun q _ _ => k3 q (by omega) (by omega)), a8, a9⟩
      obtain ⟨P1, P2, N1, p1, p2, p3, p4, p5, p6, p7, p8, p9, p10, p11, p12⟩ := kept s0
      obtain ⟨m1, m2⟩ := x_makeObject p4 o l (a := a0) (b := b0) (r := r) (n := f) hr0 (by omega) hf0 (by omega)
      have sz : (b0 + 1).toInt = ((f + 1 : Nat) : Int) := by rw [i_add hf0 (b := 1) rfl (by omega) (by omega)]; omega
      rw [if_neg (by rw [i_lt]; simp only [Int32.reduceToInt]; omega), if_pos (by rw [i_le]; simp only [Int32.reduceToInt]; omega), if_pos g, if_neg n10, k1, xb2_some, p1, xb1_some, y_hasRoom a2 o (n := f + 1) (u := 0) (b := 9) sz (by omega) rfl (by omega), xb1_some]
      by_cases rm : sRoom s 0 (f + 1)
      · obtain ⟨w, M3, w1, w2, w3, w4⟩ := m1 rm
        have p5' : PrX 16 M3 St n s := p5.fr (fun q _ _ => w4 q (by omega))
        obtain ⟨M4, q1, q2, q3⟩ := x_keep p5'
        obtain ⟨v', N0, L0, y1, y2, y3⟩ := E.2.2.2.2.2.2 MY LY s b0 f a2 o l.2.2.2.2.2.2 ⟨rfl, rfl⟩ hf0 (by omega)
        have r0 : N0 1 = MY 1 := y3 1 (by decide) (by decide)
        have h0 : RY N0 s := by show RYr (N0 1) s; rw [r0]; exact a2
        have st0 : StY (N0 1) St n := by rw [r0]; exact a5
        obtain ⟨N2, u1, u2, u3, u4, u5⟩ := y_keep h0 o st0 (fun i hi => (a6 i hi).ok)
        obtain ⟨w', N3, t1, t2, t3, t4⟩ := y_makeNow u2 o l (a := a0) (b := b0) (r := r) (n := f) hr0 (by omega) hf0 (by omega) rm
        have ho : HO (sMake s r f) := ⟨hi.make (by omega) rm, by rw [sMake_17]; exact hc, hrw.wk hi (Wk.make o l (by omega) rm)⟩
        have kr := E.2.2.1 s f
        have hv : v.toInt = (((κ s f).toNat : Nat) : Int) := by rw [k2]; omega
        have hv' : v' = v := i_inj y2 k2
        have fx4 : ∀ q, (483 ≤ q) → q ≠ 1004 → q ≠ 1005 → M4 q = MX q := fun q hq a b => (q3 q (by omega)).trans ((w4 q (by omega)).trans ((p9 q (by omega)).trans (k3 q a b)))
        have h4 : RX 1 M4 (sMake s r f) := w3.fr (fun q _ _ => q3 q (by omega))
        obtain ⟨M5, x1, x2, x3, x4⟩ := x_make_loop E (b := w) hv (by omega) (κ s f).toNat 0 xfuel M4 (sMake s r f) 0 (by omega) (by unfold xfuel; omega) h4 ho (fun q hq => fx4 q (by omega) (by omega) (by omega)) rfl
        have ty : TYr MY N3 := ⟨(t4.1 3 (by decide)).trans ((u4 3 (by decide)).trans (y3 3 (by decide) (by decide))), (t4.2 1 (by omega)).trans ((u5 1 (by omega) (by omega)).trans (by rw [r0]))⟩
        obtain ⟨N4, L4, z1, z2, z3, z4⟩ := y_make_loop E (b := w') hv (by omega) (κ s f).toNat 0 xfuel N3 L0 (sMake s r f) 0 (by omega) (by unfold xfuel; omega) t3 ho ty rfl
        rw [w1, xb2_some, if_neg (by rw [i_eq, w2]; simp only [Int32.reduceToInt]; omega), q1, xb1_some, x1, xb1_some, if_pos rm, if_neg n10, y1, xb3_some, u1, xb1_some, t1, xb2_some, hv', z1, xb2_some, i_inj w2 t2]
        refine ⟨_, M5, N4, L4, rfl, rfl, Or.inr (by rw [t2]; omega), ?_⟩
        have fy : frP N2 N4 := frP.tr t4.p z4
        refine hr.done nt (fun nt' h' => (Snp.of hs).nt h') ?_ (fun q hq => (x4 q (by omega) (by omega) (by omega)).trans (fx4 q (by omega) (by omega) (by omega))) (fun q hq => (fy.1 q (by omega) (by omega) (by omega)).trans ((u4 q (by omega)).trans (y3 q (by omega) (by omega))))
        have s2 : Snp 1 16 483 M4 (N3 1) nt (sMake s r f) (kSt St n s) (kN n) ru sd sp sk := by
          refine ⟨h4, t3, ho, q2, ⟨u3.1, by rw [t4.2 2 (by omega)]; exact u3.2.1, fun i hi => ?_⟩, HO_k a6 a3 a4.1, a7.fr (fun q _ _ => fx4 q (by omega) (by omega) (by omega)), a8.fr a9.2.2.1 (fun j j1 j2 => (t4.2 j (by omega)).trans ((u5 j (by omega) j2).trans (by rw [r0]))) (fun j j1 j2 => (t4.2 j (by omega)).trans ((u5 j (by omega) (by omega)).trans (by rw [r0]))), a9⟩
          refine (u3.2.2 i hi).fr (HO_k a6 a3 a4.1 i hi).ok (fun j j1 j2 => ?_)
          unfold rwY
          exact t4.2 _ (by omega)
        exact Snp.of (s2.heap x2 z2 (HO.ts _ _ ho) x4 z4)
      · rw [m2 rm, xb2_some, if_pos rfl, if_neg rm, if_pos rfl]
        refine ⟨_, P1, MY, LY, rfl, rfl, Or.inl rfl, ?_⟩
        have r0 : RelN nt M0 MY LY := hr.law k3 (fun _ _ _ => rfl)
        exact r0.prep s0 p4 p5.1 (fun q q1 _ => p9 q q1)
    · rw [if_neg g, if_pos rfl]
      refine ⟨-1, MX, MY, LY, ?_, rfl, Or.inl rfl, hr⟩
      by_cases c : b0.toInt < 0
      · rw [if_pos (by rw [i_lt]; exact c)]
      · rw [if_neg (by rw [i_lt]; exact c), if_neg (by rw [i_le]; simp only [Int32.reduceToInt]; omega)]
  · rw [if_neg (c := 0 ≤ a0.toInt ∧ a0.toInt < 6) (by omega), if_pos rfl, if_neg d, if_pos rfl]
    exact ⟨_, MX, MY, LY, rfl, rfl, Or.inl rfl, hr⟩
theorem xopt_at {β : Type} {a : β} {q : Nat} {k : Nat → β} : xopt (some q) a k = k q := rfl
theorem n_pass {nt : Nat} {MX MY : xm} {LY : xn} (h : RelN nt MX MY LY) {a : Int32} {N : Nat} (ha : a.toInt = (N : Int)) (hN : N ≤ 60) : ∃ v w M' N' L', f_X9_passTicks MX a = some (v, M') ∧ f_X10_arePassed MY LY a = some (w, N', L') ∧ ((v = a ∧ w = 1) ∨ (v ≠ a ∧ w = 0)) ∧ RelN nt M' N' L' := by
  have hr := h
  obtain ⟨nti, ⟨s, St, n, ru, sd, sp, sk, hs⟩, _, _, _, lw⟩ := h
  have ⟨a1, a2, a3, a4, a5, a6, a7, a8, a9⟩ := hs
  obtain ⟨ot, π, κ, E⟩ := law_now a7 a8 a9 lw
  obtain ⟨j, v, MX', MY', L', s', St', n', r1, r2, r3, r4, r5, r6, r7, r8, r9⟩ := pass_loop E ha hN N 0 xfuel MX MY LY s St n 0 0 0 (by omega) (by unfold xfuel; omega) hs (fun _ _ => rfl) rfl ⟨rfl, rfl⟩ rfl rfl rfl
  have fin : RelN nt MX' MY' L' := hr.done nt (fun nt' h' => (Snp.of hs).nt h') (Snp.of r6) (fun q hq => r7 q (by omega) (by omega) (by omega)) (fun q hq => r8 q (by omega) (by omega) (by omega))
  unfold f_X9_passTicks f_X10_arePassed
  by_cases c : j = N
  · rw [if_pos c] at r4
    rw [r1, xb2_some, r4, xs2_r]
    exact ⟨v, 1, MX', MY', L', rfl, rfl, Or.inl ⟨i_inj (by rw [r2, c]) ha, rfl⟩, fin⟩
  · rw [if_neg c] at r4
    rw [r1, xb2_some, r4, xs2_l]
    exact ⟨v, 0, MX', MY', L', rfl, rfl, Or.inr ⟨by rw [ne_eq, i_eq, r2, ha]; omega, rfl⟩, fin⟩
theorem played_loop {nt t : Nat} (ht : t < nt) (t4 : t < 4) {a : Int32} (ha : a.toInt = (t : Int)) : ∀ (d i f g : Nat) (M N : xm) (L : xn) (x : Int32), i + d = 24 → d < f → d < g → RelN nt M N L → x.toInt = (i : Int) → ∃ M' N' L', RelN nt M' N' L' ∧ ((g_X9_played_30 (1007 + 9 * t) f M x = some (Sum.inr M') ∧ g_X10_played_21 a g N L x = some (Sum.inr (N', L'))) ∨ ∃ v, g_X9_played_30 (1007 + 9 * t) f M x = some (Sum.inl (v, M')) ∧ g_X10_played_21 a g N L x = some (Sum.inl (v, N', L'))) := by
  intro d
  induction d with
  | zero =>
    intro i f g M N L x hi hf hg h hx
    obtain ⟨f, rfl⟩ : ∃ q, f = q + 1 := ⟨f - 1, by omega⟩
    obtain ⟨g, rfl⟩ : ∃ q, g = q + 1 := ⟨g - 1, by omega⟩
    have hh := h
    obtain ⟨nti, _, _, _, _, lw⟩ := hh
    obtain ⟨π, κ, c, _, _, _, _, _, _, c24, c1, c2, c3⟩ := lw t ht
    have m : ((705 : Int32) * a).toInt = ((705 * t : Nat) : Int) := by rw [i_mul (a := 705) rfl ha (by omega) (by omega)]; omega
    unfold g_X9_played_30 g_X10_played_21
    rw [if_pos (by rw [i_le, hx]; simp only [Int32.reduceToInt]; omega), if_pos (i_in m (by omega)), i_ix m, if_pos (by rw [i_le, c2, hx]; omega)]
    exact ⟨M, N, L, h, Or.inl ⟨rfl, rfl⟩⟩
  | succ d ih =>
    intro i f g M N L x hi hf hg h hx
    obtain ⟨f, rfl⟩ : ∃ q, f = q + 1 := ⟨f - 1, by omega⟩
    obtain ⟨g, rfl⟩ : ∃ q, g = q + 1 := ⟨g - 1, by omega⟩
    have hh := h
    obtain ⟨nti, _, _, _, _, lw⟩ := hh
    obtain ⟨π, κ, c, _, _, _, _, _, _, c24, c1, c2, c3⟩ := lw t ht
    have m : ((705 : Int32) * a).toInt = ((705 * t : Nat) : Int) := by rw [i_mul (a := 705) rfl ha (by omega) (by omega)]; omega
    unfold g_X9_played_30 g_X10_played_21
    rw [if_neg (by rw [i_le, hx]; simp only [Int32.reduceToInt]; omega), if_pos (i_in m (by omega)), i_ix m]
    by_cases cc : c ≤ i
    · rw [if_pos (by rw [i_le, c1, hx]; omega), if_pos (by rw [i_le, c2, hx]; omega)]
      exact ⟨M, N, L, h, Or.inl ⟨rfl, rfl⟩⟩
    · obtain ⟨k0, kr, k1, k2, k3, k6⟩ := c3 i (by omega)
      have b0 : ((((705 : Int32) * a) + 1) + ((4 : Int32) * x)).toInt = ((705 * t + 1 + 4 * i : Nat) : Int) := by
        rw [i_add (i_add m (b := 1) rfl (by omega) (by omega)) (i_mul (a := 4) rfl hx (by omega) (by omega)) (by omega) (by omega)]; omega
      have b1 : ((((705 : Int32) * a) + 1) + ((4 : Int32) * x) + 1).toInt = ((705 * t + 2 + 4 * i : Nat) : Int) := by
        rw [i_add b0 (b := 1) rfl (by omega) (by omega)]; omega
      have b2 : ((((705 : Int32) * a) + 1) + ((4 : Int32) * x) + 2).toInt = ((705 * t + 3 + 4 * i : Nat) : Int) := by
        rw [i_add b0 (b := 2) rfl (by omega) (by omega)]; omega
      have b3 : ((((705 : Int32) * a) + 1) + ((4 : Int32) * x) + 3).toInt = ((705 * t + 4 + 4 * i : Nat) : Int) := by
        rw [i_add b0 (b := 3) rfl (by omega) (by omega)]; omega
      have nx : (x + 1).toInt = ((i + 1 : Nat) : Int) := by rw [i_add hx (b := 1) rfl (by omega) (by omega)]; omega
      have q1 : 1007 + 9 * t + 1 = 1008 + 9 * t := by omega
      have q2 : 1007 + 9 * t + 2 = 1009 + 9 * t := by omega
      have q3 : 1007 + 9 * t + 3 = 1010 + 9 * t := by omega
      have q4 : 1007 + 9 * t + 4 = 1011 + 9 * t := by omega
      unfold f_X10_isPlayed
      simp only [xlet_eq]
      rw [if_neg (by rw [i_le, c1, hx]; omega), if_pos (i_in hx (by omega)), i_ix hx, q1, q2, q3, q4, if_neg (c := N 3 (705 * t) ≤ x) (by rw [i_le, c2, hx]; omega), if_pos (c := xin ((((705 : Int32) * a) + 1) + ((4 : Int32) * x) + 1) 2820 = true) (i_in b1 (by omega)), i_ix b1, if_pos (c := xin ((((705 : Int32) * a) + 1) + ((4 : Int32) * x) + 2) 2820 = true) (i_in b2 (by omega)), i_ix b2, if_pos (c := xin ((((705 : Int32) * a) + 1) + ((4 : Int32) * x) + 3) 2820 = true) (i_in b3 (by omega)), i_ix b3, if_pos (c := xin ((((705 : Int32) * a) + 1) + ((4 : Int32) * x)) 2820 = true) (i_in b0 (by omega)), i_ix b0, ← k0]
      have z2 : (2 : Int32).toInt = 2 := rfl
      have z3 : (3 : Int32).toInt = 3 := rfl
      have z4 : (4 : Int32).toInt = 4 := rfl
      have z5 : (5 : Int32).toInt = 5 := rfl
      have z6 : (6 : Int32).toInt = 6 := rfl
      have go : ∀ (M1 N1 : xm) (L1 : xn), RelN nt M1 N1 L1 → ∃ M' N' L', RelN nt M' N' L' ∧ ((g_X9_played_30 (1007 + 9 * t) f M1 (x + 1) = some (Sum.inr M') ∧ g_X10_played_21 a g N1 L1 (x + 1) = some (Sum.inr (N', L'))) ∨ ∃ v, g_X9_played_30 (1007 + 9 * t) f M1 (x + 1) = some (Sum.inl (v, M')) ∧ g_X10_played_21 a g N1 L1 (x + 1) = some (Sum.inl (v, N', L'))) := fun M1 N1 L1 h1 => ih (i + 1) f g M1 N1 L1 (x + 1) (by omega) (by omega) (by omega) h1 nx
      generalize hk : M (1008 + 9 * t) i = k at *
      by_cases e2 : k.toInt = 2
      · rw [if_pos (c := k = 2) (by rw [i_eq, e2]; rfl), if_pos (c := k = 2) (by rw [i_eq, e2]; rfl), ← k1 (by omega), ← k2 (by omega) (by omega)]
        obtain ⟨r, M1, N1, L1, u1, u2, u3, u4⟩ := n_make nt M N L (M (1009 + 9 * t) i) (M (1010 + 9 * t) i) h
        rw [u1, xb2_some, u2, xb3_some]
        rcases u3 with u3 | u3
        · rw [if_pos u3, if_pos (by rw [i_lt, u3]; decide), xb3_some, if_pos rfl]
          exact ⟨M1, N1, L1, u4, Or.inr ⟨x, rfl, rfl⟩⟩
        · rw [if_neg (by rw [i_eq]; simp only [Int32.reduceToInt]; omega), if_neg (by rw [i_lt]; simp only [Int32.reduceToInt]; omega), xb3_some, if_neg n10]
          exact go M1 N1 L1 u4
      · rw [if_neg (c := k = 2) (by rw [i_eq]; exact e2), if_neg (c := k = 2) (by rw [i_eq]; exact e2)]
        by_cases e3 : k.toInt = 3
        · rw [if_pos (c := k = 3) (by rw [i_eq, e3]; rfl), if_pos (c := k = 3) (by rw [i_eq, e3]; rfl), ← k1 (by omega), ← k2 (by omega) (by omega), ← k3 (by omega) (by omega)]
          obtain ⟨r, M1, N1, u1, u2, u4⟩ := n_load nt M N L (M (1009 + 9 * t) i) (M (1010 + 9 * t) i) (M (1011 + 9 * t) i) h
          rw [u1, xb2_some, u2, xb2_some]
          by_cases u3 : r = -2
          · rw [if_pos u3, if_pos u3, xb3_some, if_pos rfl]
            exact ⟨M1, N1, L, u4, Or.inr ⟨x, rfl, rfl⟩⟩
          · rw [if_neg u3, if_neg u3, xb3_some, if_neg n10]
            exact go M1 N1 L u4
        · rw [if_neg (c := k = 3) (by rw [i_eq]; exact e3), if_neg (c := k = 3) (by rw [i_eq]; exact e3)]
          by_cases e4 : k.toInt = 4
          · rw [if_pos (c := k = 4) (by rw [i_eq, e4]; rfl), if_pos (c := k = 4) (by rw [i_eq, e4]; rfl), ← k1 (by omega), ← k2 (by omega) (by omega), ← k3 (by omega) (by omega)]
            obtain ⟨r, M1, N1, u1, u2, u4⟩ := n_store nt M N L (M (1010 + 9 * t) i) (M (1011 + 9 * t) i) (M (1009 + 9 * t) i) h
            rw [u1, xb2_some, u2, xb2_some, xb3_some]
            by_cases u3 : r = 0
            · rw [if_pos u3, if_pos u3]
              exact ⟨M1, N1, L, u4, Or.inr ⟨x, rfl, rfl⟩⟩
            · rw [if_neg u3, if_neg u3]
              exact go M1 N1 L u4
          · rw [if_neg (c := k = 4) (by rw [i_eq]; exact e4), if_neg (c := k = 4) (by rw [i_eq]; exact e4)]
            by_cases e5 : k.toInt = 5
            · rw [if_pos (c := k = 5) (by rw [i_eq, e5]; rfl), if_pos (c := k = 5) (by rw [i_eq, e5]; rfl), ← k1 (by omega)]
              obtain ⟨r, M1, N1, u1, u2, u4⟩ := n_drop nt M N L (M (1009 + 9 * t) i) h
              rw [u1, xb2_some, u2, xb2_some, xb3_some]
              by_cases u3 : r = 0
              · rw [if_pos u3, if_pos u3]
                exact ⟨M1, N1, L, u4, Or.inr ⟨x, rfl, rfl⟩⟩
              · rw [if_neg u3, if_neg u3]
                exact go M1 N1 L u4
            · rw [if_neg (c := k = 5) (by rw [i_eq]; exact e5), if_neg (c := k = 5) (by rw [i_eq]; exact e5)]
              by_cases e6 : k.toInt = 6
              · rw [if_pos (c := k = 6) (by rw [i_eq, e6]; rfl), if_pos (c := k = 6) (by rw [i_eq, e6]; rfl), ← k1 (by omega)]
                have k6' := k6 e6
                obtain ⟨v, w, M1, N1, L1, u1, u2, u3, u4⟩ := n_pass h (a := M (1009 + 9 * t) i) (N := (M (1009 + 9 * t) i).toInt.toNat) (by omega) (by omega)
                rw [u1, xb2_some, u2, xb3_some, xb3_some]
                rcases u3 with ⟨u3, u5⟩ | ⟨u3, u5⟩
                · rw [if_pos u3, u5, if_neg n10]
                  exact go M1 N1 L1 u4
                · rw [if_neg u3, u5, if_pos rfl]
                  exact ⟨M1, N1, L1, u4, Or.inr ⟨x, rfl, rfl⟩⟩
              · rw [if_neg (c := k = 6) (by rw [i_eq]; exact e6), if_neg (c := k = 6) (by rw [i_eq]; exact e6), xb3_some, if_neg n10]
                exact go M N L h
theorem s_played : sim_played Rel := by
  intro MX MY LY a0 h
  obtain ⟨nt, hn⟩ : ∃ nt, RelN nt MX MY LY := h
  have hh := hn
  obtain ⟨nti, ⟨s, St, n, ru, sd, sp, sk, hs⟩, _⟩ := hh
  have ⟨a1, a2, a3, a4, a5, a6, a7, a8, a9⟩ := hs
  have n4 := a9.1
  have w1 : (MX 483 3).toInt = nt := a7.2.1
  have w2 : (MY 1 0).toInt = nt := a8.1
  have w3 := i_sub w2 (y := 1) (b := 1) rfl (by omega) (by omega)
  unfold f_X9_played f_X10_played
  rw [yIn, w3, xlet_eq]
  have z0 : (0 : Int32).toInt = 0 := rfl
  rw [z0]
  by_cases c : 0 ≤ a0.toInt ∧ a0.toInt ≤ (nt : Int) - 1
  · obtain ⟨t, ht⟩ : ∃ t : Nat, a0.toInt = t := ⟨a0.toInt.toNat, by omega⟩
    have os : 1006 + (1 + 9 * t) = 1007 + 9 * t := by omega
    have et : f_X9_textAt a0 = some (some (1007 + 9 * t)) := by
      unfold f_X9_textAt
      rw [if_neg (by rw [i_lt]; simp only [Int32.reduceToInt]; omega), if_neg (by rw [i_le]; simp only [Int32.reduceToInt]; omega), if_pos (i_in ht (by omega)), i_ix ht, os]
    obtain ⟨M', N', L', r1, r2⟩ := played_loop (nt := nt) (t := t) (by omega) (by omega) ht 24 0 xfuel xfuel MX MY LY 0 (by decide) (by decide) (by decide) hn rfl
    rw [if_pos c, if_neg n10, if_neg (by rw [i_le, w1]; omega), et, xb1_some]
    simp only [xopt_at]
    rcases r2 with ⟨u1, u2⟩ | ⟨v, u1, u2⟩
    · rw [u1, u2, xs2_r, xs2_r]
      exact ⟨_, M', N', L', rfl, rfl, nt, r1⟩
    · rw [u1, u2, xs2_l, xs2_l]
      exact ⟨_, M', N', L', rfl, rfl, nt, r1⟩
  · rw [if_neg c, if_pos rfl]
    refine ⟨-2, MX, MY, LY, ?_, rfl, nt, hn⟩
    by_cases c1 : (nt : Int) ≤ a0.toInt
    · rw [if_pos (by rw [i_le, w1]; exact c1)]; rfl
    · have et : f_X9_textAt a0 = some none := by
        unfold f_X9_textAt
        rw [if_pos (by rw [i_lt]; simp only [Int32.reduceToInt]; omega)]
      rw [if_neg (by rw [i_le, w1]; exact c1), et]; rfl
