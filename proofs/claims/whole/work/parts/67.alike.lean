/-! races by both orders -/
theorem fin1_key {s : hs} {G : Nat → Prop} (hi : In s G no 6) {t : Nat} (ht : t < 2) (hb : s 10 t ≠ -1) : (∀ x, x < 64 → s 1 x = -2 ∨ sFin1 s t 1 x = s 1 x ∨ (s 12 t ≠ -1 ∧ s 12 t ≤ x ∧ (x : Int) < s 12 t + (s 1 (s 12 t).toNat - 999))) ∧ (∀ i, sFin1 s t 12 i = if i = t then -1 else s 12 i) := by
  have ⟨o, l, f2, g, rg⟩ := hi
  have oc := o.c ht
  unfold sFin1 sSettle
  by_cases c1 : s 12 t = -1
  · rw [if_pos c1]
    exact ⟨fun x _ => Or.inr (Or.inl (by rw [sSetT_k x (by decide) (by decide) (by decide)])), fun i => sSetT_12 i⟩
  · rw [if_neg c1]
    split
    · exact ⟨fun x _ => Or.inr (Or.inl (by rw [sTell_k x (by decide) (by decide) (by decide) (by decide), sSetT_k x (by decide) (by decide) (by decide)])), fun i => by rw [sTell_k i (by decide) (by decide) (by decide) (by decide)]; exact sSetT_12 i⟩
    · split
      · refine ⟨fun x _ => ?_, fun i => by rw [sClr_k i (by decide) (by decide), up2_ap, if_neg (by omega)]; exact sSetT_12 i⟩
        rw [sClr_1]
        have g5 := g.2.2.2.2.1 t ht hb c1
        have c64 : (s 12 t).toNat < 64 := by omega
        obtain ⟨n, hn, m1, m2, m3, m4⟩ := head_n o l c64 g5.2.1.1
        have m2' : sSz (sSetT s t (-1) (-1) (-1)) (s 12 t).toNat = n := m2
        rw [m2']
        by_cases q : (s 12 t).toNat ≤ x ∧ x < (s 12 t).toNat + n
        · exact Or.inr (Or.inr ⟨c1, by omega, by omega⟩)
        · rw [if_neg q]
          exact Or.inr (Or.inl rfl)
      · exact ⟨fun x _ => Or.inr (Or.inl (by rw [sSetT_k x (by decide) (by decide) (by decide)])), fun i => sSetT_12 i⟩
theorem fin_wk {s : hs} {G : Nat → Prop} (hi : In s G no 6) {t r : Nat} (ht : t < 2) (hb : s 10 t ≠ -1) : Wk (sFin1 s t) (sFin s t r) := by
  obtain ⟨G', i1, i2, i3⟩ := hi.fin1 ht hb
  have nv := finV_ne hi ht hb
  obtain ⟨G2, j1, j2, j3, j4⟩ := i1.mend i2
  have y := j3 nv
  have yr : -1 ≤ sFinV s t ∧ sFinV s t ≤ 191 := y.2.2
  have op := hi.1.p ht
  refine (Wk.mend i1 i2).tr ?_
  unfold sFin
  refine Wk.tr ?_ (Wk.up (k := 8) (by decide) (by decide) (by decide))
  split
  · rename_i c
    unfold sWM
    split
    · exact Wk.rfl
    · exact (Wk.store (by rw [c]; exact op) yr).tr Wk.wr
  · exact Wk.rfl
/-- both finish, one ahead of the other -/
theorem both_fin {s : hs} (h : HO s) {t : Nat} (ht : t < 2) (h0 : s 10 0 ≠ -1) (h1 : s 10 1 ≠ -1) : HO (sFin s t t) ∧ sFin s t t 10 (1 - t) ≠ -1 ∧ HO (sFin (sFin s t t) (1 - t) (1 - t)) ∧ (∀ t', t' < 2 → -1 ≤ sFin (sFin s t t) (1 - t) (1 - t) 1 (s 10 t').toNat ∧ sFin (sFin s t t) (1 - t) (1 - t) 1 (s 10 t').toNat ≤ 191) := by
  obtain ⟨⟨G, hi⟩, hc, hrw⟩ := h
  have o := hi.1
  have all : ∀ t', t' < 2 → s 10 t' ≠ -1 := fun t' q => by
    by_cases z : t' = 0
    · rw [z]; exact h0
    · rw [show t' = 1 by omega]; exact h1
  have hb := all t ht
  have hb' := all (1 - t) (by omega)
  obtain ⟨f1, f2, f3⟩ := hrw.fin (r := t) hi ht hb
  have ho1 : HO (sFin s t t) := ⟨hi.fin ht hb, by rw [sFin_17]; exact hc, f1⟩
  have b2 : sFin s t t 10 (1 - t) ≠ -1 := by rw [f3 (1 - t) (by omega)]; exact hb'
  obtain ⟨⟨G2, hi2⟩, hc2, hrw2⟩ := ho1
  obtain ⟨g1, g2, g3⟩ := hrw2.fin (r := 1 - t) hi2 (show 1 - t < 2 by omega) b2
  refine ⟨⟨⟨G2, hi2⟩, hc2, hrw2⟩, b2, ⟨hi2.fin (by omega) b2, by rw [sFin_17]; exact hc2, g1⟩, fun t' ht' => ?_⟩
  have ot := o.t ht'
  by_cases q : t' = t
  · subst q
    -- its word is in no copy of the other
    obtain ⟨k1, k12⟩ := fin1_key hi ht hb
    obtain ⟨l1, l12⟩ := fin1_key hi2 (show 1 - t' < 2 by omega) b2
    have w1 := fin_wk (r := t') hi ht hb
    have w2 := fin_wk (r := 1 - t') hi2 (show 1 - t' < 2 by omega) b2
    have p1 := f2 t' ht hb
    have x64 : (s 10 t').toNat < 64 := by omega
    have e12 : sFin s t' t' 12 (1 - t') = s 12 (1 - t') := by rw [w1.2.2, k12, if_neg (by omega)]
    have out := (hrw t' ht hb).2 (1 - t') (by omega) hb'
    have a := l1 (s 10 t').toNat x64
    have b := w2.1 (s 10 t').toNat x64
    rcases a with a | a | a
    · omega
    · rw [a] at b; omega
    · rw [e12] at a
      have out := out a.1
      -- the other copy's head is as it was
      have g5 := hi.2.2.2.1.2.2.2.2.1 (1 - t') (by omega) hb' a.1
      have oc := o.c (show 1 - t' < 2 by omega)
      have c64 : (s 12 (1 - t')).toNat < 64 := by omega
      have g52 := hi2.2.2.2.1.2.2.2.2.1 (1 - t') (by omega) b2 (by rw [e12]; exact a.1)
      rw [e12] at g52
      have hd : sFin s t' t' 1 (s 12 (1 - t')).toNat = s 1 (s 12 (1 - t')).toNat := by
        have u1 := k1 (s 12 (1 - t')).toNat c64
        have u2 := w1.1 (s 12 (1 - t')).toNat c64
        have g521 := g52.2.1.1
        rcases u1 with u1 | u1 | u1
        · omega
        · omega
        · have g5t := hi.2.2.2.1.2.2.2.2.1 t' ht hb u1.1
          have d64 : (s 12 t').toNat < 64 := by have := o.c ht; omega
          obtain ⟨n, hn, m1, m2, m3, m4⟩ := head_n o hi.2.1 c64 g5.2.1.1
          obtain ⟨n', hn', m1', m2', m3', m4'⟩ := head_n o hi.2.1 d64 g5t.2.1.1
          have ne : (s 12 (1 - t')).toNat ≠ (s 12 t').toNat := by
            have g6 := hi.2.2.2.1.2.2.2.2.2.1
            have oct := o.c ht
            by_cases z : t' = 0
            · subst z
              have b1 : s 12 1 ≠ -1 := a.1
              have b0 : s 12 0 ≠ -1 := u1.1
              have := g6 h0 h1 b0
              have oc1 := o.c (show 1 < 2 by omega)
              show (s 12 1).toNat ≠ (s 12 0).toNat
              omega
            · have z1 : t' = 1 := by omega
              subst z1
              have b0 : s 12 0 ≠ -1 := a.1
              have b1 : s 12 1 ≠ -1 := u1.1
              have := g6 h0 h1 b0
              have oc0 := o.c (show 0 < 2 by omega)
              show (s 12 0).toNat ≠ (s 12 1).toNat
              omega
          have := apart o hi.2.1 d64 c64 m1' m1 hn'.1 hn.1 ne
          omega
      rw [hd] at a
      omega
  · have q' : t' = 1 - t := by omega
    have := g2 (1 - t) (by omega) b2
    rw [f3 (1 - t) (by omega)] at this
    rw [q']
    exact this
def sLd (s : hs) (p : Int) : Int := if p < 0 then -1 else sWh s p
abbrev sLA (s : hs) (r w : Nat) : Prop := sLd s (s 8 r) = sLd s (s 1 w)
theorem x_lead {u : Nat} {M : xm} {s : hs} (h : RX u M s) (o : Ok s) {a : Int32} {p : Int} (ha : a.toInt = p) (hp : -1 ≤ p ∧ p ≤ 191) : ∃ r, f_X1_leadsTo u M a = some r ∧ r.toInt = sLd s p := by
  unfold sLd
  by_cases c : p < 0
  · rw [if_pos c]; exact ⟨-1, x_leadsTo0 (by rw [ha]; omega), rfl⟩
  · rw [if_neg c]; exact x_leadsTo h o ha (by omega)
theorem y_leadsAlike {M : xm} {s : hs} (h : RY M s) (o : Ok s) {a b : Int32} {r w : Nat} (ha : a.toInt = (r : Int)) (hr : r < 6) (hb : b.toInt = (w : Int)) (hw : w < 64) (hv : -1 ≤ s 1 w ∧ s 1 w ≤ 191) : f_X10_leadsAlike M a b = some (if sLA s r w then 1 else 0) := by
  have br := o.r hr
  have e := yx 29 (b := 29) rfl ha (by omega)
  have e' := yx 41 (b := 41) rfl hb (by omega)
  unfold f_X10_leadsAlike
  simp only [xlet_eq]
  rw [if_pos e.1, if_pos e'.1, e.2, e'.2]
  have k : (if M 1 (29 + r) = M 1 (41 + w) then some (1 : Int32) else some 0) = some (if s 8 r = s 1 w then 1 else 0) := by
    by_cases q : s 8 r = s 1 w
    · rw [if_pos (by rw [i_eq, h.r hr, h.w hw]; exact q), if_pos q]
    · rw [if_neg (by rw [i_eq, h.r hr, h.w hw]; exact q), if_neg q]
  rw [k]
  unfold sLA sLd
  by_cases c1 : s 8 r = -1
  · rw [if_pos (by rw [i_eq, h.r hr, c1]; rfl), if_pos (c := s 8 r < 0) (by omega)]
    by_cases c2 : s 1 w < 0
    · rw [if_pos (c := s 1 w < 0) c2, if_pos (c := s 8 r = s 1 w) (by omega), if_pos rfl]
    · rw [if_neg (c := s 1 w < 0) c2, if_neg (c := s 8 r = s 1 w) (by omega), if_neg (by omega)]
  · rw [if_neg (by rw [i_eq, h.r hr]; exact c1), if_neg (c := s 8 r < 0) (by omega)]
    by_cases c2 : s 1 w < 0
    · rw [if_neg (by rw [i_le, h.w hw]; simp only [Int32.reduceToInt]; omega), if_pos (c := s 1 w < 0) c2, if_neg (c := s 8 r = s 1 w) (by omega), if_neg (by omega)]
    · obtain ⟨u1, u2, u3⟩ := y_whereOf h o (h.r hr) (by omega)
      obtain ⟨v1, v2, v3⟩ := y_whereOf h o (h.w hw) (by omega)
      rw [if_pos (by rw [i_le, h.w hw]; simp only [Int32.reduceToInt]; omega), u2, xb1_some, v2, xb1_some, if_neg (c := s 1 w < 0) c2]
      by_cases q : sWh s (s 8 r) = sWh s (s 1 w)
      · rw [if_pos (by rw [i_eq, u3, v3, q]), if_pos (by rw [q])]
      · rw [if_neg (by rw [i_eq, u3, v3]; omega), if_neg (by omega)]
theorem alike_by {MX MY : xm} {s : hs} (a1 : RX 1 MX s) (a2 : RY MY s) (a3 : HO s) {a : Int32} {t : Nat} (ha : a.toInt = (t : Int)) (ht : t < 2) (h0 : s 10 0 ≠ -1) (h1 : s 10 1 ≠ -1) : ∃ v MX' MY', f_X9_agreesWhenFirst MX a = some (v, MX') ∧ f_X10_isAlikeBy MY a = some (v, MY') ∧ (∀ q, (q < 971 ∨ 986 ≤ q) → MX' q = MX q) ∧ (∀ q, q ≠ 9 → MY' q = MY q) := by
  have ⟨⟨G, hi⟩, hc, hrw⟩ := a3
  have o := hi.1
  obtain ⟨b1, b2, b3, b4⟩ := both_fin a3 ht h0 h1
  have hb : s 10 t ≠ -1 := by
    by_cases z : t = 0
    · rw [z]; exact h0
    · rw [show t = 1 by omega]; exact h1
  obtain ⟨⟨G1, hi1⟩, _⟩ := b1
  have o2 := b3.ok
  have t1 : ((1 : Int32) - a).toInt = ((1 - t : Nat) : Int) := by rw [i_sub (a := 1) rfl ha (by omega) (by omega)]; omega
  obtain ⟨M1, k1, k2, k3⟩ := x_takeOver (u0 := 971) (u1 := 1) (by omega) a1 o
  obtain ⟨v, M2, x1, x2, x3, x4⟩ := x_finishRead k2 hi ha ht ha (by omega) hb
  obtain ⟨v', M3, y1, y2, y3, y4⟩ := x_finishRead x3 hi1 t1 (by omega) t1 (by omega) b2
  obtain ⟨N1, p1, p2, p3⟩ := y_aside MY
  have hy1 : RY N1 s := by show RYr (N1 1) s; rw [p2 1 (by decide)]; exact a2
  obtain ⟨w, N2, z1, z2, z3, z4⟩ := y_finishNow hy1 hi ha ht ha (by omega) hb
  obtain ⟨w', N3, q1, q2, q3, q4⟩ := y_finishNow z3 hi1 t1 (by omega) t1 (by omega) b2
  have fy := frY.tr z4 q4
  obtain ⟨N4, r1, r2, r3⟩ := p3 N3 (fun q c _ _ => fy.1 q c) fy.2
  have ot0 := o.t (show 0 < 2 by omega)
  have ot1 := o.t (show 1 < 2 by omega)
  obtain ⟨c0, hc0⟩ : ∃ c0 : Nat, s 10 0 = c0 := ⟨(s 10 0).toNat, by omega⟩
  obtain ⟨c1, hc1⟩ : ∃ c1 : Nat, s 10 1 = c1 := ⟨(s 10 1).toNat, by omega⟩
  have w0 := b4 0 (by omega)
  have w1 := b4 1 (by omega)
  rw [hc0, Int.toNat_natCast] at w0
  rw [hc1, Int.toNat_natCast] at w1
  have v40 : (M1 (971 + 10) 0).toInt = (c0 : Int) := by rw [k2.t (show 0 < 2 by omega), hc0]
  have v41 : (M1 (971 + 10) 1).toInt = (c1 : Int) := by rw [k2.t (show 1 < 2 by omega), hc1]
  have yv0 : (MY 1 35).toInt = (c0 : Int) := by rw [← hc0]; exact a2.t (show 0 < 2 by omega)
  have yv1 : (MY 1 36).toInt = (c1 : Int) := by rw [← hc1]; exact a2.t (show 1 < 2 by omega)
  have br0 := o2.r (show 0 < 6 by omega)
  have br1 := o2.r (show 1 < 6 by omega)
  obtain ⟨l0, l01, l02⟩ := x_lead y3 o2 (y3.r (show 0 < 6 by omega)) br0
  obtain ⟨m0, m01, m02⟩ := x_lead y3 o2 (y3.w (show c0 < 64 by omega)) w0
  obtain ⟨l1, l11, l12⟩ := x_lead y3 o2 (y3.r (show 1 < 6 by omega)) br1
  obtain ⟨m1, m11, m12⟩ := x_lead y3 o2 (y3.w (show c1 < 64 by omega)) w1
  have fxx : ∀ q, (q < 971 ∨ 986 ≤ q) → M3 q = MX q := fun q hq => (y4 q (by omega)).trans ((x4 q (by omega)).trans (k3 q (by omega)))
  have fyy : ∀ q, q ≠ 9 → N4 q = MY q := fun q hq => by
    by_cases z1 : q = 1
    · rw [z1]; exact r2
    · by_cases z6 : q = 6
      · have e := p3 N3 (fun q c _ _ => fy.1 q c) fy.2
        have bb : f_X10_bringBack N3 = some N4 := r1
        obtain ⟨Z, u1, u2, u3⟩ := y_back_loop 318 0 xfuel (by omega) (by unfold xfuel; omega) N3 0 rfl
        unfold f_X10_bringBack at bb
        rw [u1, xb1_some] at bb
        cases bb
        rw [u2 q z1, fy.1 q z1, p2 q hq]
      · by_cases z8 : q = 8
        · have bb : f_X10_bringBack N3 = some N4 := r1
          obtain ⟨Z, u1, u2, u3⟩ := y_back_loop 318 0 xfuel (by omega) (by unfold xfuel; omega) N3 0 rfl
          unfold f_X10_bringBack at bb
          rw [u1, xb1_some] at bb
          cases bb
          rw [u2 q z1, fy.1 q z1, p2 q hq]
        · exact r3 q z6 z8 hq
  unfold f_X9_agreesWhenFirst f_X10_isAlikeBy
  simp only [xlet_eq]
  rw [k1, xb1_some, x1, xb2_some, y1, xb2_some, f_isAddress_1 v40 (by omega), if_neg n10, f_isAddress_1 v41 (by omega), if_neg n10, l01, xb1_some, if_pos (i_in v40 (by omega)), i_ix v40, m01, xb1_some, l11, xb1_some, if_pos (i_in v41 (by omega)), i_ix v41, m11, xb1_some]
  rw [p1, xb1_some, z1, xb2_some, q1, xb2_some, y_leadsAlike q3 o2 (a := 0) (b := MY 1 35) (r := 0) rfl (by omega) yv0 (by omega) w0, xb1_some, y_leadsAlike q3 o2 (a := 1) (b := MY 1 36) (r := 1) rfl (by omega) yv1 (by omega) w1, xb1_some, r1, xb1_some, xb1_some]
  by_cases d0 : sLA (sFin (sFin s t t) (1 - t) (1 - t)) 0 c0
  · rw [if_pos (c := l0 = m0) (by rw [i_eq, l02, m02]; exact d0), if_pos d0, if_neg n10]
    by_cases d1 : sLA (sFin (sFin s t t) (1 - t) (1 - t)) 1 c1
    · rw [if_pos (c := l1 = m1) (by rw [i_eq, l12, m12]; exact d1), if_pos d1, if_neg n10, if_pos (by decide)]
      exact ⟨_, M3, N4, rfl, rfl, fxx, fyy⟩
    · rw [if_neg (c := l1 = m1) (by rw [i_eq, l12, m12]; exact d1), if_neg d1, if_pos rfl, if_pos (by decide)]
      exact ⟨_, M3, N4, rfl, rfl, fxx, fyy⟩
  · rw [if_neg (c := l0 = m0) (by rw [i_eq, l02, m02]; exact d0), if_neg d0, if_pos rfl, if_pos (by decide)]
    exact ⟨_, M3, N4, rfl, rfl, fxx, fyy⟩
theorem s_alike : sim_alike Rel := by
  intro MX MY LY h
  have hr := h
  obtain ⟨nt, nti, ⟨s, St, n, ru, sd, sp, sk, hs⟩, _⟩ := h
  have ⟨a1, a2, a3, _⟩ := hs
  unfold f_X9_alike f_X10_alike
  rw [x_threadsBegun a1, xb1_some, y_isBegun a2 (a := 0) (w := 0) rfl (by omega), xb1_some, y_isBegun a2 (a := 1) (w := 1) rfl (by omega), xb1_some]
  by_cases t0 : s 10 0 = -1
  · rw [if_pos t0, if_pos rfl]
    refine ⟨-1, MX, MY, ?_, rfl, hr⟩
    by_cases t1 : s 10 1 = -1
    · rw [if_pos t1, if_neg (by decide)]
    · rw [if_neg t1, if_neg (by decide)]
  · rw [if_neg t0, if_neg n10]
    by_cases t1 : s 10 1 = -1
    · rw [if_pos t1, if_pos t1, if_pos rfl, if_neg (by decide)]
      exact ⟨_, MX, MY, rfl, rfl, hr⟩
    · rw [if_neg t1, if_neg t1, if_neg n10, if_pos (by decide)]
      obtain ⟨v, M1, N1, k1, k2, k3, k4⟩ := alike_by a1 a2 a3 (a := 0) (t := 0) rfl (by omega) t0 t1
      rw [k1, xb2_some, k2, xb2_some]
      have r1 : Rel M1 N1 LY := hr.look (fun q hq => k3 q (by omega)) (fun q hq => k4 q (by omega))
      by_cases c : v = 0
      · rw [if_pos c, if_pos c]; exact ⟨_, M1, N1, rfl, rfl, r1⟩
      · rw [if_neg c, if_neg c]
        have b1 : RX 1 M1 s := a1.fr (fun q _ _ => k3 q (by omega))
        have b2 : RY N1 s := by show RYr (N1 1) s; rw [k4 1 (by decide)]; exact a2
        obtain ⟨v', M2, N2, j1, j2, j3, j4⟩ := alike_by b1 b2 a3 (a := 1) (t := 1) rfl (by omega) t0 t1
        rw [j1, xb2_some, j2, xb2_some]
        have r2 : Rel M2 N2 LY := r1.look (fun q hq => j3 q (by omega)) (fun q hq => j4 q (by omega))
        by_cases c' : v' = 0
        · rw [if_pos c', if_pos c']; exact ⟨_, M2, N2, rfl, rfl, r2⟩
        · rw [if_neg c', if_neg c']; exact ⟨_, M2, N2, rfl, rfl, r2⟩
