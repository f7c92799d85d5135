/-! threads: finished -/
def sFinV (s : hs) (t : Nat) : Int := sMendV (sFin1 s t) (s 11 t)
def sFin (s : hs) (t r : Nat) : hs := up2 (if sMend (sFin1 s t) (s 11 t) 1 (s 10 t).toNat = s 11 t then sWM (sMend (sFin1 s t) (s 11 t)) (s 10 t).toNat (sFinV s t) else sMend (sFin1 s t) (s 11 t)) 8 r (sFinV s t)
theorem finV_ne {s : hs} {G : Nat → Prop} (h : In s G no 6) {t : Nat} (ht : t < 2) (hb : s 10 t ≠ -1) : sFinV s t ≠ -2 := by
  obtain ⟨G', i1, i2, i3⟩ := h.fin1 ht hb
  have op := h.1.p ht
  intro q
  exact i3 ((sMendV_2 i1.1 op.1).mp q).1
theorem In.fin {s : hs} {G : Nat → Prop} (h : In s G no 6) {t r : Nat} (ht : t < 2) (hb : s 10 t ≠ -1) : Inv (sFin s t r) := by
  have nv := finV_ne h ht hb
  obtain ⟨G', i1, i2, i3⟩ := h.fin1 ht hb
  obtain ⟨G2, j1, j2, j3, j4⟩ := i1.mend i2
  obtain ⟨y1, y2, y3, y4⟩ := j3 nv
  have op := h.1.p ht
  have ot := h.1.t ht
  have w64 : (s 10 t).toNat < 64 := by omega
  unfold sFin
  by_cases c : sMend (sFin1 s t) (s 11 t) 1 (s 10 t).toNat = s 11 t
  · rw [if_pos c]
    unfold sWM
    by_cases c2 : sFinV s t = -2 ∨ sMend (sFin1 s t) (s 11 t) 1 (s 10 t).toNat = sFinV s t
    · rw [if_pos c2]
      exact ⟨G2, j1.root ⟨y3, y4⟩ y1 (fun _ => y2)⟩
    · rw [if_neg c2]
      have k1 := j1.word (x := (s 10 t).toNat) (v := sFinV s t) w64 (by rw [c]; exact op) ⟨y3, y4⟩ y1 y2
      have k2 := k1.wr (kd := 5) (v := (s 10 t).toNat) (by omega) (by omega)
      exact ⟨G2, k2.root ⟨y3, y4⟩ y1 (fun _ => y2)⟩
  · rw [if_neg c]
    exact ⟨G2, j1.root ⟨y3, y4⟩ y1 (fun _ => y2)⟩
theorem x_settle {u : Nat} {M : xm} {s : hs} (h : RX u M s) (o : Ok s) (l : Lay s) {a b : Int32} {p c : Int} (hb : b.toInt = c) (hc : -1 ≤ c ∧ c ≤ 63) (ha : c ≠ -1 → a.toInt = (sWh s p : Int) ∧ (0 ≤ p ∧ p ≤ 191) ∧ 1000 ≤ s 1 c.toNat) : ∃ M', f_X1_settleCopy u M a b = some M' ∧ RX u M' (sSettle s p c) ∧ frX u M M' := by
  unfold f_X1_settleCopy sSettle
  by_cases c1 : c = -1
  · rw [f_isAddress_0 (by rw [hb]; omega), if_pos rfl, if_pos c1]
    exact ⟨M, rfl, h, frX.rfl⟩
  · obtain ⟨a1, a2, a3⟩ := ha c1
    obtain ⟨x, hx⟩ : ∃ x : Nat, c = x := ⟨c.toNat, by omega⟩
    subst hx
    have x64 : x < 64 := by omega
    have wl := sWh_lt o a2
    rw [Int.toNat_natCast] at a3
    rw [f_isAddress_1 hb x64, if_neg n10, if_neg c1, x_mustMove h a1 wl, xb1_some, Int.toNat_natCast]
    by_cases c2 : sMust s (sWh s p)
    · have lv := l.live8 o (show x / 8 < 8 by omega)
      obtain ⟨M', k1, k2, k3⟩ := x_tell h o a1 hb wl x64 lv.2
      rw [if_pos c2, if_neg n10, if_pos c2, k1, xb1_some]
      exact ⟨M', rfl, k2, k3⟩
    · obtain ⟨n, hn, m1, m2, m3, m4⟩ := head_n o l x64 a3
      obtain ⟨z, z1, z2⟩ := x_sizeAt h o hb x64
      rw [m2] at z2
      have e8 := i_div (x := b) (y := 8) (b := 8) hb rfl (by omega) (by omega) (by omega)
      have e8' : (b / 8).toInt = ((x / 8 : Nat) : Int) := by rw [e8]; omega
      have u6 := o.u (show x / 8 < 8 by omega)
      have s1 := i_add hb z2 (by omega) (by omega)
      have s2 := i_add (i_mul e8' (y := 8) (b := 8) rfl (by omega) (by omega)) (h.u (show x / 8 < 8 by omega)) (by omega) (by omega)
      have ei : ((x : Int) / 8).toNat = x / 8 := by omega
      rw [if_neg c2, if_pos rfl, if_neg c2, xlet_eq, z1, xb1_some, if_pos (i_in e8' (by omega)), i_ix e8', xlet_eq, m2, ei]
      by_cases c3 : (x : Int) + n = 8 * ((x : Int) / 8) + s 6 (x / 8)
      · have l1 := l.1 x x64 a3
        rw [if_pos (by rw [i_eq, s1, s2]; omega), if_pos c3]
        have h1 : RX u (up2 M (u + 6) (x / 8) (M (u + 6) (x / 8) - z)) (up2 s 6 (x / 8) (s 6 (x / 8) - n)) := h.up (by decide) (i_sub (h.u (by omega)) z2 (by omega) (by omega))
        obtain ⟨M', k1, k2, k3⟩ := x_clearWords h1 hb (b := b + z) (n := n) (by rw [s1]; omega) m3
        rw [k1, xb1_some]
        exact ⟨M', rfl, k2, frX.tr (frX.up (by decide)) k3⟩
      · rw [if_neg (by rw [i_eq, s1, s2]; omega), if_neg c3]
        exact ⟨M, rfl, h, frX.rfl⟩
theorem x_finishRead {u : Nat} {M : xm} {s : hs} {G : Nat → Prop} (h : RX u M s) (hi : In s G no 6) {a b : Int32} {t r : Nat} (ha : a.toInt = (t : Int)) (ht : t < 2) (hb : b.toInt = (r : Int)) (hr : r < 6) (hbg : s 10 t ≠ -1) : ∃ v M', f_X1_finishRead u M a b = some (v, M') ∧ v.toInt = sFinV s t ∧ RX u M' (sFin s t r) ∧ frX u M M' := by
  have ⟨o, l, f2, g, rg⟩ := hi
  obtain ⟨G', i1, i2, i3⟩ := hi.fin1 ht hbg
  obtain ⟨G2, j1, j2, j3, j4⟩ := i1.mend i2
  have nv := finV_ne hi ht hbg
  have y := j3 nv
  have op := o.p ht
  have ot := o.t ht
  have oc := o.c ht
  obtain ⟨g1, g2, g3, g4, g5, _⟩ := g
  obtain ⟨w, hw⟩ : ∃ w : Nat, s 10 t = w := ⟨(s 10 t).toNat, by omega⟩
  have w64 : w < 64 := by omega
  have hv8 : (M (u + 10) t).toInt = (w : Int) := by rw [h.t ht, hw]
  obtain ⟨L, L1, L2⟩ : ∃ L, f_X1_leadsTo u M (M (u + 11) t) = some L ∧ (0 ≤ s 11 t → L.toInt = (sWh s (s 11 t) : Int)) := by
    by_cases q : 0 ≤ s 11 t
    · obtain ⟨L, L1, L2⟩ := x_leadsTo h o (h.p ht) ⟨q, op.2⟩
      exact ⟨L, L1, fun _ => L2⟩
    · exact ⟨-1, x_leadsTo0 (by rw [h.p ht]; omega), fun z => absurd z q⟩
  obtain ⟨M1, k1, k2, k3⟩ := x_settle h o l (a := L) (b := M (u + 12) t) (p := s 11 t) (h.c ht) oc (fun q => by
    have := g5 t ht hbg q
    have p0 : s 11 t ≠ -1 := fun z => this.2.2.2 (Or.inl z)
    exact ⟨L2 (by omega), ⟨by omega, op.2⟩, this.2.1.1⟩)
  have h2 : RX u (up2 (up2 (up2 M1 (u + 10) t (-1)) (u + 11) t (-1)) (u + 12) t (-1)) (sSetT (sSettle s (s 11 t) (s 12 t)) t (-1) (-1) (-1)) := k2.setT rfl rfl rfl
  rw [settle_setT] at h2
  have mp := ptr.mp i1.1 i1.2.2.2.1 i2
  obtain ⟨v, M2, v1, v2, v3, v4⟩ := x_mend h2 i1.1 i1.2.1 (a := M (u + 11) t) (h.p ht) mp
  have tr := frX.tr (frX.tr k3 (frX.tr (frX.tr (frX.up (k := 10) (i := t) (v := -1) (by decide)) (frX.up (k := 11) (i := t) (v := -1) (by decide))) (frX.up (k := 12) (i := t) (v := -1) (by decide)))) v4
  unfold f_X1_finishRead
  rw [x_hasBegun h, xb1_some, ha, Int.toNat_natCast, if_pos (c := (0 ≤ (t : Int) ∧ (t : Int) ≤ 1) ∧ s 10 t ≠ -1) ⟨by omega, hbg⟩, if_neg n10, f_isRoot_1 hb hr, if_neg n10, if_pos (i_in ha ht), i_ix ha]
  simp only [xlet_eq]
  rw [L1, xb1_some, k1, xb1_some, v1, xb2_some, f_isAddress_1 hv8 w64, if_neg n10, if_pos (i_in hv8 w64), i_ix hv8, if_pos (i_in hb hr), i_ix hb]
  have v2 : v.toInt = sFinV s t := v2
  have v3 : RX u M2 (sMend (sFin1 s t) (s 11 t)) := v3
  unfold sFin
  rw [hw, Int.toNat_natCast]
  by_cases c : sMend (sFin1 s t) (s 11 t) 1 w = s 11 t
  · obtain ⟨M3, q1, q2, q3⟩ := x_writeMended v3 j1.1 hv8 w64 v2 (fun _ => y.2.2)
    rw [if_pos (by rw [i_eq, v3.w w64, h.p ht]; exact c), q1, xb1_some, if_pos (i_in hb hr), if_pos c]
    exact ⟨v, _, rfl, v2, q2.up (by decide) v2, frX.tr (frX.tr tr q3) (frX.up (by decide))⟩
  · rw [if_neg (by rw [i_eq, v3.w w64, h.p ht]; exact c), if_neg c]
    exact ⟨v, _, rfl, v2, v3.up (by decide) v2, frX.tr tr (frX.up (by decide))⟩
def sClW (s : hs) (a n : Nat) : hs := fun k i => if k = 1 ∧ a ≤ i ∧ i < a + n then -2 else s k i
theorem sClW_0 (s : hs) (a : Nat) : sClW s a 0 = s := by
  funext k i; unfold sClW; rw [if_neg (by omega)]
theorem sClW_up (s : hs) (a n : Nat) : up2 (sClW s a n) 1 (a + n) (-2) = sClW s a (n + 1) := by
  funext k i
  rw [up2_ap]
  unfold sClW
  by_cases c1 : k = 1 ∧ i = a + n
  · rw [if_pos c1, if_pos (by omega)]
  · rw [if_neg c1]
    by_cases d1 : k = 1 ∧ a ≤ i ∧ i < a + n
    · rw [if_pos d1, if_pos (by omega)]
    · rw [if_neg d1, if_neg (by omega)]
theorem sClW_end {s : hs} {a n : Nat} (h : ∀ i, a ≤ i → i < a + n → s 3 i = 0) : sClW s a n = sClr s a n := by
  funext k i
  unfold sClW sClr
  by_cases d1 : k = 1 ∧ a ≤ i ∧ i < a + n
  · rw [if_pos d1, if_pos d1]
  · rw [if_neg d1, if_neg d1]
    by_cases d3 : k = 3 ∧ a ≤ i ∧ i < a + n
    · rw [if_pos d3, d3.1, h i d3.2.1 d3.2.2]
    · rw [if_neg d3]
theorem y_leave_loop {a b : Int32} {x n : Nat} (s : hs) (ha : a.toInt = (x : Int)) (hb : b.toInt = (n : Int)) (hn : x + n ≤ 64) : ∀ (d j f : Nat), j + d = n → d < f → ∀ (M : xm) (c : Int32), RY M (sClW s x j) → c.toInt = (j : Int) → ∃ M', g_X10_leaveCopy_48 a b f M c = some M' ∧ RY M' (sClW s x n) ∧ frY M M' := by
  intro d
  induction d with
  | zero =>
    intro j f hj hf M c h hc
    obtain ⟨f, rfl⟩ : ∃ q, f = q + 1 := ⟨f - 1, by omega⟩
    unfold g_X10_leaveCopy_48
    rw [if_pos (by rw [i_le, hb, hc]; omega)]
    exact ⟨M, rfl, by rw [show j = n by omega] at h; exact h, frY.rfl⟩
  | succ d ih =>
    intro j f hj hf M c h hc
    obtain ⟨f, rfl⟩ : ∃ q, f = q + 1 := ⟨f - 1, by omega⟩
    have e := i_bx 41 (b := 41) rfl ha (by omega)
    have e' := yx _ e hc (by omega)
    have q : 41 + x + j = 41 + (x + j) := by omega
    unfold g_X10_leaveCopy_48
    rw [if_neg (by rw [i_le, hb, hc]; omega), if_pos e'.1, e'.2, xlet_eq, xlet_eq, q]
    have h1 : RY (up2 M 1 (41 + (x + j)) (-2)) (up2 (sClW s x j) 1 (x + j) (-2)) := RY.up h (k := 1) (i := x + j) (yd_i (show x + j < 64 by omega) (by decide) (by decide)) (by decide) rfl
    rw [sClW_up] at h1
    obtain ⟨M', k1, k2, k3⟩ := ih (j + 1) f (by omega) (by omega) _ (c + 1) h1 (by rw [i_add hc (b := 1) rfl (by omega) (by omega)]; omega)
    exact ⟨M', k1, k2, frY.tr (frY.up (by omega)) k3⟩
theorem copy_marks {s : hs} (o : Ok s) (l : Lay s) {c n : Nat} (hc : c < 64) (h1 : s 1 c = 999 + n) (hn : 1 ≤ n) (h3 : s 3 c = 0) (hl : c + n ≤ 64) : ∀ i, c ≤ i → i < c + n → s 3 i = 0 := fun i i1 i2 => by
  by_cases q : i = c
  · rw [q]; exact h3
  · have a1 := l.2.1 c hc (by omega) (i - c) (by omega) (by omega)
    rw [show c + (i - c) = i by omega] at a1
    have b := o.m (show i < 64 by omega)
    have l4 := l.2.2.2.1 i (by omega)
    omega
theorem y_leaveCopy {M : xm} {s : hs} (h : RY M s) (o : Ok s) (l : Lay s) {a : Int32} {x : Nat} (ha : a.toInt = (x : Int)) (hx : x < 64) (hh : 1000 ≤ s 1 x) (h3 : s 3 x = 0) : ∃ M', f_X10_leaveCopy M a = some M' ∧ RY M' (if (x : Int) + sSz s x = 8 * ((x : Int) / 8) + s 6 ((x : Int) / 8).toNat then sClr (up2 s 6 ((x : Int) / 8).toNat (s 6 ((x : Int) / 8).toNat - sSz s x)) x (sSz s x) else s) ∧ frY M M' := by
  obtain ⟨n, hn, m1, m2, m3, m4⟩ := head_n o l hx hh
  obtain ⟨z, z1, z2⟩ := y_sizeOf h o ha hx
  have z2' : z.toInt = (n : Int) := by rw [z2, m1]; omega
  have e8 := i_div (x := a) (y := 8) (b := 8) ha rfl (by omega) (by omega) (by omega)
  have e8' : (a / 8).toInt = ((x / 8 : Nat) : Int) := by rw [e8]; omega
  have e := yx 21 (b := 21) rfl e8' (by omega)
  have u6 := o.u (show x / 8 < 8 by omega)
  have s1 := i_add ha z2' (by omega) (by omega)
  have s2 := i_add (i_mul (x := 8) (a := 8) rfl e8' (by omega) (by omega)) (h.u (show x / 8 < 8 by omega)) (by omega) (by omega)
  have ei : ((x : Int) / 8).toNat = x / 8 := by omega
  have l1 := l.1 x hx hh
  unfold f_X10_leaveCopy
  rw [xlet_eq, z1, xb1_some, if_pos e.1, e.2, xlet_eq, m2, ei]
  by_cases c3 : (x : Int) + n = 8 * ((x : Int) / 8) + s 6 (x / 8)
  · rw [if_pos (by rw [i_eq, s1, s2]; omega), if_pos c3]
    have h1 : RY (up2 M 1 (21 + x / 8) (M 1 (21 + x / 8) - z)) (up2 s 6 (x / 8) (s 6 (x / 8) - n)) := RY.up h (k := 6) (i := x / 8) (yd_i (show x / 8 < 8 by omega) (by decide) (by decide)) (by decide) (i_sub (h.u (by omega)) z2' (by omega) (by omega))
    obtain ⟨M', k1, k2, k3⟩ := y_leave_loop (up2 s 6 (x / 8) (s 6 (x / 8) - n)) ha z2' m3 n 0 xfuel (by omega) (by unfold xfuel; omega) _ 0 (by rw [sClW_0]; exact h1) rfl
    rw [k1, xb1_some]
    rw [sClW_end (s := up2 s 6 (x / 8) (s 6 (x / 8) - n)) (copy_marks o l hx m1 hn.1 h3 m3)] at k2
    exact ⟨M', rfl, k2, frY.tr (frY.up (by omega)) k3⟩
  · rw [if_neg (by rw [i_eq, s1, s2]; omega), if_neg c3]
    exact ⟨M, rfl, h, frY.rfl⟩
theorem y_finishNow {M : xm} {s : hs} {G : Nat → Prop} (h : RY M s) (hi : In s G no 6) {a b : Int32} {t r : Nat} (ha : a.toInt = (t : Int)) (ht : t < 2) (hb : b.toInt = (r : Int)) (hr : r < 6) (hbg : s 10 t ≠ -1) : ∃ v M', f_X10_finishNow M a b = some (v, M') ∧ v.toInt = sFinV s t ∧ RY M' (sFin s t r) ∧ frY M M' := by
  have ⟨o, l, f2, g, rg⟩ := hi
  obtain ⟨G', i1, i2, i3⟩ := hi.fin1 ht hbg
  obtain ⟨G2, j1, j2, j3, j4⟩ := i1.mend i2
  have nv := finV_ne hi ht hbg
  have y := j3 nv
  have op := o.p ht
  have ot := o.t ht
  have oc := o.c ht
  obtain ⟨g1, g2, g3, g4, g5, g6, g7, _⟩ := g
  obtain ⟨w, hw⟩ : ∃ w : Nat, s 10 t = w := ⟨(s 10 t).toNat, by omega⟩
  have w64 : w < 64 := by omega
  have e37 := yx 37 (b := 37) rfl ha (by omega)
  have e39 := yx 39 (b := 39) rfl ha (by omega)
  have e35 := yx 35 (b := 35) rfl ha (by omega)
  have hp := h.p ht hbg
  have hc := h.c ht hbg
  have hw6 : (M 1 (35 + t)).toInt = (w : Int) := by rw [h.t ht, hw]
  have e41 := yx 41 (b := 41) rfl hw6 (by omega)
  have e29 := yx 29 (b := 29) rfl hb (by omega)
  unfold f_X10_finishNow
  simp only [xlet_eq]
  rw [if_pos e37.1, if_pos e39.1, if_pos e35.1, e37.2, e39.2, e35.2]
  have mp := ptr.mp i1.1 i1.2.2.2.1 i2
  have fin : ∀ M7, RY M7 (sSettle s (s 11 t) (s 12 t)) → frY M M7 → ∃ v M', (xb2 (f_X10_mended (up2 (up2 (up2 M7 1 (35 + t) (-1 : Int32)) 1 (37 + t) (0 : Int32)) 1 (39 + t) (0 : Int32)) (M 1 (37 + t))) (fun v13 M14 => if xin ((41 : Int32) + (M 1 (35 + t))) 9878 = true then (if (M14 1 (Int32.toNatClampNeg ((41 : Int32) + (M 1 (35 + t))))) = (M 1 (37 + t)) then (if v13 = (M 1 (37 + t)) then if xin ((29 : Int32) + b) 9878 = true then some (v13, up2 M14 1 (Int32.toNatClampNeg ((29 : Int32) + b)) v13) else none else xb1 (f_X10_write (up2 M14 1 (Int32.toNatClampNeg ((41 : Int32) + (M 1 (35 + t)))) v13) (5 : Int32) (M 1 (35 + t))) (fun M25 => if xin ((29 : Int32) + b) 9878 = true then some (v13, up2 M25 1 (Int32.toNatClampNeg ((29 : Int32) + b)) v13) else none)) else if xin ((29 : Int32) + b) 9878 = true then some (v13, up2 M14 1 (Int32.toNatClampNeg ((29 : Int32) + b)) v13) else none) else none)) = some (v, M') ∧ v.toInt = sFinV s t ∧ RY M' (sFin s t r) ∧ frY M M' := by
    intro M7 h7 f7
    have h8 : RY (up2 (up2 (up2 M7 1 (35 + t) (-1 : Int32)) 1 (37 + t) (0 : Int32)) 1 (39 + t) (0 : Int32)) (sSetT (sSettle s (s 11 t) (s 12 t)) t (-1) (-1) (-1)) := h7.setT ht rfl (fun q => absurd rfl q)
    rw [settle_setT] at h8
    obtain ⟨v, M2, v1, v2, v3, v4⟩ := y_mended h8 i1.1 i1.2.1 i1.2.2.1 hp mp (fun q => absurd q i3) j1.1
    have v2 : v.toInt = sFinV s t := v2
    have v3 : RY M2 (sMend (sFin1 s t) (s 11 t)) := v3
    have tr := frY.tr (frY.tr f7 (frY.tr (frY.tr (frY.up (j := 35 + t) (v := -1) (by omega)) (frY.up (j := 37 + t) (v := 0) (by omega))) (frY.up (j := 39 + t) (v := 0) (by omega)))) v4
    rw [v1, xb2_some, if_pos e41.1, e41.2, if_pos e29.1, e29.2]
    unfold sFin
    rw [hw, Int.toNat_natCast]
    by_cases c : sMend (sFin1 s t) (s 11 t) 1 w = s 11 t
    · rw [if_pos (by rw [i_eq, v3.w w64, hp]; exact c), if_pos c]
      unfold sWM
      by_cases c2 : s 11 t = sFinV s t
      · rw [if_pos (by rw [i_eq, v2, hp]; exact c2.symm), if_pos (Or.inr (by rw [c]; exact c2))]
        exact ⟨v, _, rfl, v2, RY.up v3 (k := 8) (i := r) (yd_i hr (by decide) (by decide)) (by decide) v2, frY.tr tr (frY.up (by omega))⟩
      · rw [if_neg (by rw [i_eq, v2, hp]; exact fun q => c2 q.symm), if_neg (fun q => q.elim nv (fun q => c2 (by rw [← c]; exact q)))]
        have h9 : RY (up2 M2 1 (41 + w) v) (up2 (sMend (sFin1 s t) (s 11 t)) 1 w (sFinV s t)) := RY.up v3 (k := 1) (i := w) (yd_i w64 (by decide) (by decide)) (by decide) v2
        have yr := y.2.2
        have yr : -1 ≤ sFinV s t ∧ sFinV s t ≤ 191 := yr
        have o9 : Ok (up2 (sMend (sFin1 s t) (s 11 t)) 1 w (sFinV s t)) := j1.1.up (by decide) ⟨by omega, by omega⟩
        obtain ⟨M3, q1, q2, q3⟩ := y_write h9 o9 (a := 5) (b := M 1 (35 + t)) (kd := 5) rfl hw6 (by omega) (by omega)
        rw [q1, xb1_some, if_pos e29.1]
        exact ⟨v, _, rfl, v2, RY.up q2 (k := 8) (i := r) (yd_i hr (by decide) (by decide)) (by decide) v2, frY.tr (frY.tr (frY.tr tr (frY.up (by omega))) q3) (frY.up (by omega))⟩
    · rw [if_neg (by rw [i_eq, v3.w w64, hp]; exact c), if_neg c]
      exact ⟨v, _, rfl, v2, RY.up v3 (k := 8) (i := r) (yd_i hr (by decide) (by decide)) (by decide) v2, frY.tr tr (frY.up (by omega))⟩
  by_cases c1 : s 12 t = -1
  · have es : sSettle s (s 11 t) (s 12 t) = s := by unfold sSettle; rw [if_pos c1]
    rw [if_pos (by rw [i_eq, hc, c1]; rfl), if_pos (by rw [i_eq, hc, c1]; rfl)]
    exact fin M (by rw [es]; exact h) frY.rfl
  · obtain ⟨h2, ⟨a1, a2, a3⟩, a4, a5⟩ := g5 t ht hbg c1
    have p0 : s 11 t ≠ -1 := fun z => a5 (Or.inl z)
    have p0' : 0 ≤ s 11 t ∧ s 11 t ≤ 191 := by omega
    have wl := sWh_lt o p0'
    obtain ⟨x, hx⟩ : ∃ x : Nat, s 12 t = x := ⟨(s 12 t).toNat, by omega⟩
    have x64 : x < 64 := by omega
    rw [hx, Int.toNat_natCast] at a1 a2 a3
    have hcx : (M 1 (39 + t)).toInt = (x : Int) := by rw [hc, hx]
    rw [if_neg (by rw [i_eq, hc]; exact c1), y_needsMove h o hp op, xb1_some]
    by_cases c2 : sMust s (sWh s (s 11 t))
    · obtain ⟨L, L1, L2⟩ := y_whereOf h o hp p0'
      have lv := l.live8 o (show x / 8 < 8 by omega)
      obtain ⟨M1, k1, k2, k3⟩ := y_tell h o L2 hcx wl x64 a1 lv.2
      have es : sSettle s (s 11 t) (s 12 t) = sTell s (sWh s (s 11 t)) x := by
        unfold sSettle; rw [if_neg c1, if_pos c2, hx, Int.toNat_natCast]
      rw [if_pos (show sNeed s (s 11 t) from ⟨a5, c2⟩), if_neg n10, L1, xb1_some, k1, xb1_some]
      exact fin M1 (by rw [es]; exact k2) k3
    · obtain ⟨M1, k1, k2, k3⟩ := y_leaveCopy h o l hcx x64 a1 a2
      have es : sSettle s (s 11 t) (s 12 t) = if (x : Int) + sSz s x = 8 * ((x : Int) / 8) + s 6 ((x : Int) / 8).toNat then sClr (up2 s 6 ((x : Int) / 8).toNat (s 6 ((x : Int) / 8).toNat - sSz s x)) x (sSz s x) else s := by
        unfold sSettle; rw [if_neg c1, if_neg c2, hx, Int.toNat_natCast]
      rw [if_neg (fun q : sNeed s (s 11 t) => c2 q.2), if_pos rfl, if_neg (by rw [i_eq, hc]; exact c1), k1, xb1_some]
      exact fin M1 (by rw [es]; exact k2) k3
