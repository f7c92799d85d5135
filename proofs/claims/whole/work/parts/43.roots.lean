/-! words and roots are mended -/
theorem sMend_0 {s : hs} {p : Int} {i : Nat} (hi : i ≠ 13) : sMend s p 0 i = s 0 i := by
  unfold sMend
  split
  · rfl
  · split
    · unfold sPush; split
      · rw [up2_ap, if_neg (fun z => hi z.2), up2_ap, if_neg (by omega), sMark_k i (by decide) (by decide)]
      · rfl
    · split
      · split
        · exact sMove_0 i
        · rfl
      · rfl
theorem sMove_k {s : hs} {a k : Nat} (i : Nat) (h1 : k ≠ 1) (h2 : k ≠ 2) (h3 : k ≠ 3) (h5 : k ≠ 5) (h6 : k ≠ 6) (h7 : k ≠ 7) (h9 : k ≠ 9) (h13 : k ≠ 13) : sMove s a k i = s k i := by
  unfold sMove
  rw [sTell_k i h2 h3 h5 h13, sCopy_k i h1, sGive_k i h6 h7 h9]
/-- what mending leaves alone -/
theorem sMend_k {s : hs} {p : Int} {k : Nat} (i : Nat) (hk : k = 8 ∨ k = 10 ∨ k = 11 ∨ k = 12) : sMend s p k i = s k i := by
  have h := hk
  unfold sMend
  split
  · rfl
  · split
    · unfold sPush; split
      · rw [up2_ap, if_neg (by omega), up2_ap, if_neg (by omega), sMark_k i (by omega) (by omega)]
      · rfl
    · split
      · split
        · exact sMove_k i (by omega) (by omega) (by omega) (by omega) (by omega) (by omega) (by omega) (by omega)
        · rfl
      · rfl
theorem sMendV_2 {s : hs} (o : Ok s) {p : Int} (hp : -1 ≤ p) : sMendV s p = -2 ↔ (sNeed s p ∧ ¬ sRoom s 1 (sSz s (sWh s p))) := by
  have og := o.good
  unfold sMendV
  by_cases cg : sGood s p
  · rw [if_pos cg]
    exact ⟨fun q => by omega, fun q => absurd cg q.1.1⟩
  · rw [if_neg cg]
    by_cases c1 : s 0 14 = 1
    · rw [if_pos c1]
      exact ⟨fun q => by omega, fun q => by have := q.1.2.1; omega⟩
    · rw [if_neg c1]
      by_cases cn : sMust s (sWh s p)
      · rw [if_pos cn]
        by_cases cr : sRoom s 1 (sSz s (sWh s p))
        · rw [if_pos cr]
          exact ⟨fun q => by omega, fun q => absurd cr q.2⟩
        · rw [if_neg cr]
          exact ⟨fun _ => ⟨⟨cg, cn⟩, cr⟩, fun _ => rfl⟩
      · rw [if_neg cn]
        exact ⟨fun q => by omega, fun q => absurd q.1.2 cn⟩
theorem sMend_2 {s : hs} {p : Int} (h : sNeed s p ∧ ¬ sRoom s 1 (sSz s (sWh s p))) : sMend s p = s := by
  unfold sMend
  rw [if_neg h.1.1, if_neg (by have := h.1.2.1; omega), if_pos h.1.2, if_neg h.2]
/-- a word is mended: what holds stays -/
theorem In.mw {s : hs} {G e : Nat → Prop} {k w : Nat} (h : In s G e k) (hw : w < 64) (hv : -1 ≤ s 1 w ∧ s 1 w ≤ 191) (hp : ptr s G (s 1 w)) : ∃ G', In (sMW s w) G' e k ∧ (∀ q, ptr s G q → ptr (sMW s w) G' q) ∧ (sMendV s (s 1 w) ≠ -2 → ptr (sMW s w) G' (sMendV s (s 1 w)) ∧ sGood (sMW s w) (sMendV s (s 1 w)) ∧ -1 ≤ sMendV s (s 1 w) ∧ sMendV s (s 1 w) ≤ 191 ∧ sMW s w 1 w = sMendV s (s 1 w)) ∧ (∀ x, x ≠ w → s 1 x ≠ -2 → sMW s w 1 x = s 1 x) := by
  obtain ⟨G', i1, i2, i3, i4⟩ := h.mend hp
  have ew := i4 w (by omega)
  unfold sMW sWM
  by_cases c : sMendV s (s 1 w) = -2 ∨ sMend s (s 1 w) 1 w = sMendV s (s 1 w)
  · rw [if_pos c]
    refine ⟨G', i1, i2, fun z => ?_, fun x _ hx => i4 x hx⟩
    have y := i3 z
    exact ⟨y.1, y.2.1, y.2.2.1, y.2.2.2, c.elim (fun q => absurd q z) id⟩
  · rw [if_neg c]
    have z : sMendV s (s 1 w) ≠ -2 := fun q => c (Or.inl q)
    have y := i3 z
    have i5 := i1.word (x := w) hw (by rw [ew]; exact hv) y.2.2 y.1 y.2.1
    have i6 := i5.wr (kd := 5) (v := w) (by omega) (by omega)
    refine ⟨G', i6, i2, fun _ => ⟨y.1, y.2.1, y.2.2.1, y.2.2.2, ?_⟩, fun x hx hx2 => ?_⟩
    · rw [sWr_k w (by decide), up2_ap, if_pos ⟨rfl, rfl⟩]
    · rw [sWr_k x (by decide), up2_ap, if_neg (fun z => hx z.2)]
      exact i4 x hx2
theorem sMW_0 {s : hs} {w i : Nat} (hi : i ≠ 13) : sMW s w 0 i = s 0 i := by
  unfold sMW sWM
  split
  · exact sMend_0 hi
  · rw [sWr_k i (by decide), up2_ap, if_neg (by omega)]; exact sMend_0 hi
theorem sMW_k {s : hs} {w k : Nat} (i : Nat) (hk : k = 8 ∨ k = 10 ∨ k = 11 ∨ k = 12) : sMW s w k i = s k i := by
  unfold sMW sWM
  split
  · exact sMend_k i hk
  · rw [sWr_k i (by omega), up2_ap, if_neg (by omega)]; exact sMend_k i hk
theorem y_mendWord {M : xm} {s : hs} {G e : Nat → Prop} {k : Nat} (h : RY M s) (hi : In s G e k) {a : Int32} {w : Nat} (ha : a.toInt = (w : Int)) (hw : w < 64) (hp : ptr s G (s 1 w)) (hr : sNeed s (s 1 w) → sRoom s 1 (sSz s (sWh s (s 1 w)))) : ∃ M', f_X10_mendWord M a = some M' ∧ RY M' (sMW s w) ∧ frY M M' := by
  have ⟨o, l, f2, g, _⟩ := hi
  have mp := ptr.mp o g hp
  obtain ⟨G', i1, i2, i3, i4⟩ := hi.mend hp
  have e := yx 41 (b := 41) rfl ha (by omega)
  obtain ⟨r, M1, r1, r2, r3, r4⟩ := y_mended h o l f2 (a := M 1 (41 + w)) (h.w hw) mp hr i1.1
  have z : sMendV s (s 1 w) ≠ -2 := fun q => by
    have := (sMendV_2 o mp.1).mp q
    exact this.2 (hr this.1)
  unfold f_X10_mendWord sMW sWM
  rw [if_pos e.1, e.2, r1, xb2_some, xlet_eq]
  by_cases c : sMend s (s 1 w) 1 w = sMendV s (s 1 w)
  · rw [if_pos (by rw [i_eq, r2, r3.w hw]; exact c.symm), if_pos (Or.inr c)]
    exact ⟨M1, rfl, r3, r4⟩
  · rw [if_neg (by rw [i_eq, r2, r3.w hw]; exact fun q => c q.symm), if_neg (fun q => q.elim z c)]
    have y := i3 z
    have h2 : RY (up2 M1 1 (41 + w) r) (up2 (sMend s (s 1 w)) 1 w (sMendV s (s 1 w))) := RY.up r3 (k := 1) (i := w) (yd_i hw (by decide) (by decide)) (by decide) r2
    have o2 : Ok (up2 (sMend s (s 1 w)) 1 w (sMendV s (s 1 w))) := i1.1.up (by decide) ⟨by omega, by omega⟩
    obtain ⟨M2, k1, k2, k3⟩ := y_write h2 o2 (a := 5) (b := a) (kd := 5) rfl ha (by omega) (by omega)
    rw [k1, xb1_some]
    exact ⟨M2, rfl, k2, frY.tr (frY.tr r4 (frY.up (by omega))) k3⟩
theorem x_writeMended {u : Nat} {M : xm} {s : hs} (h : RX u M s) (o : Ok s) {a b : Int32} {w : Nat} {m : Int} (ha : a.toInt = (w : Int)) (hw : w < 64) (hb : b.toInt = m) (hm : m ≠ -2 → -1 ≤ m ∧ m ≤ 191) : ∃ M', f_X1_writeMended u M a b = some M' ∧ RX u M' (sWM s w m) ∧ frX u M M' := by
  unfold f_X1_writeMended sWM
  by_cases c : m = -2
  · rw [if_pos (by rw [i_eq, hb, c]; rfl), if_pos (Or.inl c)]
    exact ⟨M, rfl, h, frX.rfl⟩
  · rw [if_neg (by rw [i_eq, hb]; exact c), f_isAddress_1 ha hw, if_neg n10, if_pos (i_in ha hw), i_ix ha, xlet_eq]
    by_cases c2 : s 1 w = m
    · rw [if_pos (by rw [i_eq, h.w hw, hb]; exact c2), if_pos (Or.inr c2)]
      exact ⟨M, rfl, h, frX.rfl⟩
    · rw [if_neg (by rw [i_eq, h.w hw, hb]; exact c2), if_neg (fun q => q.elim c c2)]
      have h1 : RX u (up2 M (u + 1) w b) (up2 s 1 w m) := h.up (by decide) hb
      have := hm c
      have o1 : Ok (up2 s 1 w m) := o.up (by decide) ⟨by omega, by omega⟩
      obtain ⟨M2, k1, k2, k3⟩ := x_write h1 o1 (z := up2 M (u + 1) w b u 17) (a := 5) (b := a) (kd := 5) h1.clock rfl ha
      rw [k1, xb1_some]
      exact ⟨M2, rfl, k2, frX.tr (frX.up (by decide)) k3⟩
/-- a word is mended by the class -/
theorem x_mendWord {u : Nat} {M : xm} {s : hs} {G e : Nat → Prop} {k : Nat} (h : RX u M s) (hi : In s G e k) {a : Int32} {w : Nat} (ha : a.toInt = (w : Int)) (hw : w < 64) (hp : ptr s G (s 1 w)) : ∃ r M1 M', f_X1_mend u M (M (u + 1) w) = some (r, M1) ∧ r.toInt = sMendV s (s 1 w) ∧ f_X1_writeMended u M1 a r = some M' ∧ RX u M' (sMW s w) ∧ frX u M M' := by
  have ⟨o, l, f2, g, _⟩ := hi
  have mp := ptr.mp o g hp
  obtain ⟨G', i1, i2, i3, i4⟩ := hi.mend hp
  obtain ⟨r, M1, r1, r2, r3, r4⟩ := x_mend h o l (a := M (u + 1) w) (h.w hw) mp
  obtain ⟨M2, k1, k2, k3⟩ := x_writeMended r3 i1.1 ha hw r2 (fun z => (i3 z).2.2)
  exact ⟨r, M1, M2, r1, r2, k1, k2, frX.tr r4 k3⟩
/-- a root is mended: what holds stays -/
theorem In.mr {s : hs} {G e : Nat → Prop} {k r : Nat} (h : In s G e k) (hr : r < 6) : ∃ G', In (sMR s r) G' e (if r = k ∧ sMendV s (s 8 r) ≠ -2 then k + 1 else k) ∧ (∀ q, ptr s G q → ptr (sMR s r) G' q) := by
  have hp := h.2.2.2.1.2.1 r hr
  obtain ⟨G', i1, i2, i3, i4⟩ := h.mend hp
  unfold sMR
  by_cases c : sMendV s (s 8 r) = -2
  · rw [if_pos c, if_neg (fun z => z.2 c)]
    exact ⟨G', i1, i2⟩
  · rw [if_neg c]
    have y := i3 c
    have i5 := i1.root (r := r) (v := sMendV s (s 8 r)) y.2.2 y.1 (fun _ => y.2.1)
    refine ⟨G', ?_, i2⟩
    by_cases q : r = k
    · rw [if_pos ⟨q, c⟩]
      obtain ⟨a1, a2, a3, a4, a5⟩ := i5
      refine ⟨a1, a2, a3, a4, fun x hx => ?_⟩
      by_cases z : x = r
      · show sGood (sMend s (s 8 r)) (up2 (sMend s (s 8 r)) 8 r (sMendV s (s 8 r)) 8 x)
        rw [up2_ap, if_pos ⟨rfl, z⟩]
        exact y.2.1
      · exact a5 x (by omega)
    · rw [if_neg (fun z => q z.1)]
      exact i5
theorem sMR_0 {s : hs} {r i : Nat} (hi : i ≠ 13) : sMR s r 0 i = s 0 i := by
  unfold sMR
  split
  · exact sMend_0 hi
  · rw [up2_ap, if_neg (by omega)]; exact sMend_0 hi
theorem sMR_k {s : hs} {r k : Nat} (i : Nat) (hk : k = 10 ∨ k = 11 ∨ k = 12) : sMR s r k i = s k i := by
  unfold sMR
  split
  · exact sMend_k i (by omega)
  · rw [up2_ap, if_neg (by omega)]; exact sMend_k i (by omega)
/-- while marking all roots can be mended -/
theorem In.mrs1 {e : Nat → Prop} : ∀ (d r : Nat) (s : hs) (G : Nat → Prop), r + d = 6 → In s G e r → s 0 14 = 1 → ∃ G', In (sMRs s d r) G' e 6 := by
  intro d
  induction d with
  | zero => intro r s G hr h _; exact ⟨G, by rw [show r = 6 by omega] at h; exact h⟩
  | succ d ih =>
    intro r s G hr h h1
    have hp := h.2.2.2.1.2.1 r (by omega)
    have mp := ptr.mp h.1 h.2.2.2.1 hp
    obtain ⟨G', i1, _⟩ := h.mr (r := r) (by omega)
    have z : sMendV s (s 8 r) ≠ -2 := fun q => by
      have := (sMendV_2 h.1 mp.1).mp q
      have := this.1.2.1
      omega
    rw [if_pos ⟨rfl, z⟩] at i1
    exact ih (r + 1) (sMR s r) G' (by omega) i1 (by rw [sMR_0 (by decide)]; exact h1)
theorem In.weak {s : hs} {G e : Nat → Prop} {k : Nat} (h : In s G e k) : In s G e 0 := by
  obtain ⟨a1, a2, a3, a4, _⟩ := h
  exact ⟨a1, a2, a3, a4, fun _ q => absurd q (by omega)⟩
theorem y_mendRoots_loop {ee : Nat → Prop} : ∀ (d r n : Nat) (M : xm) (s : hs) (G : Nat → Prop) (x : Int32), r + d = 6 → d < n → In s G ee 0 → RY M s → x.toInt = (r : Int) → ∃ M', g_X10_mendRoots_2 n M x = some M' ∧ RY M' (sMRs s d r) ∧ frY M M' := by
  intro d
  induction d with
  | zero =>
    intro r n M s G x hr hn hi h hx
    obtain ⟨n, rfl⟩ : ∃ q, n = q + 1 := ⟨n - 1, by omega⟩
    unfold g_X10_mendRoots_2
    rw [if_pos (by rw [i_le, hx]; simp only [Int32.reduceToInt]; omega)]
    exact ⟨M, rfl, h, frY.rfl⟩
  | succ d ih =>
    intro r n M s G x hr hn hi h hx
    obtain ⟨n, rfl⟩ : ∃ q, n = q + 1 := ⟨n - 1, by omega⟩
    have ⟨o, l, f2, g, _⟩ := hi
    have hp := g.2.1 r (by omega)
    have mp := ptr.mp o g hp
    have e := yx 29 (b := 29) rfl hx (by omega)
    obtain ⟨G', j1, _⟩ := hi.mr (r := r) (by omega)
    have j1 : In (sMR s r) G' ee 0 := j1.weak
    have nx : (x + 1).toInt = ((r + 1 : Nat) : Int) := by rw [i_add hx (b := 1) rfl (by omega) (by omega)]; omega
    have cm := y_canMend h o l (a := M 1 (29 + r)) (h.r (show r < 6 by omega)) ⟨mp.1, mp.2.1⟩ (fun q => (mp.2.2 q).1)
    unfold g_X10_mendRoots_2 sMRs
    rw [if_neg (by rw [i_le, hx]; simp only [Int32.reduceToInt]; omega), if_pos e.1, e.2, cm, xb1_some]
    simp only [xlet_eq]
    by_cases c : sNeed s (s 8 r) ∧ ¬ sRoom s 1 (sSz s (sWh s (s 8 r)))
    · rw [if_pos c, if_pos rfl]
      have e1 : sMR s r = s := by
        unfold sMR; rw [if_pos ((sMendV_2 o mp.1).mpr c), sMend_2 c]
      rw [e1] at j1 ⊢
      exact ih (r + 1) n M s G' (x + 1) (by omega) (by omega) j1 h nx
    · rw [if_neg c, if_neg n10]
      have z : sMendV s (s 8 r) ≠ -2 := fun q => c ((sMendV_2 o mp.1).mp q)
      obtain ⟨G2, m1, m2, m3, _⟩ := hi.mend hp
      obtain ⟨v, M1, v1, v2, v3, v4⟩ := y_mended h o l f2 (a := M 1 (29 + r)) (h.r (show r < 6 by omega)) mp (fun q => by
        by_cases y : sRoom s 1 (sSz s (sWh s (s 8 r)))
        · exact y
        · exact absurd ⟨q, y⟩ c) m1.1
      rw [v1, xb2_some]
      have e1 : sMR s r = up2 (sMend s (s 8 r)) 8 r (sMendV s (s 8 r)) := by unfold sMR; rw [if_neg z]
      have h2 : RY (up2 M1 1 (29 + r) v) (sMR s r) := by
        rw [e1]
        exact RY.up v3 (k := 8) (i := r) (yd_i (show r < 6 by omega) (by decide) (by decide)) (by decide) v2
      obtain ⟨M', k1, k2, k3⟩ := ih (r + 1) n _ _ G' (x + 1) (by omega) (by omega) j1 h2 nx
      exact ⟨M', k1, k2, frY.tr (frY.tr v4 (frY.up (by omega))) k3⟩
theorem y_mendRoots {M : xm} {s : hs} {G e : Nat → Prop} (h : RY M s) (hi : In s G e 0) : ∃ M', f_X10_mendRoots M = some M' ∧ RY M' (sMRs s 6 0) ∧ frY M M' := by
  obtain ⟨M', k1, k2, k3⟩ := y_mendRoots_loop 6 0 xfuel M s G 0 (by omega) (by unfold xfuel; omega) hi h rfl
  unfold f_X10_mendRoots
  rw [k1, xb1_some]
  exact ⟨M', rfl, k2, k3⟩
theorem x_mendRoots_loop {u : Nat} {ee : Nat → Prop} : ∀ (d r n : Nat) (M : xm) (s : hs) (G : Nat → Prop) (x : Int32), r + d = 6 → d < n → In s G ee 0 → RX u M s → x.toInt = (r : Int) → ∃ M', g_X1_mendRoots_2 u n M x = some M' ∧ RX u M' (sMRs s d r) ∧ frX u M M' := by
  intro d
  induction d with
  | zero =>
    intro r n M s G x hr hn hi h hx
    obtain ⟨n, rfl⟩ : ∃ q, n = q + 1 := ⟨n - 1, by omega⟩
    unfold g_X1_mendRoots_2
    rw [if_pos (by rw [i_le, hx]; simp only [Int32.reduceToInt]; omega)]
    exact ⟨M, rfl, h, frX.rfl⟩
  | succ d ih =>
    intro r n M s G x hr hn hi h hx
    obtain ⟨n, rfl⟩ : ∃ q, n = q + 1 := ⟨n - 1, by omega⟩
    have ⟨o, l, f2, g, _⟩ := hi
    have hp := g.2.1 r (by omega)
    have mp := ptr.mp o g hp
    obtain ⟨G', j1, _⟩ := hi.mr (r := r) (by omega)
    have j1 : In (sMR s r) G' ee 0 := j1.weak
    have nx : (x + 1).toInt = ((r + 1 : Nat) : Int) := by rw [i_add hx (b := 1) rfl (by omega) (by omega)]; omega
    obtain ⟨v, M1, v1, v2, v3, v4⟩ := x_mend h o l (a := M (u + 8) r) (h.r (show r < 6 by omega)) mp
    unfold g_X1_mendRoots_2 sMRs
    rw [if_neg (by rw [i_le, hx]; simp only [Int32.reduceToInt]; omega), if_pos (i_in hx (by omega)), i_ix hx, v1, xb2_some]
    simp only [xlet_eq]
    by_cases c : sMendV s (s 8 r) = -2
    · rw [if_pos (by rw [i_eq, v2, c]; rfl)]
      have e1 : sMR s r = sMend s (s 8 r) := by unfold sMR; rw [if_pos c]
      rw [e1] at j1 ⊢
      obtain ⟨M', k1, k2, k3⟩ := ih (r + 1) n M1 _ G' (x + 1) (by omega) (by omega) j1 v3 nx
      exact ⟨M', k1, k2, frX.tr v4 k3⟩
    · rw [if_neg (by rw [i_eq, v2]; exact c)]
      have e1 : sMR s r = up2 (sMend s (s 8 r)) 8 r (sMendV s (s 8 r)) := by unfold sMR; rw [if_neg c]
      have h2 : RX u (up2 M1 (u + 8) r v) (sMR s r) := by
        rw [e1]
        exact v3.up (by decide) v2
      obtain ⟨M', k1, k2, k3⟩ := ih (r + 1) n _ _ G' (x + 1) (by omega) (by omega) j1 h2 nx
      exact ⟨M', k1, k2, frX.tr (frX.tr v4 (frX.up (by decide))) k3⟩
theorem x_mendRoots {u : Nat} {M : xm} {s : hs} {G e : Nat → Prop} (h : RX u M s) (hi : In s G e 0) : ∃ M', f_X1_mendRoots u M = some M' ∧ RX u M' (sMRs s 6 0) ∧ frX u M M' := by
  obtain ⟨M', k1, k2, k3⟩ := x_mendRoots_loop 6 0 xfuel M s G 0 (by omega) (by unfold xfuel; omega) hi h rfl
  unfold f_X1_mendRoots
  rw [k1, xb1_some]
  exact ⟨M', rfl, k2, k3⟩
