/-! two of them, and choices -/
theorem XEn.two {o v : Nat → Int} {T u : Nat} {M : xm} {s : hs} {xs xe : Int32} {sub e sz k k' : Nat} (hst : XSt o v T u M s xs xe sub e sz k k') {k1 k2 : Nat} {f g : fn} (hf : VX o v k k1 f) (hg : VX o v k1 k2 g) (hk : k2 ≤ k') : ∃ M' n, n ≤ k2 - k ∧ XGo T u xs xe M k M' k2 n ∧ (M' 1004 1).toInt = ((sz + 1 + 1 : Nat) : Int) ∧ (M' 1005 sz).toInt = f s sub ∧ (M' 1005 (sz + 1)).toInt = g s sub ∧ (∀ i, i < sz → M' 1005 i = M 1005 i) ∧ ∀ q, q ≠ 1004 → q ≠ 1005 → M' q = M q := by
  have h1 := hf.1
  have h2 := hg.1
  have ⟨a1, a2, a3, a4, a5, a6, a7, a8, a9, a10, a11, a12⟩ := hst
  obtain ⟨M1, n1, r1, r2, r3, r4, r5, r6⟩ := hf.2 T u M s xs xe sub e sz (hst.sub (Nat.le_refl _) (by omega) a11 (by omega) (fun _ _ _ => rfl))
  obtain ⟨M2, n2, t1, t2, t3, t4, t5, t6⟩ := hg.2 T u M1 s xs xe sub e (sz + 1) (hst.sub (by omega) (by omega) r3 (by omega) r6)
  exact ⟨M2, n1 + n2, by omega, r2.tr t2, t3, by rw [t5 sz (by omega)]; exact r4, t4, fun i hi => (t5 i (by omega)).trans (r5 i hi), fun q c1 c2 => (t6 q c1 c2).trans (r6 q c1 c2)⟩
theorem VX_bin {o v : Nat → Int} {k k1 k2 : Nat} {f g : fn} {op : Int} (hf : VX o v k k1 f) (hg : VX o v k1 k2 g) (mf : Mf f) (mg : Mf g) (ho : o k2 = op) (hop : opJ op) (hb : op = 16 ∨ op = 17 → (∀ s p, f s p = 0 ∨ f s p = 1) ∧ ∀ s p, g s p = 0 ∨ g s p = 1) : VX o v k (k2 + 1) (fun s p => mJ op (f s p) (g s p)) := by
  have h1 := hf.1
  have h2 := hg.1
  refine ⟨by omega, fun T u M s xs xe sub e sz hst => ?_⟩
  have ⟨a1, a2, a3, a4, a5, a6, a7, a8, a9, a10, a11, a12⟩ := hst
  obtain ⟨M1, n1, r1, r2, r3, r4, r5, r6, r7⟩ := XEn.two hst hf hg (by omega)
  obtain ⟨b1, b2⟩ := a10 k2 (by omega) (by omega)
  rw [ho, ← r7 (T + 5) (by omega) (by omega)] at b1
  obtain ⟨w, w1, w2⟩ := x_pop r3 (by omega)
  obtain ⟨y, y1, y2⟩ := x_pop (M := up2 M1 1004 1 w) (sz := sz) (by rw [up2_same]; exact w2) (by omega)
  rw [up2_cell (by decide)] at y1
  obtain ⟨z, z1, z2⟩ := x_joined b1 hop r4 r5 (mf.1 s sub a4 a6) (mg.1 s sub a4 a6) (fun c => ⟨(hb c).1 s sub, (hb c).2 s sub⟩)
  obtain ⟨p, p1, p2⟩ := x_push (M := up2 (up2 M1 1004 1 w) 1004 1 y) (a := z) rfl (by rw [up2_same]; exact y2) (by omega)
  rw [up2_same] at p1
  have nx : (y + 1).toInt = ((sz + 1 : Nat) : Int) := by rw [i_add y2 (b := 1) rfl (by omega) (by omega)]; omega
  obtain ⟨q1, q2, q3, q4⟩ := pushed (M := up2 (up2 M1 1004 1 w) 1004 1 y) (sz := sz) (v := p) nx
  refine ⟨_, n1 + 1, by omega, r2.tr (XGo.one (M' := up2 (up2 (up2 (up2 M1 1004 1 w) 1004 1 y) 1005 sz p) 1004 1 (y + 1)) (k' := k2 + 1) (by omega) a7 (by omega) (fun fu x8 x10 e8 => ⟨x8 + 1, k_next e8 (by omega), ?_⟩)), q1, by rw [q2, p2, z2], fun i hi => by rw [q3 i hi, up2_cell (by decide), up2_cell (by decide), r6 i hi], fun q c1 c2 => by rw [q4 q c1 c2, up2_cell c1, up2_cell c1, r7 q c1 c2]⟩
  simp only [xlet_eq]
  have oo : f_X3_isOfOne (M1 (T + 5) k2) = 0 := by
    unfold f_X3_isOfOne
    rw [if_neg (o_lit b1 43 (by simp only [Int32.reduceToInt]; omega)), if_neg (o_lit b1 18 (by simp only [Int32.reduceToInt]; omega)), if_neg (o_lit b1 10 (by simp only [Int32.reduceToInt]; omega)), if_neg (o_lit b1 11 (by simp only [Int32.reduceToInt]; omega))]
  rw [if_neg (o_lit b1 44 (by simp only [Int32.reduceToInt]; omega)), if_neg (o_lit b1 45 (by simp only [Int32.reduceToInt]; omega)), if_neg (o_lit b1 40 (by simp only [Int32.reduceToInt]; omega)), if_neg (o_lit b1 21 (by simp only [Int32.reduceToInt]; omega)), if_pos oo, w1, xb2_some, y1, xb2_some, z1, xb1_some, p1, xb1_some]
  by_cases c : M1 (T + 5) k2 < 19
  · rw [if_pos c]
  · rw [if_neg c, if_pos]
    rw [i_lt, b1] at c ⊢
    simp only [Int32.reduceToInt] at c ⊢
    omega
theorem VX_if {o v : Nat → Int} {k k1 k2 k3 : Nat} {c : cn} {f g : fn} (hc : VX o v k k1 (mBo c)) (hf : VX o v (k1 + 1) k2 f) (hg : VX o v (k2 + 1) k3 g) (o1 : o k1 = 45) (v1 : v k1 = ((k2 + 1 : Nat) : Int)) (o2 : o k2 = 44) (v2 : v k2 = (k3 : Int)) : VX o v k k3 (fun s p => if c s p = true then f s p else g s p) := by
  have g1 := hc.1
  have g2 := hf.1
  have g3 := hg.1
  refine ⟨by omega, fun T u M s xs xe sub e sz hst => ?_⟩
  have ⟨a1, a2, a3, a4, a5, a6, a7, a8, a9, a10, a11, a12⟩ := hst
  obtain ⟨M1, n1, r1, r2, r3, r4, r5, r6⟩ := hc.2 T u M s xs xe sub e sz (hst.sub (Nat.le_refl _) (by omega) a11 (by omega) (fun _ _ _ => rfl))
  obtain ⟨b1, b2⟩ := a10 k1 (by omega) (by omega)
  rw [o1, ← r6 (T + 5) (by omega) (by omega)] at b1
  rw [v1, ← r6 (T + 6) (by omega) (by omega)] at b2
  obtain ⟨w, w1, w2⟩ := x_pop r3 (by omega)
  have fr1 : ∀ q, q ≠ 1004 → q ≠ 1005 → up2 M1 1004 1 w q = M q := fun q c1 c2 => by rw [up2_cell c1, r6 q c1 c2]
  have sz1 : (up2 M1 1004 1 w 1004 1).toInt = (sz : Int) := by rw [up2_same]; exact w2
  have st1 : ∀ i, i < sz → up2 M1 1004 1 w 1005 i = M 1005 i := fun i hi => by rw [up2_cell (by decide), r5 i hi]
  have rv : (M1 1005 sz).toInt = bI (c s sub) := r4
  by_cases cc : c s sub = true
  · have go1 : XGo T u xs xe M1 k1 (up2 M1 1004 1 w) (k1 + 1) 1 := XGo.one (by omega) a7 (by omega) (fun fu x8 x10 e8 => ⟨x8 + 1, k_next e8 (by omega), by
      simp only [xlet_eq]
      rw [if_neg (o_lit b1 44 (by decide)), if_pos (o_is b1 45 rfl), w1, xb2_some, if_neg (by rw [i_eq, rv, cc]; decide)]⟩)
    obtain ⟨M2, n2, t1, t2, t3, t4, t5, t6⟩ := hf.2 T u (up2 M1 1004 1 w) s xs xe sub e sz (hst.sub (by omega) (by omega) sz1 (by omega) fr1)
    obtain ⟨d1, d2⟩ := a10 k2 (by omega) (by omega)
    rw [o2, ← fr1 (T + 5) (by omega) (by omega), ← t6 (T + 5) (by omega) (by omega)] at d1
    rw [v2, ← fr1 (T + 6) (by omega) (by omega), ← t6 (T + 6) (by omega) (by omega)] at d2
    have go2 : XGo T u xs xe M2 k2 M2 k3 1 := XGo.one (by omega) a7 (by omega) (fun fu x8 x10 e8 => ⟨M2 (T + 6) k2, d2, by
      simp only [xlet_eq]
      rw [if_pos (o_is d1 44 rfl)]⟩)
    refine ⟨M2, n1 + 1 + n2 + 1, by omega, ((r2.tr go1).tr t2).tr go2, t3, ?_, fun i hi => (t5 i hi).trans (st1 i hi), fun q c1 c2 => (t6 q c1 c2).trans (fr1 q c1 c2)⟩
    show _ = if c s sub = true then f s sub else g s sub
    rw [if_pos cc]; exact t4
  · have go1 : XGo T u xs xe M1 k1 (up2 M1 1004 1 w) (k2 + 1) 1 := XGo.one (by omega) a7 (by omega) (fun fu x8 x10 e8 => ⟨M1 (T + 6) k1, b2, by
      simp only [xlet_eq]
      rw [if_neg (o_lit b1 44 (by decide)), if_pos (o_is b1 45 rfl), w1, xb2_some, if_pos (by rw [i_eq, rv, eq_false_of_ne_true cc]; rfl)]⟩)
    obtain ⟨M2, n2, t1, t2, t3, t4, t5, t6⟩ := hg.2 T u (up2 M1 1004 1 w) s xs xe sub e sz (hst.sub (by omega) (by omega) sz1 (by omega) fr1)
    refine ⟨M2, n1 + 1 + n2, by omega, (r2.tr go1).tr t2, t3, ?_, fun i hi => (t5 i hi).trans (st1 i hi), fun q c1 c2 => (t6 q c1 c2).trans (fr1 q c1 c2)⟩
    show _ = if c s sub = true then f s sub else g s sub
    rw [if_neg cc]; exact t4
/-- a law's whole code -/
theorem x_value {o v : Nat → Int} {k k' : Nat} {f : fn} (h : VX o v k k' f) {T u : Nat} {M : xm} {s : hs} {a xs : Int32} {j sub : Nat} (hT : 1007 ≤ T) (hu : u + 15 ≤ 1004) (hr : RX u M s) (ok : Ok s) (hs : xs.toInt = (sub : Int)) (hs8 : sub < 8) (ha : a.toInt = (j : Int)) (hj : j < 2) (h7 : (M (T + 7) j).toInt = (k : Int)) (h8 : (M (T + 8) j).toInt = (k' : Int)) (hk : k' ≤ 300) (hc : ∀ i, k ≤ i → i < k' → (M (T + 5) i).toInt = o i ∧ (M (T + 6) i).toInt = v i) : ∃ r M', f_X3_value T u M a xs = some (r, M') ∧ r.toInt = f s sub ∧ ∀ q, q ≠ 1004 → q ≠ 1005 → M' q = M q := by
  have hkk := h.1
  have fr0 : ∀ q, q ≠ 1004 → up2 M 1004 1 0 q = M q := fun q hq => up2_cell hq
  have e4 : (xmin (M (T + 8) j) 300).toInt = (k' : Int) := by
    unfold xmin
    by_cases c : (300 : Int32) < M (T + 8) j
    · rw [i_lt, h8] at c; simp only [Int32.reduceToInt] at c; omega
    · rw [if_neg c, h8]
  obtain ⟨M1, n, r1, r2, r3, r4, r5, r6⟩ := h.2 T u (up2 M 1004 1 0) s xs (xmin (M (T + 8) j) 300) sub k' 0 ⟨hT, hu, hr.fr (fun q _ _ => fr0 q (by omega)), ok, hs, hs8, e4, Nat.le_refl _, hk, fun i i1 i2 => by rw [fr0 _ (by omega), fr0 _ (by omega)]; exact hc i i1 i2, by rw [up2_same]; rfl, by omega⟩
  obtain ⟨y8, y10, c1, c2, c3⟩ := r2 (xfuel - n) 0 (M (T + 7) j) 0 h7 rfl (by omega)
  rw [show xfuel - n + n = xfuel by unfold xfuel; omega] at c3
  have stop : g_X3_value_30 T u xs (xmin (M (T + 8) j) 300) (xfuel - n) M1 y8 y10 = some M1 := by
    rw [show xfuel - n = (xfuel - n - 1) + 1 by unfold xfuel; omega, g_X3_value_30]
    by_cases q : (300 : Int32) ≤ y10
    · rw [if_pos q]
    · rw [if_neg q, if_neg (c := y8 < 0) (by rw [i_lt, c1]; simp only [Int32.reduceToInt]; omega), if_pos (by rw [i_le, e4, c1]; omega)]
  obtain ⟨w, w1, w2⟩ := x_pop r3 (by omega)
  refine ⟨M1 1005 0, up2 M1 1004 1 w, ?_, r4, fun q q1 q2 => by rw [up2_cell q1, r6 q q1 q2, fr0 q q1]⟩
  unfold f_X3_value
  simp only [xlet_eq]
  rw [if_pos (i_in ha hj), i_ix ha, fr0 (T + 7) (by omega), fr0 (T + 8) (by omega), c3, stop, xb1_some, w1, xb2_some]
