/-! truths -/
theorem VC_not {pk : Bool} {o v : Nat → Int} {k k1 : Nat} {c : cn} (hc : VC pk o v k k1 c) (ho : o k1 = 20) : VC pk o v k (k1 + 1) (fun s p => !(c s p)) := by
  have h1 := hc.1
  refine ⟨by omega, fun M L s x5 x6 h5 c0 e sub n m hst => ?_⟩
  have ⟨a1, a2, a3, a4, a5, a6, a7, a8, a9, a10, a11, a12, a13, a14⟩ := hst
  obtain ⟨M1, L1, r1, r2, r3, r4, r5⟩ := hc.2 M L s x5 x6 h5 c0 e sub n m (hst.sub (Nat.le_refl _) (by omega) (by omega) (by omega) (fun _ _ => rfl))
  have st1 : YSt o v pk M1 s x5 x6 h5 c0 e sub n (m + 1) k1 (k1 + 1) := hst.sub (by omega) (Nat.le_refl _) (by omega) (by omega) r5
  have go : YGo x5 x6 M1 L1 n (m + 1) k1 (up2 M1 8 m (if (!(c s sub)) = true then 1 else 0)) L1 n (m + 1) (k1 + 1) := by
    refine YGo.one st1 (Nat.lt_succ_self _) ?_
    intro fu x7 x8 x9 v17 v19 e7 e8 e17 e19
    rw [ho] at e17
    have m3 : m < 330 := by omega
    have e81 := (m1_sub e8 (Nat.lt_of_lt_of_le m3 (by decide))).1
    refine ⟨x7, x8, e7, e8, ?_⟩
    rw [if_pos (c := (1 : Int32) < v17) (by rw [i_lt, e17]; decide), if_neg (o_lit e17 3 (by decide)), if_pos (c := (5 : Int32) < v17) (by rw [i_lt, e17]; decide), if_pos (c := (10 : Int32) ≤ v17) (by rw [i_le, e17]; decide), if_pos (c := (20 : Int32) ≤ v17) (by rw [i_le, e17]; decide), if_pos (o_is e17 20 rfl), if_pos (i_in e81 m3), i_ix e81, r2]
    cases hcs : c s sub
    · rw [if_neg (c := false = true) (by decide), if_pos (c := (0 : Int32) = 0) rfl, xlet_eq, xlet_eq]; rfl
    · rw [if_pos (c := true = true) rfl, if_neg n10, xlet_eq, xlet_eq]; rfl
  exact ⟨_, L1, r1.tr go (by omega) (by omega), by rw [up2_same], r3, fun i hi => by rw [up2_ne (by omega), r4 i hi], fun q hq => by rw [up2_cell hq, r5 q hq]⟩
/-- 21 and, 22 or -/
def mBoth (op : Int) (a b : Bool) : Bool := if op = 21 then a && b else a || b
theorem VC_join {pk : Bool} {o v : Nat → Int} {k k1 k2 : Nat} {c d : cn} {op : Int} (hc : VC pk o v k k1 c) (hd : VC pk o v k1 k2 d) (ho : o k2 = op) (hop : op = 21 ∨ op = 22) : VC pk o v k (k2 + 1) (fun s p => mBoth op (c s p) (d s p)) := by
  have h1 := hc.1
  have h2 := hd.1
  refine ⟨by omega, fun M L s x5 x6 h5 c0 e sub n m hst => ?_⟩
  have ⟨a1, a2, a3, a4, a5, a6, a7, a8, a9, a10, a11, a12, a13, a14⟩ := hst
  obtain ⟨M1, L1, r1, r2, r3, r4, r5⟩ := hc.2 M L s x5 x6 h5 c0 e sub n m (hst.sub (Nat.le_refl _) (by omega) (by omega) (by omega) (fun _ _ => rfl))
  obtain ⟨M2, L2, t1, t2, t3, t4, t5⟩ := hd.2 M1 L1 s x5 x6 h5 c0 e sub n (m + 1) (hst.sub (by omega) (by omega) (by omega) (by omega) r5)
  have fr2 : ∀ q, q ≠ 8 → M2 q = M q := fun q hq => (t5 q hq).trans (r5 q hq)
  have st1 : YSt o v pk M2 s x5 x6 h5 c0 e sub n (m + 1 + 1) k2 (k2 + 1) := hst.sub (by omega) (Nat.le_refl _) (by omega) (by omega) fr2
  have go : YGo x5 x6 M2 L2 n (m + 1 + 1) k2 (up2 M2 8 m (if mBoth op (c s sub) (d s sub) = true then 1 else 0)) L2 n (m + 1) (k2 + 1) := by
    refine YGo.one st1 (Nat.lt_succ_self _) ?_
    intro fu x7 x8 x9 v17 v19 e7 e8 e17 e19
    rw [ho] at e17
    have m3 : m < 330 := by omega
    have m4 : m + 1 < 330 := by omega
    have q1 : (1 : Int32) < v17 := by rw [i_lt, e17]; simp only [Int32.reduceToInt]; omega
    have q2 : ¬ v17 = 3 := o_lit e17 3 (by simp only [Int32.reduceToInt]; omega)
    have q3 : (5 : Int32) < v17 := by rw [i_lt, e17]; simp only [Int32.reduceToInt]; omega
    have q4 : (10 : Int32) ≤ v17 := by rw [i_le, e17]; simp only [Int32.reduceToInt]; omega
    have q5 : (20 : Int32) ≤ v17 := by rw [i_le, e17]; simp only [Int32.reduceToInt]; omega
    have q6 : ¬ v17 = 20 := o_lit e17 20 (by simp only [Int32.reduceToInt]; omega)
    have jn : f_X10_joined v17 (M2 8 m) (M2 8 (m + 1)) = if mBoth op (c s sub) (d s sub) = true then 1 else 0 := by
      rw [t2, t4 m (by omega), r2]
      unfold f_X10_joined mBoth
      rcases hop with rfl | rfl
      · rw [if_pos (o_is e17 21 rfl), if_pos rfl]
        cases c s sub <;> cases d s sub <;> rfl
      · rw [if_neg (o_lit e17 21 (by decide)), if_neg (c := (22 : Int) = 21) (by decide)]
        cases c s sub <;> cases d s sub <;> rfl
    have e81 := (m1_sub e8 (Nat.lt_of_lt_of_le m4 (by decide))).2
    have e82 := (m1_sub e81 (Nat.lt_of_lt_of_le m3 (by decide))).1
    refine ⟨x7, x8 + (-1), e7, e81, ?_⟩
    rw [if_pos q1, if_neg q2, if_pos q3, if_pos q4, if_pos q5, if_neg q6, xlet_eq, if_pos (i_in e82 m3), if_pos (i_in e81 m4), i_ix e81, i_ix e82, jn, xlet_eq, xlet_eq]
  exact ⟨_, L2, (r1.tr t1 (by omega) (by omega)).tr go (by omega) (by omega), by rw [up2_same], fun i hi => (t3 i hi).trans (r3 i hi), fun i hi => by rw [up2_ne (by omega), t4 i (by omega), r4 i hi], fun q hq => by rw [up2_cell hq, fr2 q hq]⟩
theorem VY_if {pk : Bool} {o v : Nat → Int} {k k1 k2 k3 : Nat} {c : cn} {f g : fn} (hc : VC pk o v k k1 c) (hf : VY pk o v k1 k2 f) (hg : VY pk o v k2 k3 g) (ho : o k3 = 3) : VY pk o v k (k3 + 1) (fun s p => if c s p = true then f s p else g s p) := by
  have h0 := hc.1
  have h1 := hf.1
  have h2 := hg.1
  refine ⟨by omega, fun M L s x5 x6 h5 c0 e sub n m hst => ?_⟩
  have ⟨a1, a2, a3, a4, a5, a6, a7, a8, a9, a10, a11, a12, a13, a14⟩ := hst
  obtain ⟨M1, L1, r1, r2, r3, r4, r5⟩ := hc.2 M L s x5 x6 h5 c0 e sub n m (hst.sub (Nat.le_refl _) (by omega) (by omega) (by omega) (fun _ _ => rfl))
  have st0 : YSt o v pk M1 s x5 x6 h5 c0 e sub n (m + 1) k1 (k3 + 1) := hst.sub (by omega) (Nat.le_refl _) (by omega) (by omega) r5
  obtain ⟨M2, L2, t1, t2, t3, t4, t5, t6⟩ := YEn.two (L := L1) st0 hf hg (by omega)
  have fr2 : ∀ q, q ≠ 8 → M2 q = M q := fun q hq => (t6 q hq).trans (r5 q hq)
  have st1 : YSt o v pk M2 s x5 x6 h5 c0 e sub (n + 1 + 1) (m + 1) k3 (k3 + 1) := hst.sub (by omega) (Nat.le_refl _) (by omega) (by omega) fr2
  have tr : M2 8 m = if c s sub = true then 1 else 0 := by rw [t5 m (by omega)]; exact r2
  have n3 : n < 330 := by omega
  have n4 : n + 1 < 330 := by omega
  have m3 : m < 330 := by omega
  by_cases cc : c s sub = true
  · have go : YGo x5 x6 M2 L2 (n + 1 + 1) (m + 1) k3 M2 L2 (n + 1) m (k3 + 1) := by
      refine YGo.one st1 (Nat.lt_succ_self _) ?_
      intro fu x7 x8 x9 v17 v19 e7 e8 e17 e19
      rw [ho] at e17
      have e71 := (m1_sub e7 (Nat.lt_of_lt_of_le n4 (by decide))).2
      have e81 := (m1_sub e8 (Nat.lt_of_lt_of_le m3 (by decide))).2
      refine ⟨x7 + (-1), x8 + (-1), e71, e81, ?_⟩
      rw [if_pos (c := (1 : Int32) < v17) (by rw [i_lt, e17]; decide), if_pos (o_is e17 3 rfl), xlet_eq, xlet_eq, if_pos (i_in e81 m3), i_ix e81, if_neg (by rw [tr, if_pos cc]; decide), xlet_eq]
    have val : (L2 7 n).toInt = if c s sub = true then f s sub else g s sub := by rw [if_pos cc]; exact t2
    exact ⟨M2, L2, (r1.tr t1 (by omega) (by omega)).tr go (by omega) (by omega), val, fun i hi => (t4 i hi).trans (r3 i hi), fun i hi => (t5 i (by omega)).trans (r4 i hi), fr2⟩
  · have go : YGo x5 x6 M2 L2 (n + 1 + 1) (m + 1) k3 M2 (up2 L2 7 n (L2 7 (n + 1))) (n + 1) m (k3 + 1) := by
      refine YGo.one st1 (Nat.lt_succ_self _) ?_
      intro fu x7 x8 x9 v17 v19 e7 e8 e17 e19
      rw [ho] at e17
      have e71 := (m1_sub e7 (Nat.lt_of_lt_of_le n4 (by decide))).2
      have e72 := (m1_sub e71 (Nat.lt_of_lt_of_le n3 (by decide))).1
      have e81 := (m1_sub e8 (Nat.lt_of_lt_of_le m3 (by decide))).2
      refine ⟨x7 + (-1), x8 + (-1), e71, e81, ?_⟩
      rw [if_pos (c := (1 : Int32) < v17) (by rw [i_lt, e17]; decide), if_pos (o_is e17 3 rfl), xlet_eq, xlet_eq, if_pos (i_in e81 m3), i_ix e81, if_pos (by rw [tr, if_neg cc]), if_pos (i_in e71 n4), if_pos (i_in e72 n3), i_ix e71, i_ix e72, xlet_eq, xlet_eq]
    have val : (up2 L2 7 n (L2 7 (n + 1)) 7 n).toInt = if c s sub = true then f s sub else g s sub := by rw [if_neg cc, up2_same]; exact t3
    exact ⟨M2, _, (r1.tr t1 (by omega) (by omega)).tr go (by omega) (by omega), val, fun i hi => by rw [up2_ne (by omega), t4 i hi, r3 i hi], fun i hi => (t5 i (by omega)).trans (r4 i hi), fr2⟩
/-- a law's whole code -/
theorem y_summedUp {pk : Bool} {o v : Nat → Int} {k k' : Nat} {f : fn} (h : VY pk o v k k' f) {M : xm} {L : xn} {s : hs} {a b : Int32} {t j sub : Nat} (hr : RY M s) (ok : Ok s) (l7 : La7 s) (hs8 : sub < 8) (hn : YNm M s pk sub) (ha : a.toInt = (t : Int)) (ht : t < 4) (hb : b.toInt = (j : Int)) (hj : j < 24) (h1 : (M 3 (705 * t + 2 + 4 * j)).toInt = (k : Int)) (h2 : (M 3 (705 * t + 3 + 4 * j)).toInt = (k' : Int)) (hk : k' ≤ 304) (hc : ∀ i, k ≤ i → i < k' → (M 3 (705 * t + 97 + 2 * i)).toInt = o i ∧ (M 3 (705 * t + 97 + 2 * i + 1)).toInt = v i) : ∃ r M' L', f_X10_summedUp M L a b = some (r, M', L') ∧ r.toInt = f s sub ∧ ∀ q, q ≠ 8 → M' q = M q := by
  have hkk := h.1
  have q1 : ((705 : Int32) * a).toInt = ((705 * t : Nat) : Int) := by rw [i_mul (a := 705) rfl ha (by omega) (by omega)]; omega
  have q2 : ((705 : Int32) * a + 1).toInt = ((705 * t + 1 : Nat) : Int) := k_add q1 (y := 1) (b := 1) rfl (by omega)
  have q3 : ((4 : Int32) * b).toInt = ((4 * j : Nat) : Int) := k_mul2 hb 4 4 rfl (by omega) (by omega)
  have q4 : ((705 : Int32) * a + 1 + 4 * b).toInt = ((705 * t + 1 + 4 * j : Nat) : Int) := k_add q2 q3 (by omega)
  have q5 : ((705 : Int32) * a + 97).toInt = ((705 * t + 97 : Nat) : Int) := k_add q1 (y := 97) (b := 97) rfl (by omega)
  have q6 : ((705 : Int32) * a + 1 + 4 * b + 1).toInt = ((705 * t + 2 + 4 * j : Nat) : Int) := by rw [k_add q4 (y := 1) (b := 1) rfl (by omega)]; omega
  obtain ⟨M1, L1, r1, r2, r3, r4, r5⟩ := h.2 M L s _ _ (705 * t + 1 + 4 * j) (705 * t + 97) k' sub 0 0 ⟨hr, ok, l7, hs8, hn, q4, by omega, q5, by rw [show 705 * t + 1 + 4 * j + 2 = 705 * t + 3 + 4 * j by omega]; exact h2, Nat.le_refl _, by omega, hc, by omega, by omega⟩
  obtain ⟨y7, y8, y9, c1, c2, c3, c4⟩ := r1 (xfuel - (k' - k)) 0 0 (M 3 (705 * t + 2 + 4 * j)) rfl rfl h1
  rw [show xfuel - (k' - k) + (k' - k) = xfuel by unfold xfuel; omega] at c4
  have stop : ∀ fu, g_X10_summedUp_38 (705 * a + 1 + 4 * b) (705 * a + 97) (fu + 1) M1 L1 y7 y8 y9 = some (M1, L1) := fun fu => by
    have q7 : ((705 : Int32) * a + 1 + 4 * b + 2).toInt = ((705 * t + 3 + 4 * j : Nat) : Int) := by rw [k_add q4 (y := 2) (b := 2) rfl (by omega)]; omega
    rw [g_X10_summedUp_38, if_pos (i_in q7 (by omega)), i_ix q7, if_pos (by rw [r5 3 (by decide), i_le, h2, c3]; omega)]
  rw [show xfuel - (k' - k) = (xfuel - (k' - k) - 1) + 1 by unfold xfuel; omega, stop] at c4
  refine ⟨L1 7 0, M1, L1, ?_, r2, r5⟩
  unfold f_X10_summedUp
  rw [xlet_eq, xlet_eq, if_pos (i_in q6 (by omega)), i_ix q6, xlet_eq, c4, xb2_some]
