/-! the reference's code, piece by piece -/
theorem lc_v (x y : Int64) : (lg_cmp x y).toInt = if y.toInt < x.toInt then 1 else if x.toInt = y.toInt then 0 else -1 := by
  unfold lg_cmp
  by_cases c : x > y
  · have c2 : y.toInt < x.toInt := by rw [gt_iff_lt, j_lt] at c; exact c
    rw [if_pos (c := x > y) c, if_pos (c := y.toInt < x.toInt) c2]; rfl
  · have c2 : ¬ y.toInt < x.toInt := by rw [gt_iff_lt, j_lt] at c; exact c
    rw [if_neg (c := x > y) c, if_neg (c := y.toInt < x.toInt) c2]
    by_cases d : x = y
    · rw [if_pos (c := x = y) d, if_pos (c := x.toInt = y.toInt) (by rw [d])]; rfl
    · rw [if_neg (c := x = y) d, if_neg (c := x.toInt = y.toInt) (by rw [← j_eq]; exact d)]; rfl
theorem lc_eq {x y : Int64} : lg_cmp x y = 0 ↔ x.toInt = y.toInt := by
  rw [i_eq, lc_v]
  show (if y.toInt < x.toInt then (1 : Int) else if x.toInt = y.toInt then 0 else -1) = 0 ↔ _
  split
  · omega
  · split <;> omega
theorem lc_lt {x y : Int64} : lg_cmp x y < 0 ↔ x.toInt < y.toInt := by
  rw [i_lt, lc_v]
  show (if y.toInt < x.toInt then (1 : Int) else if x.toInt = y.toInt then 0 else -1) < 0 ↔ _
  split
  · omega
  · split <;> omega
theorem lc_le {x y : Int64} : lg_cmp x y ≤ 0 ↔ x.toInt ≤ y.toInt := by
  rw [i_le, lc_v]
  show (if y.toInt < x.toInt then (1 : Int) else if x.toInt = y.toInt then 0 else -1) ≤ 0 ↔ _
  split
  · omega
  · split <;> omega
theorem lc_ge {x y : Int64} : 0 ≤ lg_cmp x y ↔ y.toInt ≤ x.toInt := by
  rw [i_le, lc_v]
  show (0 : Int) ≤ (if y.toInt < x.toInt then (1 : Int) else if x.toInt = y.toInt then 0 else -1) ↔ _
  split
  · omega
  · split <;> omega
theorem lc_gt {x y : Int64} : 0 < lg_cmp x y ↔ y.toInt < x.toInt := by
  rw [i_lt, lc_v]
  show (0 : Int) < (if y.toInt < x.toInt then (1 : Int) else if x.toInt = y.toInt then 0 else -1) ↔ _
  split
  · omega
  · split <;> omega
theorem y_clip {x : Int64} {z : Int} (h : x.toInt = z) : (f_X10_clip x).toInt = cl6 z := by
  have m1 : (-1000000 : Int64).toInt = -1000000 := rfl
  have m2 : (1000000 : Int64).toInt = 1000000 := rfl
  unfold f_X10_clip cl6
  by_cases c : lg_cmp x 1000000 ≤ 0
  · rw [if_pos (c := lg_cmp x 1000000 ≤ 0) c]
    rw [lc_le, h, m2] at c
    rw [if_neg (c := 1000000 < z) (by omega)]
    by_cases d : 0 ≤ lg_cmp x (-1000000)
    · rw [if_pos (c := 0 ≤ lg_cmp x (-1000000)) d, h]
      rw [lc_ge, h, m1] at d
      rw [if_neg (c := z < -1000000) (by omega)]
    · rw [if_neg (c := 0 ≤ lg_cmp x (-1000000)) d, m1]
      rw [lc_ge, h, m1] at d
      rw [if_pos (c := z < -1000000) (by omega)]
  · rw [if_neg (c := lg_cmp x 1000000 ≤ 0) c, m2]
    rw [lc_le, h, m2] at c
    rw [if_pos (c := 1000000 < z) (by omega)]
/-- the class's number of what the reference has -/
def opU (a : Int) : Int := if a = 2 then 10 else if a = 4 then 11 else 43
def opT (a : Int) : Int := a + 25
def opC (a : Int) : Int := if a = 10 then 27 else if a = 11 then 38 else if a = 12 then 28 else if a = 13 then 39 else if a = 14 then 29 else 30
theorem y_ofOne {M : xm} {s : hs} (h : RY M s) (o : Ok s) (l7 : La7 s) {a : Int32} {op z : Int} {x : Int64} (ha : a.toInt = op) (hop : op = 2 ∨ op = 4 ∨ op = 5) (hx : x.toInt = z) (hz : -1000000 ≤ z ∧ z ≤ 1000000) : ∃ r : Int64, f_X10_ofOne M a x = some r ∧ r.toInt = if op = 2 then pgV s 5 z else if op = 4 then pgV s 6 z else -z := by
  have z0 : (0 : Int64).toInt = 0 := rfl
  have z8 : (8 : Int64).toInt = 8 := rfl
  unfold f_X10_ofOne pgV
  by_cases c5 : op = 5
  · rw [if_pos (by rw [i_eq, ha, c5]; rfl), c5]
    refine ⟨-x, rfl, ?_⟩
    rw [Int64.toInt_neg, hx]
    show Int.bmod (-z) _ = -z
    apply Int.bmod_eq_of_le <;> omega
  · rw [if_neg (by rw [i_eq, ha]; exact c5)]
    by_cases c : z < 0
    · rw [if_pos (by rw [lc_lt, hx, z0]; exact c), if_neg (c := 0 ≤ z ∧ z < 8) (by omega), if_neg (c := 0 ≤ z ∧ z < 8) (by omega)]
      refine ⟨0, rfl, ?_⟩
      rcases hop with rfl | rfl | rfl
      · rfl
      · rfl
      · exact absurd rfl c5
    · rw [if_neg (by rw [lc_lt, hx, z0]; exact c)]
      by_cases c8 : z < 8
      · obtain ⟨p, hp⟩ : ∃ p : Nat, z = p := ⟨z.toNat, by omega⟩
        have e32 : (x.toInt32).toInt = (p : Int) := by
          rw [Int64.toInt_toInt32, hx, hp]
          apply Int.bmod_eq_of_le <;> omega
        rw [if_pos (by rw [lc_lt, hx, z8]; exact c8), if_pos (show 0 ≤ z ∧ z < 8 by omega), if_pos (show 0 ≤ z ∧ z < 8 by omega), show z.toNat = p by omega]
        rcases hop with rfl | rfl | rfl
        · obtain ⟨r, r1, r2⟩ := y_liveOf h o l7 e32 (by omega)
          rw [if_pos (o_is ha 2 rfl), r1, xb1_some]
          exact ⟨_, rfl, j_32 r2⟩
        · have e21 := yx 21 (b := 21) rfl e32 (by omega)
          rw [if_neg (o_lit ha 2 (by decide)), if_pos e21.1, e21.2]
          exact ⟨_, rfl, j_32 (h.u (show p < 8 by omega))⟩
        · exact absurd rfl c5
      · rw [if_neg (by rw [lc_lt, hx, z8]; exact c8), if_neg (c := 0 ≤ z ∧ z < 8) (by omega), if_neg (c := 0 ≤ z ∧ z < 8) (by omega)]
        refine ⟨0, rfl, ?_⟩
        rcases hop with rfl | rfl | rfl
        · rfl
        · rfl
        · exact absurd rfl c5
theorem VY_un {pk : Bool} {o v : Nat → Int} {k k1 : Nat} {f : fn} {op : Int} (hf : VY pk o v k k1 f) (mf : Mf f) (ho : o k1 = op) (hop : op = 2 ∨ op = 4 ∨ op = 5) : VY pk o v k (k1 + 1) (mUn (opU op) f) := by
  have hk := hf.1
  refine ⟨by omega, fun M L s x5 x6 h5 c0 e sub n m hst => ?_⟩
  have ⟨a1, a2, a3, a4, a5, a6, a7, a8, a9, a10, a11, a12, a13, a14⟩ := hst
  obtain ⟨M1, L1, r1, r2, r3, r4, r5⟩ := hf.2 M L s x5 x6 h5 c0 e sub n m (hst.sub (Nat.le_refl _) (by omega) (by omega) (by omega) (fun _ _ => rfl))
  have st1 : YSt o v pk M1 s x5 x6 h5 c0 e sub (n + 1) m k1 (k1 + 1) := hst.sub (by omega) (Nat.le_refl _) (by omega) (by omega) r5
  have rg := mf.1 s sub a2 a4
  have hw : ∃ w : Int32, w.toInt = op := ⟨Int32.ofInt op, i_J (by omega) (by omega)⟩
  obtain ⟨w, hw⟩ := hw
  obtain ⟨z, z1, z2⟩ := y_ofOne (a := w) st1.1 a2 a3 hw hop r2 rg
  refine ⟨M1, up2 L1 7 n z, r1.tr (YGo.one (n' := n + 1) (m' := m) st1 (by omega) (fun fu x7 x8 x9 v17 v19 e7 e8 e17 e19 => ⟨x7, x8, e7, e8, ?_⟩)) (by omega) (by omega), ?_, fun i hi => by rw [up2_ne (by omega), r3 i hi], r4, r5⟩
  · rw [ho] at e17
    have e71 := (m1_sub e7 (by omega)).1
    rw [if_pos (c := (1 : Int32) < v17) (by rw [i_lt, e17]; simp only [Int32.reduceToInt]; omega), if_neg (o_lit e17 3 (by simp only [Int32.reduceToInt]; omega)), if_neg (c := (5 : Int32) < v17) (by rw [i_lt, e17]; simp only [Int32.reduceToInt]; omega), if_pos (i_in e71 (by omega)), i_ix e71, i_inj e17 hw, z1, xb1_some, xlet_eq, xlet_eq]
  · rw [up2_same, z2]
    have e5 : cl6 (-(f s sub)) = -(f s sub) := cl6_id (by omega)
    rcases hop with rfl | rfl | rfl
    · simp [mUn, opU]
    · simp [mUn, opU]
    · simp [mUn, opU, e5]
