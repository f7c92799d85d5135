/-! a text that was read, as a text of both -/
theorem x_hasLawAt {T0 : Nat} {M : xm} {v : Int32} {j : Nat} (hv : v.toInt = (j : Int)) (hj : j < 2) : (M (T0 + 7) j = -1 → f_X7_hasLaw T0 M v = some 0) ∧ (M (T0 + 7) j ≠ -1 → f_X7_hasLaw T0 M v = some 1) := by
  unfold f_X7_hasLaw
  rw [if_neg (c := v < 0) (by rw [i_lt, hv]; simp only [Int32.reduceToInt]; omega), if_neg (c := 2 ≤ v) (by rw [i_le, hv]; simp only [Int32.reduceToInt]; omega), if_pos (i_in hv hj), i_ix hv]
  exact ⟨fun h => by rw [if_pos h], fun h => by rw [if_neg h]⟩
def CpT (MX MX' : xm) (t : Nat) : Prop := (∀ q, q < 24 → MX' (1008 + 9 * t) q = MX 996 q ∧ MX' (1009 + 9 * t) q = MX 997 q ∧ MX' (1010 + 9 * t) q = MX 998 q ∧ MX' (1011 + 9 * t) q = MX 999 q) ∧ (∀ q, q < 300 → MX' (1012 + 9 * t) q = MX 1000 q ∧ MX' (1013 + 9 * t) q = MX 1001 q) ∧ (∀ q, q < 2 → MX' (1014 + 9 * t) q = MX 1002 q ∧ MX' (1015 + 9 * t) q = MX 1003 q) ∧ MX' (1007 + 9 * t) 8 = MX 995 8
theorem law_val {MX MX' MY M : xm} {t c k w j : Nat} (hp : CpT MX MX' t) (hl : LwP MX MY t c k w j) (hj : j < 2) (hk : k ≤ 300) (hM : sXt MX' t M) : ∃ (q ks ke ws we : Nat) (f : fn), (q < c ∧ (MY 3 (705 * t + 1 + 4 * q)).toInt = (j : Int) ∧ (∀ y, y < q → (MY 3 (705 * t + 1 + 4 * y)).toInt ≠ (j : Int)) ∧ (MY 3 (705 * t + 2 + 4 * q)).toInt = (ws : Int) ∧ (MY 3 (705 * t + 3 + 4 * q)).toInt = (we : Int) ∧ we ≤ w ∧ VY (decide (j = 0)) (cYo t MY) (cYv t MY) ws we f) ∧ Mf f ∧ M (1007 + 9 * t + 7) j ≠ -1 := by
  obtain ⟨q, ks, ke, ws, we, f, a1, a2, a3, a4, a5, a6, a7, a8, a9, a10, a11, a12⟩ := hl
  refine ⟨q, ks, ke, ws, we, f, ⟨a1, a2, fun y hy => a3 y (by omega) (by omega), a6, a7, a9, a12⟩, a10, ?_⟩
  rw [show 1007 + 9 * t + 7 = 1014 + 9 * t by omega, hM _ (by omega) (by omega), (hp.2.2.1 j hj).1]
  intro z
  rw [z] at a4
  have : (-1 : Int32).toInt = -1 := rfl
  omega
theorem new_pick {MX MX' MY : xm} {t c k w : Nat} {p0 : Bool} (t4 : t < 4) (hp : CpT MX MX' t) (hc : (MY 3 (705 * t)).toInt = (c : Int)) (c24 : c ≤ 24) (hl : LwS p0 MX MY t c k w 0) (hk : k ≤ 300) (hw : w ≤ 304) : ∃ π : hs → Nat → Bool, PiC π ∧ (∀ u, u + 15 ≤ 1004 → PkX (sXt MX' t) u (some (1007 + 9 * t)) π) ∧ PkYt (sYt MY t) t π := by
  have nt : (nI t).toInt = (t : Int) := nI_toInt (by omega)
  cases p0 with
  | false =>
    obtain ⟨l1, l2⟩ := hl.2 rfl
    refine ⟨fun s p => decide (2 * s 5 p ≤ s 6 p), ?_, ?_, ?_⟩
    · intro s t _ h5 h6 _ p
      show decide _ = decide _
      rw [h5, h6]
    · intro u hu M s a p h o hM ha hp8
      unfold f_X3_picked
      have e : M (1007 + 9 * t + 7) 0 = -1 := by rw [show 1007 + 9 * t + 7 = 1014 + 9 * t by omega, hM _ (by omega) (by omega), (hp.2.2.1 0 (by omega)).1, l1]
      rw [f_isPage_1 ha hp8, if_neg n10, xlet_eq]
      show ∃ M', xb1 (f_X7_hasLaw (1007 + 9 * t) M 0) _ = _ ∧ _
      rw [(x_hasLawAt (v := 0) (j := 0) rfl (by decide)).1 e, xb1_some, if_pos rfl]
      exact ⟨M, half_x h o ha hp8, fun _ _ _ => rfl⟩
    · intro M L s a p h o l7 hM ha hp8
      obtain ⟨v, v1, v2⟩ := y_liveOf h o l7 ha hp8
      have cn := (y_clauseOf (M := M) (b := 0) (j := 0) nt t4 rfl (by rw [hM _ (by omega) (by omega)]; exact hc) c24).2 (fun y hy => by rw [hM _ (by omega) (by omega)]; exact l2 y hy)
      unfold f_X10_doesPick
      rw [cn, xb1_some, v1, xb1_some, if_pos rfl]
      exact ⟨M, L, half_y h o ha hp8 v2, fun _ _ _ => rfl⟩
  | true =>
    obtain ⟨q, ks, ke, ws, we, f, a1, a2, a3, a4, a5, a6, a7, a8, a9, a10, a11, a12⟩ := hl.1 rfl
    refine ⟨fun s p => decide (0 < f s p), ?_, ?_, ?_⟩
    · intro s t h0 h5 h6 h7 p
      show decide _ = decide _
      rw [a10.2 s t h0 h5 h6 h7 p]
    · intro u hu M s a p h o hM ha hp8
      have e : M (1007 + 9 * t + 7) 0 = MX 1002 0 := by rw [show 1007 + 9 * t + 7 = 1014 + 9 * t by omega, hM _ (by omega) (by omega), (hp.2.2.1 0 (by omega)).1]
      have e8 : M (1007 + 9 * t + 8) 0 = MX 1003 0 := by rw [show 1007 + 9 * t + 8 = 1015 + 9 * t by omega, hM _ (by omega) (by omega), (hp.2.2.1 0 (by omega)).2]
      have ne : M (1007 + 9 * t + 7) 0 ≠ -1 := by
        rw [e]
        intro z
        rw [z] at a4
        have : (-1 : Int32).toInt = -1 := rfl
        omega
      obtain ⟨r, M', r1, r2, r3⟩ := x_value a11 (T := 1007 + 9 * t) (u := u) (M := M) (s := s) (a := 0) (xs := a) (j := 0) (sub := p) (by omega) hu h o ha hp8 rfl (by decide) (by rw [e]; exact a4) (by rw [e8]; exact a5) (by omega) (fun i i1 i2 => by
        rw [show 1007 + 9 * t + 5 = 1012 + 9 * t by omega, show 1007 + 9 * t + 6 = 1013 + 9 * t by omega, hM _ (by omega) (by omega), hM _ (by omega) (by omega), (hp.2.1 i (by omega)).1, (hp.2.1 i (by omega)).2]
        exact ⟨rfl, rfl⟩)
      unfold f_X3_picked
      rw [f_isPage_1 ha hp8, if_neg n10, xlet_eq]
      show ∃ M', xb1 (f_X7_hasLaw (1007 + 9 * t) M 0) _ = _ ∧ _
      rw [(x_hasLawAt (v := 0) (j := 0) rfl (by decide)).2 ne, xb1_some, if_neg n10, r1, xb2_some]
      refine ⟨M', ?_, r3⟩
      have z0 : (0 : Int32).toInt = 0 := rfl
      by_cases c : 0 < f s p
      · rw [if_neg (by rw [i_le, r2, z0]; omega), if_pos (decide_eq_true c)]
      · rw [if_pos (by rw [i_le, r2, z0]; omega), if_neg (by rw [decide_eq_true_eq]; exact c)]
    · intro M L s a p h o l7 hM ha hp8
      obtain ⟨v, v1, v2⟩ := y_liveOf h o l7 ha hp8
      obtain ⟨r, r1, r2⟩ := (y_clauseOf (M := M) (b := 0) (j := 0) nt t4 rfl (by rw [hM _ (by omega) (by omega)]; exact hc) c24).1 q a1 (by rw [hM _ (by omega) (by omega)]; exact a2) (fun y hy => by rw [hM _ (by omega) (by omega)]; exact a3 y (by omega) (by omega))
      obtain ⟨M9, n1, n2, n3, n4, n5, n6⟩ := y_name4 h
      have e21 := yx 21 (b := 21) rfl ha (by omega)
      have z1 : up2 (up2 M9 6 4 a) 6 5 v 1 = M 1 := by rw [up2_cell (by decide), up2_cell (by decide), n6 1 (by decide)]
      have f14 : ∀ q, q ≠ 6 → up2 (up2 (up2 M9 6 4 a) 6 5 v) 6 6 (M 1 (21 + p)) q = M q := fun q hq => by rw [up2_cell hq, up2_cell hq, up2_cell hq, n6 q hq]
      have r14 : RY (up2 (up2 (up2 M9 6 4 a) 6 5 v) 6 6 (M 1 (21 + p))) s := by
        unfold RY
        rw [f14 1 (by decide)]
        exact h
      have ynm : YNm (up2 (up2 (up2 M9 6 4 a) 6 5 v) 6 6 (M 1 (21 + p))) s true p := by
        refine ⟨?_, ?_, ?_, ?_, fun _ => ⟨?_, ?_, ?_⟩, fun z => by cases z⟩
        · rw [up2_ne (by omega), up2_ne (by omega), up2_ne (by omega)]; exact n2
        · rw [up2_ne (by omega), up2_ne (by omega), up2_ne (by omega)]; exact n3
        · rw [up2_ne (by omega), up2_ne (by omega), up2_ne (by omega)]; exact n4
        · rw [up2_ne (by omega), up2_ne (by omega), up2_ne (by omega)]; exact n5
        · rw [up2_ne (by omega), up2_ne (by omega), up2_same]; exact ha
        · rw [up2_ne (by omega), up2_same]; exact v2
        · rw [up2_same]; exact RYr.u h hp8
      obtain ⟨r3, M', L', s1, s2, s3⟩ := y_summedUp a12 (L := L) (a := nI t) (b := r) (t := t) (j := q) r14 o l7 hp8 ynm nt t4 r2 (by omega) (by rw [f14 3 (by decide), hM _ (by omega) (by omega)]; exact a6) (by rw [f14 3 (by decide), hM _ (by omega) (by omega)]; exact a7) (by omega) (fun i i1 i2 => by
        rw [f14 3 (by decide), hM _ (by omega) (by omega), hM _ (by omega) (by omega)]
        exact ⟨rfl, rfl⟩)
      have rn : ¬ r = -1 := by rw [i_eq, r2]; simp only [Int32.reduceToInt]; omega
      unfold f_X10_doesPick
      rw [r1, xb1_some, v1, xb1_some, if_neg rn, n1, xb1_some, xlet_eq, xlet_eq, if_pos e21.1, e21.2, z1, xlet_eq, s1, xb3_some]
      refine ⟨M', L', ?_, fun q q6 q8 => by rw [s3 q q8, f14 q q6]⟩
      have z0 : (0 : Int64).toInt = 0 := rfl
      by_cases c : 0 < f s p
      · rw [if_neg (by rw [lc_le, s2, z0]; omega), if_pos (decide_eq_true c)]
      · rw [if_pos (by rw [lc_le, s2, z0]; omega), if_neg (by rw [decide_eq_true_eq]; exact c)]
