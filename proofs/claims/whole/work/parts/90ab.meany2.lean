/-! of two: code, the rest -/
theorem VY_two {pk : Bool} {o v : Nat → Int} {k k1 k2 : Nat} {f g : fn} {op : Int} (hf : VY pk o v k k1 f) (hg : VY pk o v k1 k2 g) (mf : Mf f) (mg : Mf g) (ho : o k2 = op) (hop : op = 6 ∨ op = 7 ∨ op = 8 ∨ op = 9) : VY pk o v k (k2 + 1) (fun s p => mTwo (opT op) (f s p) (g s p)) := by
  have h1 := hf.1
  have h2 := hg.1
  refine ⟨by omega, fun M L s x5 x6 h5 c0 e sub n m hst => ?_⟩
  have ⟨a1, a2, a3, a4, a5, a6, a7, a8, a9, a10, a11, a12, a13, a14⟩ := hst
  obtain ⟨M1, L1, r1, r2, r3, r4, r5, r6⟩ := YEn.two (L := L) hst hf hg (by omega)
  have st1 : YSt o v pk M1 s x5 x6 h5 c0 e sub (n + 1 + 1) m k2 (k2 + 1) := hst.sub (by omega) (Nat.le_refl _) (by omega) (by omega) r6
  have hw : ∃ w : Int32, w.toInt = op := ⟨Int32.ofInt op, i_J (by omega) (by omega)⟩
  obtain ⟨w, hw⟩ := hw
  have kk1 : k ≤ k2 := by omega
  have n3 : n < 330 := by omega
  have n4 : n + 1 < 330 := by omega
  have m3 : m < 330 := by omega
  obtain ⟨z, z1, z2⟩ := y_two hw hop r2 r3 (mf.1 s sub a2 a4) (mg.1 s sub a2 a4)
  have go : YGo x5 x6 M1 L1 (n + 1 + 1) m k2 M1 (up2 L1 7 n z) (n + 1) m (k2 + 1) := by
    clear z2
    refine YGo.one st1 (Nat.lt_succ_self _) ?_
    intro fu x7 x8 x9 v17 v19 e7 e8 e17 e19
    rw [ho] at e17
    have q1 : (1 : Int32) < v17 := by rw [i_lt, e17]; simp only [Int32.reduceToInt]; omega
    have q2 : ¬ v17 = 3 := o_lit e17 3 (by simp only [Int32.reduceToInt]; omega)
    have q3 : (5 : Int32) < v17 := by rw [i_lt, e17]; simp only [Int32.reduceToInt]; omega
    have q4 : ¬ (10 : Int32) ≤ v17 := by rw [i_le, e17]; simp only [Int32.reduceToInt]; omega
    have e71 := (m1_sub e7 (Nat.lt_of_lt_of_le n4 (by decide))).2
    have e72 := (m1_sub e71 (Nat.lt_of_lt_of_le n3 (by decide))).1
    refine ⟨x7 + (-1), x8, e71, e8, ?_⟩
    rw [if_pos q1, if_neg q2, if_pos q3, if_neg q4, xlet_eq, if_pos (i_in e72 n3), if_pos (i_in e71 n4), i_ix e71, i_ix e72, i_inj e17 hw, z1, xb1_some, xlet_eq, xlet_eq]
  exact ⟨M1, up2 L1 7 n z, r1.tr go kk1 (Nat.le_succ _), (congrArg Int64.toInt (up2_same L1 7 n z)).trans z2, fun i hi => (up2_ne (fun q => Nat.ne_of_lt hi q.2)).trans (r4 i hi), r5, r6⟩
