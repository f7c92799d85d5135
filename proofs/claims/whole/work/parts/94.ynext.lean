/-! the reference's next token -/
theorem bt_in {M : xm} {B : Nat → Int} {n : Nat} (h : YB M B n) (i : Nat) : -1 ≤ bt B n i ∧ bt B n i ≤ 255 := by
  unfold bt
  by_cases c : i < n
  · rw [if_pos c]; have := h.2.2 i c; omega
  · rw [if_neg c]; omega
theorem up08 {M : xm} {v : Int32} : (up2 M 0 9 v) 0 8 = M 0 8 := up2_ne (by omega)
theorem y_nextToken {B : Nat → Int} {n c j kd nm e : Nat} {M : xm} {L : xn} (h : YB M B n) (hc : (M 0 7).toInt = (c : Int)) (hcn : c ≤ n) (hs : Rn blP B n c j) (ht : Tok B n j kd nm e) : ∃ M' L', f_X10_nextToken M L = some (M', L') ∧ (M' 0 7).toInt = (e : Int) ∧ (M' 0 8).toInt = (j : Int) ∧ TkY M' L' kd nm ∧ fr0 M M' := by
  have n3 := h.2.1
  have jn := hs.le hcn (by decide)
  have bi := bt_in h j
  obtain ⟨M1, a1, a2, a3⟩ := y_skip (L := L) (j - c) c j xfuel M h hc hs rfl (by omega) (by omega) (by unfold xfuel; omega)
  have h1 := h.fr a3
  have h2 : YB (up2 M1 0 8 (M1 0 7)) B n := h1.up (by decide)
  have f2 : fr0 M (up2 M1 0 8 (M1 0 7)) := a3.tr (fr0.up (Or.inr (Or.inl rfl)))
  have c2 : (up2 M1 0 8 (M1 0 7) 0 7).toInt = (j : Int) := by rw [up2_ne (by omega)]; exact a2
  have p2 : (up2 M1 0 8 (M1 0 7) 0 8).toInt = (j : Int) := by rw [up2_same]; exact a2
  generalize hM2 : up2 M1 0 8 (M1 0 7) = M2 at *
  obtain ⟨r, r1, r2⟩ := h2.byte c2
  have rg : r = nI (bt B n j).toNat ∨ r.toInt = -1 := by
    by_cases q : bt B n j = -1
    · exact Or.inr (by rw [r2, q])
    · exact Or.inl (by rw [i_eq, r2, nI_toInt (by omega)]; omega)
  unfold f_X10_nextToken
  rw [a1, xb1_some, xlet_eq, hM2, r1, xb1_some]
  rcases ht with ⟨t1, t2, t3⟩ | ⟨t1, t2, t3, t4⟩ | ⟨t1, t2, t3⟩ | ⟨t1, t2, t3, t4⟩ | ⟨t1, t2, t3, t4⟩
  · rw [if_neg (c := 0 ≤ r) (by rw [i_le, r2, t1]; decide), xlet_eq]
    refine ⟨_, L, rfl, ?_, ?_, ⟨Or.inl ?_, fun q => by omega, fun q => ?_, by omega⟩, f2.tr (fr0.up (Or.inr (Or.inr (Or.inl rfl))))⟩
    · rw [up2_ne (by omega), t3]; exact c2
    · rw [up08]; exact p2
    · rw [up2_same, t2]; rfl
    · rw [up2_same] at q; exact absurd q (by decide)
  · have je := t3.le jn (by decide)
    rw [if_pos (c := 0 ≤ r) (by rw [i_le, r2]; simp only [Int32.reduceToInt]; omega), yFig r2, if_pos t1, if_neg n10, xlet_eq, xlet_eq]
    obtain ⟨M', k1, k2, k3, k4, k5, k6⟩ := y_digits (i := j) (L := L) (e - j) 0 e xfuel (up2 (up2 M2 0 9 1) 0 10 0) ((h2.up (by decide)).up (by decide)) (by rw [up2_ne (by omega), up2_ne (by omega)]; exact c2) t3 t3.1 (by omega) (by omega) (by rw [up2_same]; rfl) (by unfold xfuel; omega)
    rw [k1, xb1_some]
    have m9 : M' 0 9 = 1 := by rw [k4, up2_ne (by omega), up2_same]
    refine ⟨M', L, rfl, k2, ?_, ⟨Or.inl ?_, fun q => ?_, fun q => ?_, by omega⟩, ((f2.tr (fr0.up (Or.inr (Or.inr (Or.inl rfl))))).tr (fr0.up (Or.inr (Or.inr (Or.inr rfl))))).tr k6⟩
    · rw [k5, up2_ne (by omega), up2_ne (by omega)]; exact p2
    · rw [m9, t2]; rfl
    · rw [k3, t4]; exact ⟨by omega, rfl⟩
    · rw [m9] at q; exact absurd q (by decide)
  · have je := t2.le jn (by decide)
    have nd : ¬ dgP (bt B n j) := fun q => by unfold lcP at t1; unfold dgP at q; omega
    rw [if_pos (c := 0 ≤ r) (by rw [i_le, r2]; simp only [Int32.reduceToInt]; omega), yFig r2, if_neg nd, if_pos rfl, yLet r2, if_pos t1, if_neg n10, xlet_eq, xlet_eq]
    obtain ⟨M', L', k1, k2, k3, k4, k5, k6⟩ := y_letters (i := j) (e - j) 0 e xfuel (up2 M2 0 9 2) (up2 L 0 11 0) (h2.up (by decide)) (by rw [up2_ne (by omega)]; exact c2) t2 t2.1 (by omega) (by omega) (by rw [up2_same]; rfl) (by unfold xfuel; omega)
    rw [k1, xb2_some]
    have m9 : M' 0 9 = 2 := by rw [k4, up2_same]
    have cod : ∀ k, k < 27 → ((L' 0 11).toInt = (vcd k : Int) ↔ wkP B n j e k) := fun k hk => by
      rw [k3, ← wk_code t2 hk]
      exact Int.ofNat_inj
    have kdk : kd ≤ 42 ∧ ∀ k, k < 27 → (wkP B n j e k ↔ kd = k) := by
      rcases t3 with w | ⟨w1, w2⟩
      · refine ⟨by have := w.1; omega, fun k hk => ⟨fun q => ?_, fun q => by rw [← q]; exact w⟩⟩
        refine vcd_ne kd w.1 k hk ?_
        rw [← (wk_code t2 w.1).mpr w, ← (wk_code t2 hk).mpr q]
      · exact ⟨by omega, fun k hk => ⟨fun q => absurd q (w2 k hk), fun q => by omega⟩⟩
    refine ⟨M', L', rfl, k2, ?_, ⟨?_, fun q => ?_, fun _ k hk => (cod k hk).trans (kdk.2 k hk), kdk.1⟩, (f2.tr (fr0.up (Or.inr (Or.inr (Or.inl rfl))))).tr k6⟩
    · rw [k5, up08]; exact p2
    · rcases t3 with w | w
      · left
        rw [m9]
        have := w.1
        unfold tkc
        rw [if_pos this]; rfl
      · exact Or.inr ⟨w.1, Or.inr (by rw [m9]; rfl)⟩
    · exfalso
      rcases t3 with w | w
      · have := w.1; omega
      · omega
  · obtain ⟨s1, s2, s3⟩ := t1
    have nx : (M2 0 7 + 1).toInt = ((j + 1 : Nat) : Int) := k_add c2 (y := 1) (b := 1) rfl (by omega)
    have nx2 : (M2 0 7 + 1 + 1).toInt = ((j + 2 : Nat) : Int) := by rw [k_add nx (y := 1) (b := 1) rfl (by omega)]
    rw [if_pos (c := 0 ≤ r) (by rw [i_le, r2]; simp only [Int32.reduceToInt]; omega), yFig r2, if_neg s2, if_pos rfl, yLet r2, if_neg s3, if_pos rfl]
    obtain ⟨u1, u2⟩ := t2
    have sg : ∀ (w : Int32), ∃ M' L', (xlet (up2 M2 0 9 w) (fun M26 => xlet (up2 M26 0 7 ((M26 0 7) + (1 : Int32))) (fun M27 => xlet (xb1 (f_X10_byteAt M27 (M27 0 7)) (fun v30 => (if v30 = (61 : Int32) then (if r = (60 : Int32) then xlet (up2 M27 0 9 (4 : Int32)) (fun M36 => xlet (up2 M36 0 7 ((M36 0 7) + (1 : Int32))) (fun M37 => some (M37, L))) else xlet (up2 M27 0 9 (5 : Int32)) (fun M34 => xlet (up2 M34 0 7 ((M34 0 7) + (1 : Int32))) (fun M35 => some (M35, L)))) else some (M27, L)))) (fun k28 => (if r = (60 : Int32) then k28 else (if r = (62 : Int32) then k28 else some (M27, L))))))) = some (M', L') ∧ (M' 0 7).toInt = (e : Int) ∧ (M' 0 8).toInt = (j : Int) ∧ TkY M' L' kd nm ∧ fr0 M M' := by
      intro w
      have e7 : up2 M2 0 9 w 0 7 = M2 0 7 := up2_ne (by omega)
      simp only [xlet_eq]
      rw [e7]
      have hb : YB (up2 (up2 M2 0 9 w) 0 7 (M2 0 7 + 1)) B n := (h2.up (by decide)).up (by decide)
      obtain ⟨v, v1, v2⟩ := hb.byte (x := up2 (up2 M2 0 9 w) 0 7 (M2 0 7 + 1) 0 7) (i := j + 1) (by rw [up2_same]; exact nx)
      rw [v1, xb1_some, if_pos (c := v = 61) (by rw [i_eq, v2, u2]; rfl)]
      have fr : ∀ z : Int32, fr0 M (up2 (up2 (up2 (up2 M2 0 9 w) 0 7 (M2 0 7 + 1)) 0 9 z) 0 7 (M2 0 7 + 1 + 1)) := fun z => (((f2.tr (fr0.up (Or.inr (Or.inr (Or.inl rfl))))).tr (fr0.up (Or.inl rfl))).tr (fr0.up (Or.inr (Or.inr (Or.inl rfl))))).tr (fr0.up (Or.inl rfl))
      have g7 : ∀ z : Int32, up2 (up2 (up2 M2 0 9 w) 0 7 (M2 0 7 + 1)) 0 9 z 0 7 = M2 0 7 + 1 := fun z => by rw [up2_ne (by omega), up2_same]
      have g8 : ∀ z y : Int32, (up2 (up2 (up2 (up2 M2 0 9 w) 0 7 (M2 0 7 + 1)) 0 9 z) 0 7 y 0 8).toInt = (j : Int) := fun z y => by rw [up2_ne (by omega), up2_ne (by omega), up2_ne (by omega), up2_ne (by omega)]; exact p2
      have g9 : ∀ z y : Int32, up2 (up2 (up2 (up2 M2 0 9 w) 0 7 (M2 0 7 + 1)) 0 9 z) 0 7 y 0 9 = z := fun z y => by rw [up2_ne (by omega), up2_same]
      rw [g7, g7]
      by_cases q : bt B n j = 60
      · rw [if_pos (c := r = 60) (by rw [i_eq, r2, q]; rfl), if_pos (c := r = 60) (by rw [i_eq, r2, q]; rfl)]
        rw [if_pos q] at t4
        refine ⟨_, L, rfl, by rw [up2_same, t3]; exact nx2, g8 _ _, ⟨Or.inl ?_, fun p => by omega, fun p => ?_, by omega⟩, fr _⟩
        · rw [g9, t4]; rfl
        · rw [g9] at p; exact absurd p (by decide)
      · rw [if_neg (c := r = 60) (by rw [i_eq, r2]; exact q), if_neg (c := r = 60) (by rw [i_eq, r2]; exact q), if_pos (c := r = 62) (by rw [i_eq, r2]; show bt B n j = 62; omega)]
        rw [if_neg q] at t4
        refine ⟨_, L, rfl, by rw [up2_same, t3]; exact nx2, g8 _ _, ⟨Or.inl ?_, fun p => by omega, fun p => ?_, by omega⟩, fr _⟩
        · rw [g9, t4]; rfl
        · rw [g9] at p; exact absurd p (by decide)
    by_cases q : f_X10_isSign r = 0
    · rw [xlet_eq, if_pos q]; exact sg 3
    · rw [xlet_eq, if_neg q]; exact sg r
  · obtain ⟨s1, s2, s3⟩ := t1
    have nx : (M2 0 7 + 1).toInt = ((j + 1 : Nat) : Int) := k_add c2 (y := 1) (b := 1) rfl (by omega)
    rw [if_pos (c := 0 ≤ r) (by rw [i_le, r2]; simp only [Int32.reduceToInt]; omega), yFig r2, if_neg s2, if_pos rfl, yLet r2, if_neg s3, if_pos rfl]
    have sg : ∀ (w : Int32), (w.toInt = tkc kd ∨ (kd = 42 ∧ w.toInt = 58)) → w.toInt ≠ 2 → ∃ M' L', (xlet (up2 M2 0 9 w) (fun M26 => xlet (up2 M26 0 7 ((M26 0 7) + (1 : Int32))) (fun M27 => xlet (xb1 (f_X10_byteAt M27 (M27 0 7)) (fun v30 => (if v30 = (61 : Int32) then (if r = (60 : Int32) then xlet (up2 M27 0 9 (4 : Int32)) (fun M36 => xlet (up2 M36 0 7 ((M36 0 7) + (1 : Int32))) (fun M37 => some (M37, L))) else xlet (up2 M27 0 9 (5 : Int32)) (fun M34 => xlet (up2 M34 0 7 ((M34 0 7) + (1 : Int32))) (fun M35 => some (M35, L)))) else some (M27, L)))) (fun k28 => (if r = (60 : Int32) then k28 else (if r = (62 : Int32) then k28 else some (M27, L))))))) = some (M', L') ∧ (M' 0 7).toInt = (e : Int) ∧ (M' 0 8).toInt = (j : Int) ∧ TkY M' L' kd nm ∧ fr0 M M' := by
      intro w hw w2
      have e7 : up2 M2 0 9 w 0 7 = M2 0 7 := up2_ne (by omega)
      have ki := sgK_in (bt B n j)
      have kd40 : kd ≠ 40 := by
        rw [t4]
        unfold sgK
        repeat' split
        all_goals omega
      have fin : ∃ M' L', some (up2 (up2 M2 0 9 w) 0 7 (M2 0 7 + 1), L) = some (M', L') ∧ (M' 0 7).toInt = (e : Int) ∧ (M' 0 8).toInt = (j : Int) ∧ TkY M' L' kd nm ∧ fr0 M M' := by
        have g9 : up2 (up2 M2 0 9 w) 0 7 (M2 0 7 + 1) 0 9 = w := by rw [up2_ne (by omega), up2_same]
        refine ⟨_, L, rfl, by rw [up2_same, t3]; exact nx, by rw [up2_ne (by omega), up2_ne (by omega)]; exact p2, ⟨?_, fun p => absurd p kd40, fun p => absurd (by rw [g9] at p; exact p) w2, by omega⟩, (f2.tr (fr0.up (Or.inr (Or.inr (Or.inl rfl))))).tr (fr0.up (Or.inl rfl))⟩
        rw [g9]
        rcases hw with q | ⟨q1, q2⟩
        · exact Or.inl q
        · exact Or.inr ⟨q1, Or.inl q2⟩
      simp only [xlet_eq]
      rw [e7]
      have hb : YB (up2 (up2 M2 0 9 w) 0 7 (M2 0 7 + 1)) B n := (h2.up (by decide)).up (by decide)
      obtain ⟨v, v1, v2⟩ := hb.byte (x := up2 (up2 M2 0 9 w) 0 7 (M2 0 7 + 1) 0 7) (i := j + 1) (by rw [up2_same]; exact nx)
      rw [v1, xb1_some]
      by_cases q : v = 61
      · have q' : bt B n (j + 1) = 61 := by rw [← v2, q]; rfl
        have l1 : ¬ r = 60 := fun p => t2 ⟨Or.inl (by rw [← r2, p]; rfl), q'⟩
        have l2 : ¬ r = 62 := fun p => t2 ⟨Or.inr (by rw [← r2, p]; rfl), q'⟩
        rw [if_neg (c := r = 60) l1, if_neg (c := r = 62) l2]
        exact fin
      · rw [if_neg (c := v = 61) q]
        by_cases l1 : r = 60
        · rw [if_pos (c := r = 60) l1]; exact fin
        · rw [if_neg (c := r = 60) l1]
          by_cases l2 : r = 62
          · rw [if_pos (c := r = 62) l2]; exact fin
          · rw [if_neg (c := r = 62) l2]; exact fin
    obtain ⟨x, x1, x2⟩ := ySign (bt B n j).toNat (by omega)
    have rx : r = x := by rw [x1, i_eq, r2, nI_toInt (by omega)]; omega
    have bn : (((bt B n j).toNat : Nat) : Int) = bt B n j := by omega
    rw [← rx, bn] at x2
    rcases x2 with ⟨q1, q2⟩ | ⟨q1, q2⟩
    · rw [xlet_eq, if_pos q1]
      exact sg 3 (Or.inl (by rw [t4, q2]; rfl)) (by decide)
    · rw [xlet_eq, if_neg (by rw [q1]; exact n10)]
      rcases q2 with ⟨z1, z2⟩ | ⟨z1, z2⟩
      · exact sg r (Or.inr ⟨by rw [t4]; exact z1, by rw [r2]; omega⟩) (by rw [r2]; omega)
      · refine sg r (Or.inl (by rw [r2, t4]; exact z2.symm)) ?_
        rw [r2]
        intro q
        rw [q] at z1
        exact z1 rfl
