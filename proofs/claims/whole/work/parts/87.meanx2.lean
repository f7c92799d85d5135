/-! the class's code, piece by piece -/
theorem XSt.sub {o v : Nat → Int} {T u : Nat} {M M' : xm} {s : hs} {xs xe : Int32} {sub e sz k k' : Nat} (h : XSt o v T u M s xs xe sub e sz k k') {l l' sz' : Nat} (h1 : k ≤ l) (h2 : l' ≤ k') (h3 : (M' 1004 1).toInt = (sz' : Int)) (h4 : sz' + (l' - l) ≤ 300) (hf : ∀ q, q ≠ 1004 → q ≠ 1005 → M' q = M q) : XSt o v T u M' s xs xe sub e sz' l l' := by
  obtain ⟨a1, a2, a3, a4, a5, a6, a7, a8, a9, a10, a11, a12⟩ := h
  refine ⟨a1, a2, a3.fr (fun q _ _ => hf q (by omega) (by omega)), a4, a5, a6, a7, by omega, a9, fun i i1 i2 => ?_, h3, h4⟩
  rw [hf _ (by omega) (by omega), hf _ (by omega) (by omega)]
  exact a10 i (by omega) (by omega)
theorem VX_name {o v : Nat → Int} {k c : Nat} (hc : 19 ≤ c ∧ c ≤ 26) (ho : o k = (c : Int)) : VX o v k (k + 1) (mName c) := by
  refine ⟨by omega, fun T u M s xs xe sub e sz ⟨a1, a2, a3, a4, a5, a6, a7, a8, a9, a10, a11, a12⟩ => ?_⟩
  obtain ⟨b1, b2⟩ := a10 k (by omega) (by omega)
  rw [ho] at b1
  have nx : (M 1004 1 + 1).toInt = ((sz + 1 : Nat) : Int) := by rw [i_add a11 (b := 1) rfl (by omega) (by omega)]; omega
  have rg := (mName_ok hc).1 s sub a4 a6
  by_cases c21 : c = 21
  · subst c21
    have e1 : (f_J6_bitCount_0f7a4 (nI (sFB s))).toInt64.toInt = mName 21 s sub := by
      rw [bit_count _ (sFB_lt s)]
      rw [j_32 (nI_toInt (by have := popc_le (sFB s) (sFB_lt s); omega))]
      rfl
    obtain ⟨w, w1, w2⟩ := x_push (M := M) e1 a11 (by omega)
    obtain ⟨p1, p2, p3, p4⟩ := pushed (M := M) (sz := sz) (v := w) nx
    refine ⟨_, 1, by omega, XGo.one (M' := up2 (up2 M 1005 sz w) 1004 1 (M 1004 1 + 1)) (by omega) a7 (by omega) (fun fu x8 x10 e8 => ⟨x8 + 1, k_next e8 (by omega), ?_⟩), p1, by rw [p2, w2, cl6_id rg], p3, p4⟩
    simp only [xlet_eq]
    rw [if_neg (o_lit b1 44 (by decide)), if_neg (o_lit b1 45 (by decide)), if_neg (o_lit b1 40 (by decide)), if_pos (o_is b1 21 rfl), x_freePages a3, xb1_some, w1, xb1_some]
  · have key : ∃ z : Int32, f_X3_named u M (M (T + 5) k) xs = some z ∧ z.toInt = mName c s sub := by
      have hx : ¬ xs < 0 := by rw [i_lt, a5]; simp only [Int32.reduceToInt]; omega
      have hx8 : ¬ (8 : Int32) ≤ xs := by rw [i_le, a5]; simp only [Int32.reduceToInt]; omega
      unfold f_X3_named
      simp only [xlet_eq, hx, hx8, if_false]
      rw [if_pos (i_in a5 a6), if_pos (i_in a5 a6), i_ix a5, if_neg n10, if_neg n10]
      have hcc : c = 19 ∨ c = 20 ∨ c = 22 ∨ c = 23 ∨ c = 24 ∨ c = 25 ∨ c = 26 := by omega
      rcases hcc with rfl | rfl | rfl | rfl | rfl | rfl | rfl
      · rw [if_pos (o_is b1 19 rfl)]
        exact ⟨_, rfl, a3.clock⟩
      · rw [if_neg (o_lit b1 19 (by decide)), if_pos (o_is b1 20 rfl)]
        exact ⟨_, rfl, a3.phase⟩
      · rw [if_neg (o_lit b1 19 (by decide)), if_neg (o_lit b1 20 (by decide)), if_neg (o_lit b1 21 (by decide)), if_pos (o_is b1 22 rfl)]
        exact ⟨_, rfl, a3.stacked⟩
      · rw [if_neg (o_lit b1 19 (by decide)), if_neg (o_lit b1 20 (by decide)), if_neg (o_lit b1 21 (by decide)), if_neg (o_lit b1 22 (by decide)), if_pos (o_is b1 23 rfl)]
        exact ⟨_, rfl, a5⟩
      · rw [if_neg (o_lit b1 19 (by decide)), if_neg (o_lit b1 20 (by decide)), if_neg (o_lit b1 21 (by decide)), if_neg (o_lit b1 22 (by decide)), if_neg (o_lit b1 23 (by decide)), if_pos (o_is b1 24 rfl)]
        exact ⟨_, rfl, a3.l a6⟩
      · rw [if_neg (o_lit b1 19 (by decide)), if_neg (o_lit b1 20 (by decide)), if_neg (o_lit b1 21 (by decide)), if_neg (o_lit b1 22 (by decide)), if_neg (o_lit b1 23 (by decide)), if_neg (o_lit b1 24 (by decide)), if_pos (o_is b1 25 rfl)]
        exact ⟨_, rfl, a3.u a6⟩
      · rw [if_neg (o_lit b1 19 (by decide)), if_neg (o_lit b1 20 (by decide)), if_neg (o_lit b1 21 (by decide)), if_neg (o_lit b1 22 (by decide)), if_neg (o_lit b1 23 (by decide)), if_neg (o_lit b1 24 (by decide)), if_neg (o_lit b1 25 (by decide))]
        exact ⟨_, rfl, a5⟩
    obtain ⟨z, z1, z2⟩ := key
    obtain ⟨w, w1, w2⟩ := x_push (M := M) (j_32 z2) a11 (by omega)
    obtain ⟨p1, p2, p3, p4⟩ := pushed (M := M) (sz := sz) (v := w) nx
    refine ⟨_, 1, by omega, XGo.one (M' := up2 (up2 M 1005 sz w) 1004 1 (M 1004 1 + 1)) (by omega) a7 (by omega) (fun fu x8 x10 e8 => ⟨x8 + 1, k_next e8 (by omega), ?_⟩), p1, by rw [p2, w2, cl6_id rg], p3, p4⟩
    simp only [xlet_eq]
    rw [if_neg (o_lit b1 44 (by simp only [Int32.reduceToInt]; omega)), if_neg (o_lit b1 45 (by simp only [Int32.reduceToInt]; omega)), if_neg (o_lit b1 40 (by simp only [Int32.reduceToInt]; omega)), if_neg (o_lit b1 21 (by simp only [Int32.reduceToInt]; omega)), if_neg (c := M (T + 5) k < 19) (by rw [i_lt, b1]; simp only [Int32.reduceToInt]; omega), if_neg (c := (26 : Int32) < M (T + 5) k) (by rw [i_lt, b1]; simp only [Int32.reduceToInt]; omega), z1, xb1_some, w1, xb1_some]
theorem x_changed {u : Nat} {M : xm} {s : hs} (h : RX u M s) {a0 a2 : Int32} {op z : Int} (h0 : a0.toInt = op) (hop : op = 10 ∨ op = 11 ∨ op = 18 ∨ op = 43) (h2 : a2.toInt = z) (hz : -1000000 ≤ z ∧ z ≤ 1000000) : ∃ r : Int32, f_X3_changed u M a0 a2 = some r ∧ r.toInt = if op = 10 then pgV s 5 z else if op = 11 then pgV s 6 z else if op = 18 then 1 - z else -z := by
  have neg : (-a2).toInt = -z := by
    rw [Int32.toInt_neg, h2]
    apply Int.bmod_eq_of_le <;> omega
  have sub1 : ((1 : Int32) - a2).toInt = 1 - z := i_sub (a := 1) rfl h2 (by omega) (by omega)
  unfold f_X3_changed pgV
  simp only [xlet_eq]
  by_cases c : 0 ≤ z ∧ z < 8
  · obtain ⟨p, hp⟩ : ∃ p : Nat, z = p := ⟨z.toNat, by omega⟩
    have hp2 : a2.toInt = (p : Int) := by rw [h2, hp]
    rw [if_neg (c := a2 < 0) (by rw [i_lt, h2]; simp only [Int32.reduceToInt]; omega), if_neg (c := (8 : Int32) ≤ a2) (by rw [i_le, h2]; simp only [Int32.reduceToInt]; omega), if_pos c, if_pos c, if_neg n10, if_neg n10, if_pos (i_in hp2 (by omega)), if_pos (i_in hp2 (by omega)), i_ix hp2, show z.toNat = p by omega]
    rcases hop with rfl | rfl | rfl | rfl
    · rw [if_pos (o_is h0 10 rfl)]
      exact ⟨_, rfl, h.l (show p < 8 by omega)⟩
    · rw [if_neg (o_lit h0 10 (by decide)), if_pos (o_is h0 11 rfl)]
      exact ⟨_, rfl, h.u (show p < 8 by omega)⟩
    · rw [if_neg (o_lit h0 10 (by decide)), if_neg (o_lit h0 11 (by decide)), if_pos (o_is h0 18 rfl)]
      exact ⟨_, rfl, sub1⟩
    · rw [if_neg (o_lit h0 10 (by decide)), if_neg (o_lit h0 11 (by decide)), if_neg (o_lit h0 18 (by decide))]
      exact ⟨_, rfl, neg⟩
  · rw [if_neg c, if_neg c]
    have e : ∀ (A B : Option Int32), (if a2 < 0 then A else if (8 : Int32) ≤ a2 then A else B) = A := fun A B => by
      by_cases q : a2 < 0
      · rw [if_pos q]
      · rw [if_neg q, if_pos]
        rw [i_lt, h2] at q
        rw [i_le, h2]
        simp only [Int32.reduceToInt] at q ⊢
        omega
    rw [e]
    simp only [if_true]
    rcases hop with rfl | rfl | rfl | rfl
    · rw [if_pos (o_is h0 10 rfl)]
      exact ⟨_, rfl, rfl⟩
    · rw [if_neg (o_lit h0 10 (by decide)), if_pos (o_is h0 11 rfl)]
      exact ⟨_, rfl, rfl⟩
    · rw [if_neg (o_lit h0 10 (by decide)), if_neg (o_lit h0 11 (by decide)), if_pos (o_is h0 18 rfl)]
      exact ⟨_, rfl, sub1⟩
    · rw [if_neg (o_lit h0 10 (by decide)), if_neg (o_lit h0 11 (by decide)), if_neg (o_lit h0 18 (by decide))]
      exact ⟨_, rfl, neg⟩
theorem VX_un {o v : Nat → Int} {k k1 : Nat} {f : fn} {op : Int} (hf : VX o v k k1 f) (mf : Mf f) (ho : o k1 = op) (hop : op = 10 ∨ op = 11 ∨ op = 18 ∨ op = 43) : VX o v k (k1 + 1) (mUn op f) := by
  have hk := hf.1
  refine ⟨by omega, fun T u M s xs xe sub e sz hst => ?_⟩
  have ⟨a1, a2, a3, a4, a5, a6, a7, a8, a9, a10, a11, a12⟩ := hst
  obtain ⟨M1, n1, r1, r2, r3, r4, r5, r6⟩ := hf.2 T u M s xs xe sub e sz (hst.sub (Nat.le_refl _) (by omega) a11 (by omega) (fun _ _ _ => rfl))
  obtain ⟨b1, b2⟩ := a10 k1 (by omega) (by omega)
  rw [ho, ← r6 (T + 5) (by omega) (by omega)] at b1
  obtain ⟨w, w1, w2⟩ := x_pop r3 (by omega)
  have rg := mf.1 s sub a4 a6
  have hM2 : RX u (up2 M1 1004 1 w) s := a3.fr (fun q _ _ => by rw [up2_cell (by omega), r6 q (by omega) (by omega)])
  obtain ⟨z, z1, z2⟩ := x_changed hM2 b1 hop r4 rg
  obtain ⟨p, p1, p2⟩ := x_push (M := up2 M1 1004 1 w) (j_32 z2) (by rw [up2_same]; exact w2) (by omega)
  rw [up2_same] at p1
  have nx : (w + 1).toInt = ((sz + 1 : Nat) : Int) := by rw [i_add w2 (b := 1) rfl (by omega) (by omega)]; omega
  obtain ⟨q1, q2, q3, q4⟩ := pushed (M := up2 M1 1004 1 w) (sz := sz) (v := p) nx
  refine ⟨_, n1 + 1, by omega, r2.tr (XGo.one (M' := up2 (up2 (up2 M1 1004 1 w) 1005 sz p) 1004 1 (w + 1)) (k' := k1 + 1) (by omega) a7 (by omega) (fun fu x8 x10 e8 => ⟨x8 + 1, k_next e8 (by omega), ?_⟩)), q1, ?_, fun i hi => by rw [q3 i hi, up2_cell (by decide), r5 i hi], fun q c1 c2 => by rw [q4 q c1 c2, up2_cell c1, r6 q c1 c2]⟩
  · simp only [xlet_eq]
    have oo : ¬ f_X3_isOfOne (M1 (T + 5) k1) = 0 := by
      unfold f_X3_isOfOne
      rcases hop with rfl | rfl | rfl | rfl
      · rw [if_neg (o_lit b1 43 (by decide)), if_neg (o_lit b1 18 (by decide)), if_pos (o_is b1 10 rfl)]; exact n10
      · rw [if_neg (o_lit b1 43 (by decide)), if_neg (o_lit b1 18 (by decide)), if_neg (o_lit b1 10 (by decide)), if_pos (o_is b1 11 rfl)]; exact n10
      · rw [if_neg (o_lit b1 43 (by decide)), if_pos (o_is b1 18 rfl)]; exact n10
      · rw [if_pos (o_is b1 43 rfl)]; exact n10
    rw [if_neg (o_lit b1 44 (by simp only [Int32.reduceToInt]; omega)), if_neg (o_lit b1 45 (by simp only [Int32.reduceToInt]; omega)), if_neg (o_lit b1 40 (by simp only [Int32.reduceToInt]; omega)), if_neg (o_lit b1 21 (by simp only [Int32.reduceToInt]; omega)), if_neg oo, w1, xb2_some, z1, xb1_some, p1, xb1_some]
    by_cases c : M1 (T + 5) k1 < 19
    · rw [if_pos c]
    · rw [if_neg c, if_pos]
      rw [i_lt, b1] at c ⊢
      simp only [Int32.reduceToInt] at c ⊢
      omega
  · rw [q2, p2]
    unfold mUn
    have u5 : -1000000 ≤ pgV s 5 (f s sub) ∧ pgV s 5 (f s sub) ≤ 1000000 := by
      unfold pgV
      split
      · have := a4.l (show (f s sub).toNat < 8 by omega); omega
      · omega
    have u6 : -1000000 ≤ pgV s 6 (f s sub) ∧ pgV s 6 (f s sub) ≤ 1000000 := by
      unfold pgV
      split
      · have := a4.u (show (f s sub).toNat < 8 by omega); omega
      · omega
    split
    · exact cl6_id u5
    · split
      · exact cl6_id u6
      · split <;> rfl
/-- what two make of one another -/
def mJ (op a b : Int) : Int := if op = 16 then (if a = 0 ∧ b = 0 then 0 else 1) else if op = 17 then (if a = 0 ∨ b = 0 then 0 else 1) else if op = 31 ∨ op = 32 ∨ op = 33 ∨ op = 34 then mTwo op a b else bI (mAsk op a b)
abbrev opJ (op : Int) : Prop := op = 16 ∨ op = 17 ∨ op = 27 ∨ op = 28 ∨ op = 29 ∨ op = 30 ∨ op = 31 ∨ op = 32 ∨ op = 33 ∨ op = 34 ∨ op = 38 ∨ op = 39
theorem x_joined {a0 a1 a2 : Int32} {op z y : Int} (h0 : a0.toInt = op) (hop : opJ op) (h1 : a1.toInt = z) (h2 : a2.toInt = y) (hz : -1000000 ≤ z ∧ z ≤ 1000000) (hy : -1000000 ≤ y ∧ y ≤ 1000000) (hb : op = 16 ∨ op = 17 → (z = 0 ∨ z = 1) ∧ (y = 0 ∨ y = 1)) : ∃ r : Int64, f_X3_joined a0 a1 a2 = some r ∧ cl6 r.toInt = mJ op z y := by
  have o1 : (1 : Int64).toInt = 1 := rfl
  have o0 : (0 : Int64).toInt = 0 := rfl
  have c0 : cl6 0 = 0 := rfl
  have c1 : cl6 1 = 1 := rfl
  unfold f_X3_joined
  rcases hop with rfl | rfl | rfl | rfl | rfl | rfl | rfl | rfl | rfl | rfl | rfl | rfl
  all_goals simp only [i_eq, i_lt, i_le, h0, h1, h2, Int32.reduceToInt]
  · obtain ⟨q1, q2⟩ := hb (Or.inl rfl)
    refine ⟨_, rfl, ?_⟩
    rcases q1 with rfl | rfl <;> rcases q2 with rfl | rfl
    · rw [show a1 = 0 by rw [i_eq, h1]; rfl, show a2 = 0 by rw [i_eq, h2]; rfl]; rfl
    · rw [show a1 = 0 by rw [i_eq, h1]; rfl, show a2 = 1 by rw [i_eq, h2]; rfl]; rfl
    · rw [show a1 = 1 by rw [i_eq, h1]; rfl, show a2 = 0 by rw [i_eq, h2]; rfl]; rfl
    · rw [show a1 = 1 by rw [i_eq, h1]; rfl, show a2 = 1 by rw [i_eq, h2]; rfl]; rfl
  · obtain ⟨q1, q2⟩ := hb (Or.inr rfl)
    refine ⟨_, rfl, ?_⟩
    rcases q1 with rfl | rfl <;> rcases q2 with rfl | rfl
    · rw [show a1 = 0 by rw [i_eq, h1]; rfl, show a2 = 0 by rw [i_eq, h2]; rfl]; rfl
    · rw [show a1 = 0 by rw [i_eq, h1]; rfl, show a2 = 1 by rw [i_eq, h2]; rfl]; rfl
    · rw [show a1 = 1 by rw [i_eq, h1]; rfl, show a2 = 0 by rw [i_eq, h2]; rfl]; rfl
    · rw [show a1 = 1 by rw [i_eq, h1]; rfl, show a2 = 1 by rw [i_eq, h2]; rfl]; rfl
  · by_cases q : y ≤ z
    · exact ⟨0, by simp [q], by rw [o0, c0]; simp [mJ, mAsk, bI]; omega⟩
    · exact ⟨1, by simp [q], by rw [o1, c1]; simp [mJ, mAsk, bI]; omega⟩
  · by_cases q : z ≤ y
    · exact ⟨0, by simp [q], by rw [o0, c0]; simp [mJ, mAsk, bI]; omega⟩
    · exact ⟨1, by simp [q], by rw [o1, c1]; simp [mJ, mAsk, bI]; omega⟩
  · by_cases q : z = y
    · exact ⟨1, by simp [q], by rw [o1, c1]; simp [mJ, mAsk, bI]; omega⟩
    · exact ⟨0, by simp [q], by rw [o0, c0]; simp [mJ, mAsk, bI]; omega⟩
  · by_cases q : z = y
    · exact ⟨0, by simp [q], by rw [o0, c0]; simp [mJ, mAsk, bI]; omega⟩
    · exact ⟨1, by simp [q], by rw [o1, c1]; simp [mJ, mAsk, bI]; omega⟩
  · refine ⟨(a1 + a2).toInt64, by simp, ?_⟩
    rw [j_32 (i_add h1 h2 (by omega) (by omega))]; simp [mJ, mTwo]
  · refine ⟨(a1 - a2).toInt64, by simp, ?_⟩
    rw [j_32 (i_sub h1 h2 (by omega) (by omega))]; simp [mJ, mTwo]
  · have m := mul6 hz hy
    refine ⟨a1.toInt64 * a2.toInt64, by simp, ?_⟩
    rw [j_mul (j_32 h1) (j_32 h2) (by omega) (by omega)]; simp [mJ, mTwo]
  · by_cases q : y = 0
    · exact ⟨0, by simp [q], by rw [o0, c0]; simp [mJ, mTwo, q]⟩
    · have t := tdiv6 (b := y) hz
      refine ⟨(a1 / a2).toInt64, by simp [q], ?_⟩
      have e : (a1 / a2).toInt = z.tdiv y := by
        rw [Int32.toInt_div, h1, h2]
        apply Int.bmod_eq_of_le <;> omega
      rw [j_32 e, cl6_id t]; simp [mJ, mTwo, q]
  · by_cases q : y < z
    · exact ⟨0, by simp [q], by rw [o0, c0]; simp [mJ, mAsk, bI]; omega⟩
    · exact ⟨1, by simp [q], by rw [o1, c1]; simp [mJ, mAsk, bI]; omega⟩
  · by_cases q : z < y
    · exact ⟨0, by simp [q], by rw [o0, c0]; simp [mJ, mAsk, bI]; omega⟩
    · exact ⟨1, by simp [q], by rw [o1, c1]; simp [mJ, mAsk, bI]; omega⟩
