/-! the reference's tokens between and at the end; how one begins -/
theorem y_nosign {M : xm} {L : xn} {kd nm : Nat} (h : TkY M L kd nm) (hk : kd ≠ 31 ∧ kd ≠ 32 ∧ kd ≠ 33 ∧ kd ≠ 34) {vo : Int32} (ho : f_X10_openNow M = some vo) : (vo ≠ 41 → f_X10_betweenOf M L = some (-1)) ∧ (vo = 41 → f_X10_isCompared M = some 0 → f_X10_betweenOf M L = some (f_X10_compareOf M)) ∧ (vo = 41 → f_X10_isCompared M = some 1 → f_X10_betweenOf M L = some (if kd = 17 then 21 else if kd = 16 then 22 else -1)) := by
  have e1 := h.sg (c := 31) (x := 43) (by omega) rfl (by decide) (by decide) (by decide)
  have e2 := h.sg (c := 32) (x := 45) (by omega) rfl (by decide) (by decide) (by decide)
  have e3 := h.sg (c := 33) (x := 42) (by omega) rfl (by decide) (by decide) (by decide)
  have e4 := h.sg (c := 34) (x := 47) (by omega) rfl (by decide) (by decide) (by decide)
  unfold f_X10_betweenOf
  rw [if_neg (c := M 0 9 = 43) (fun q => hk.1 (e1.mp q)), if_neg (c := M 0 9 = 45) (fun q => hk.2.1 (e2.mp q)), if_neg (c := M 0 9 = 42) (fun q => hk.2.2.1 (e3.mp q)), if_neg (c := M 0 9 = 47) (fun q => hk.2.2.2 (e4.mp q)), ho, xb1_some]
  refine ⟨fun q => by rw [if_neg q], fun q c => by rw [if_pos q, c, xb1_some, if_pos rfl], fun q c => ?_⟩
  rw [if_pos q, c, xb1_some, if_neg n10, h.word (by omega) w_and, h.word (by omega) w_or]
  by_cases q1 : kd = 17
  · rw [if_pos q1, if_neg n10, if_pos q1]
  · rw [if_neg q1, if_pos rfl, if_neg q1]
    by_cases q2 : kd = 16
    · rw [if_pos q2, if_neg n10, if_pos q2]
    · rw [if_neg q2, if_pos rfl, if_neg q2]
theorem y_partOf {M : xm} {L : xn} {kd nm : Nat} (h : TkY M L kd nm) : f_X10_partOf M L 40 = some (if kd = 36 then 0 else -1) ∧ (f_X10_isCompared M = some 1 → f_X10_partOf M L 41 = some (if kd = 13 then 42 else -1)) ∧ (f_X10_isCompared M = some 0 → f_X10_partOf M L 41 = some (-1)) ∧ f_X10_partOf M L 42 = some (if kd = 14 then 43 else -1) ∧ f_X10_partOf M L 43 = some (if kd = 15 then 0 else -1) := by
  have e1 := h.sg (c := 36) (x := 41) (by omega) rfl (by decide) (by decide) (by decide)
  have a1 : ¬ ((41 : Int32) = 40) := by decide
  have a2 : ¬ ((42 : Int32) = 40) := by decide
  have a3 : ¬ ((42 : Int32) = 41) := by decide
  have a4 : ¬ ((43 : Int32) = 40) := by decide
  have a5 : ¬ ((43 : Int32) = 41) := by decide
  have a6 : ¬ ((43 : Int32) = 42) := by decide
  unfold f_X10_partOf
  rw [h.word (by omega) w_then, h.word (by omega) w_else, h.word (by omega) w_end]
  refine ⟨?_, fun c => ?_, fun c => ?_, ?_, ?_⟩
  · rw [if_pos rfl]
    by_cases q : kd = 36
    · rw [if_pos q, if_pos (e1.mpr q)]
    · rw [if_neg q, if_neg (fun z => q (e1.mp z))]
  · rw [if_neg a1, if_pos rfl, c, xb1_some, if_neg n10]
    by_cases q : kd = 13
    · rw [if_pos q, if_neg n10, if_pos q]
    · rw [if_neg q, if_pos rfl, if_neg q]
  · rw [if_neg a1, if_pos rfl, c, xb1_some, if_pos (c := (0 : Int32) = 0) rfl, ite_self]
  · rw [if_neg a2, if_neg a3, if_pos rfl]
    by_cases q : kd = 14
    · rw [if_pos q, if_neg n10, if_pos q]
    · rw [if_neg q, if_pos rfl, if_neg q]
  · rw [if_neg a4, if_neg a5, if_neg a6, if_pos rfl]
    by_cases q : kd = 15
    · rw [if_pos q, if_neg n10, if_pos q]
    · rw [if_neg q, if_pos rfl, if_neg q]
theorem y_atom {G : Qc} {M : xm} {L : xn} {i b u w : Nat} {op : Int} (h : CY G M L i (b + u) w op) (hi : i < G.T) (hb : b = 0 ∨ rk (pil M (b - 1)) < 7) (hbr : b + u ≤ 160) (h1 : -700 ≤ op) (h2 : op ≤ 700) (hl : ∀ x, x < u → rk (pil M (b + x)) = 7) (a1 a2 : Int32) : ∃ M' L', xb1 (f_X10_emit M a1 a2) (fun M12 => xb2 (f_X10_nextToken M12 L) (fun M15 L16 => xlet (up2 M15 0 18 (1 : Int32)) (fun M18 => xb1 (f_X10_settle M18 (7 : Int32)) (fun M20 => some ((0 : Int32), M20, L16))))) = some (0, M', L') ∧ CY G M' L' (i + 1) b (w + 1 + u) (op - u) ∧ M' 0 18 = 1 ∧ pil M' = pil M ∧ cYo G.t M' w = a1.toInt ∧ cYv G.t M' w = a2.toInt ∧ (∀ j, j < u → cYo G.t M' (w + 1 + j) = pil M (b + u - 1 - j)) ∧ frR G.t w M M' := by
  have T3 := h.T3
  obtain ⟨M1, m1, m2, m3, m4, m5⟩ := y_emit h.2.1 (a1 := a1) (a2 := a2) (by omega)
  have yp : YP M1 L G.B G.n G.K G.P G.N G.E i := h.1.fr (m5.1 4 (by decide) (by decide)) (fun j hj => m5.2.1 j (by omega) (by omega) (by omega))
  obtain ⟨M2, L2, n1, n2, n3⟩ := y_next yp G.ht hi
  have c0 : ∀ j, j ≠ 18 → up2 M2 0 18 1 0 j = M2 0 j := fun j hj => up2_ne (by omega)
  have y3 : CY G (up2 M2 0 18 1) L2 (i + 1) (b + u) (w + 1) op := by
    refine ⟨n2.fr (by rw [up2_cell (by decide)]) (fun j hj => c0 j (by omega)), ?_, by omega, by omega, ?_⟩
    · unfold YQ
      rw [c0 12 (by decide), c0 13 (by decide), c0 16 (by decide), c0 17 (by decide), n3.2 12 (by decide) (by decide) (by decide) (by decide), n3.2 13 (by decide) (by decide) (by decide) (by decide), n3.2 16 (by decide) (by decide) (by decide) (by decide), n3.2 17 (by decide) (by decide) (by decide) (by decide)]
      exact m2
    · rw [c0 14 (by decide), n3.2 14 (by decide) (by decide) (by decide) (by decide), m5.2.1 14 (by decide) (by decide) (by decide)]
      exact h.2.2.2.2
  have p3 : pil (up2 M2 0 18 1) = pil M := pil_eq (by rw [up2_cell (by decide), n3.1 5 (by decide), m5.1 5 (by decide) (by decide)])
  have c3 : (up2 M2 0 18 1) 3 = M1 3 := by rw [up2_cell (by decide), n3.1 3 (by decide)]
  obtain ⟨M5, t1, t2, t3, t4, t5, t6⟩ := y3.ones (by rw [p3]; exact hb) hbr h1 h2 (by rw [p3]; exact hl)
  refine ⟨M5, L2, ?_, t2, by rw [t4, up2_same], t3.trans p3, ?_, ?_, fun j hj => by rw [t5 j hj, p3], ?_⟩
  · rw [m1, xb1_some, n1, xb2_some, xlet_eq, t1, xb1_some]
  · unfold cYo
    rw [t6.2.2 _ (by omega), c3, m3]
  · unfold cYv
    rw [t6.2.2 _ (by omega), c3, m4]
  · exact (((frR.e m5 (by omega)).tr (frR.o (w := w) n3) (Nat.le_refl _)).tr (frR.s (w := w) (by omega)) (Nat.le_refl _)).tr (frR.e t6 (by omega)) (by omega)
theorem y_opened {G : Qc} {M : xm} {L : xn} {i b w e : Nat} (h : CY G M L i b w e) (a1 : Int32) : (e = 8 → f_X10_opened M L a1 = some (3, M, L)) ∧ (e < 8 → i < G.T → b < 160 → ∃ M' L', f_X10_opened M L a1 = some (0, M', L') ∧ CY G M' L' (i + 1) (b + 1) w ((e + 1 : Nat) : Int) ∧ M' 0 18 = M 0 18 ∧ pil M' b = a1.toInt ∧ (∀ x, x < b → pil M' x = pil M x) ∧ M' 3 = M 3 ∧ frR G.t w M M') := by
  have T3 := h.T3
  obtain ⟨q1, q2, q3, q4, q5⟩ := h.2.1
  constructor
  · intro e8
    unfold f_X10_opened
    rw [if_pos (by rw [i_eq, q5, e8]; rfl)]
  · intro e8 hi hb
    have nx : (M 0 17 + 1).toInt = ((e + 1 : Nat) : Int) := k_add q5 (y := 1) (b := 1) rfl (by omega)
    have n16 : (M 0 16 + 1).toInt = ((b + 1 : Nat) : Int) := k_add q3 (y := 1) (b := 1) rfl (by omega)
    have z16 : up2 M 0 17 (M 0 17 + 1) 0 16 = M 0 16 := up2_ne (by omega)
    have z0 : up2 (up2 M 0 17 (M 0 17 + 1)) 5 b a1 0 = up2 M 0 17 (M 0 17 + 1) 0 := up2_cell (by decide)
    have y2 : YQ (up2 (up2 (up2 M 0 17 (M 0 17 + 1)) 5 b a1) 0 16 (M 0 16 + 1)) G.t (b + 1) w ((e + 1 : Nat) : Int) := ⟨by rw [up2_ne (by omega), z0, up2_ne (by omega)]; exact q1, q2, by rw [up2_same]; exact n16, by rw [up2_ne (by omega), z0, up2_ne (by omega)]; exact q4, by rw [up2_ne (by omega), z0, up2_same]; exact nx⟩
    have yp : YP (up2 (up2 (up2 M 0 17 (M 0 17 + 1)) 5 b a1) 0 16 (M 0 16 + 1)) L G.B G.n G.K G.P G.N G.E i := h.1.fr (by rw [up2_cell (by decide), up2_cell (by decide), up2_cell (by decide)]) (fun j hj => by rw [up2_ne (by omega), z0, up2_ne (by omega)])
    obtain ⟨M2, L2, n1, n2, n3⟩ := y_next yp G.ht hi
    refine ⟨M2, L2, ?_, ⟨n2, ?_, by omega, by omega, ?_⟩, ?_, ?_, ?_, ?_, ?_⟩
    · unfold f_X10_opened
      rw [if_neg (by rw [i_eq, q5]; simp only [Int32.reduceToInt]; omega), xlet_eq, z16, if_pos (i_in q3 hb), i_ix q3, xlet_eq, z0, z16, xlet_eq, n1, xb2_some]
    · unfold YQ
      rw [n3.2 12 (by decide) (by decide) (by decide) (by decide), n3.2 13 (by decide) (by decide) (by decide) (by decide), n3.2 16 (by decide) (by decide) (by decide) (by decide), n3.2 17 (by decide) (by decide) (by decide) (by decide)]
      exact y2
    · rw [n3.2 14 (by decide) (by decide) (by decide) (by decide), up2_ne (by omega), z0, up2_ne (by omega)]
      exact h.2.2.2.2
    · rw [n3.2 18 (by decide) (by decide) (by decide) (by decide), up2_ne (by omega), z0, up2_ne (by omega)]
    · unfold pil
      rw [n3.1 5 (by decide), up2_cell (by decide), up2_same]
    · intro x hx
      unfold pil
      rw [n3.1 5 (by decide), up2_cell (by decide), up2_ne (by omega), up2_cell (by decide)]
    · rw [n3.1 3 (by decide), up2_cell (by decide), up2_cell (by decide), up2_cell (by decide)]
    · exact (((frR.s (w := w) (by omega)).tr (frR.p (w := w)) (Nat.le_refl _)).tr (frR.s (w := w) (by omega)) (Nat.le_refl _)).tr (frR.o (w := w) n3) (Nat.le_refl _)
theorem y_isAskAhead {M : xm} {b : Nat} (hb : (M 0 16).toInt = (b : Int)) (h1 : b ≤ 160) : ((b = 0 ∨ (pil M (b - 1) ≠ 41 ∧ ¬ (1 ≤ rk (pil M (b - 1)) ∧ rk (pil M (b - 1)) ≤ 3))) → f_X10_isAskAhead M = some 0) ∧ (∀ c, 1 ≤ c → tpP (fun z => 40 ≤ z) (pil M) b c → pil M (c - 1) = 41 → (pil M (b - 1) = 41 ∨ (1 ≤ rk (pil M (b - 1)) ∧ rk (pil M (b - 1)) ≤ 3)) → f_X10_isAskAhead M = some 1) := by
  have e41 : (41 : Int32).toInt = 41 := rfl
  have e40 : (40 : Int32).toInt = 40 := rfl
  have e3 : (3 : Int32).toInt = 3 := rfl
  have e1 : (1 : Int32).toInt = 1 := rfl
  constructor
  · intro h
    obtain ⟨c, hc⟩ := tpP_ex (P := fun z => 40 ≤ z) (pil M) b
    obtain ⟨r, r1, r2⟩ := y_openNow hb h1 (p := pil M) (fun j _ => rfl) hc
    unfold f_X10_isAskAhead
    rw [r1, xb1_some]
    by_cases q : r = 41
    · rw [if_pos q]
      have r3 : r.toInt = 41 := by rw [q]; rfl
      have c0 : c ≠ 0 := fun z => by rw [if_pos z] at r2; omega
      rw [if_neg c0, r3] at r2
      have cb := hc.1
      have hh : pil M (b - 1) ≠ 41 ∧ ¬ (1 ≤ rk (pil M (b - 1)) ∧ rk (pil M (b - 1)) ≤ 3) := by
        rcases h with z | z
        · omega
        · exact z
      have b1 : (M 0 16 - 1).toInt = ((b - 1 : Nat) : Int) := k_sub hb (y := 1) (b := 1) rfl (by omega) (by omega)
      have top : (M 5 (b - 1)).toInt = pil M (b - 1) := rfl
      have n40 : ¬ 40 ≤ pil M (b - 1) := by
        intro z
        rcases Nat.lt_or_ge (b - 1) c with y | y
        · have : c = b := by omega
          rw [this] at r2
          exact hh.1 r2.symm
        · exact hc.2.1 (b - 1) y (by omega) z
      rw [if_pos (i_in b1 (by omega)), i_ix b1, if_neg (by rw [i_le, top, e40]; exact n40), if_pos]
      unfold f_X10_isIn
      simp only [i_lt, y_rank top, e1, e3]
      by_cases y : rk (pil M (b - 1)) < 1
      · rw [if_pos y]
      · rw [if_neg y, if_pos (by omega)]
    · rw [if_neg q]
  · intro c c1 hc c41 h
    obtain ⟨r, r1, r2⟩ := y_openNow hb h1 (p := pil M) (fun j _ => rfl) hc
    rw [if_neg (by omega), c41] at r2
    have r3 : r = 41 := by rw [i_eq, r2]; rfl
    have cb := hc.1
    have b1 : (M 0 16 - 1).toInt = ((b - 1 : Nat) : Int) := k_sub hb (y := 1) (b := 1) rfl (by omega) (by omega)
    have top : (M 5 (b - 1)).toInt = pil M (b - 1) := rfl
    unfold f_X10_isAskAhead
    rw [r1, xb1_some, if_pos r3, if_pos (i_in b1 (by omega)), i_ix b1]
    by_cases n40 : 40 ≤ pil M (b - 1)
    · rw [if_pos (by rw [i_le, top, e40]; exact n40)]
    · rw [if_neg (by rw [i_le, top, e40]; exact n40), if_neg]
      unfold f_X10_isIn
      simp only [i_lt, y_rank top, e1, e3]
      rw [if_neg (by omega), if_neg (by omega)]
      exact n10
def opO (kd : Nat) : Int32 := if kd = 35 then 40 else if kd = 32 then 5 else if kd = 10 then 2 else if kd = 11 then 4 else 41
/-- how one begins, by the kind of the token -/
theorem y_beginOne {M : xm} {L : xn} {kd nm : Nat} (h : TkY M L kd nm) : (kd = 40 → nm ≤ 9999 → f_X10_beginOne M L = xb1 (f_X10_emit M 0 (M 0 10)) (fun M12 => xb2 (f_X10_nextToken M12 L) (fun M15 L16 => xlet (up2 M15 0 18 (1 : Int32)) (fun M18 => xb1 (f_X10_settle M18 (7 : Int32)) (fun M20 => some ((0 : Int32), M20, L16))))) ∧ (M 0 10).toInt = (nm : Int)) ∧ (kd = 40 → ¬ nm ≤ 9999 → f_X10_beginOne M L = some (2, M, L)) ∧ (19 ≤ kd → kd ≤ 26 → f_X10_isOf M (f_X10_nameOf M L) = 0 → f_X10_beginOne M L = some (5, M, L)) ∧ (19 ≤ kd → kd ≤ 26 → f_X10_isOf M (f_X10_nameOf M L) = 1 → f_X10_beginOne M L = xb1 (f_X10_emit M 1 (f_X10_nameOf M L)) (fun M12 => xb2 (f_X10_nextToken M12 L) (fun M15 L16 => xlet (up2 M15 0 18 (1 : Int32)) (fun M18 => xb1 (f_X10_settle M18 (7 : Int32)) (fun M20 => some ((0 : Int32), M20, L16)))))) := by
  have t1 := h.sg (c := 40) (x := 1) (by omega) rfl (by decide) (by decide) (by decide)
  have nv := y_nameOf h
  refine ⟨fun k hn => ?_, fun k hn => ?_, fun k1 k2 ho => ?_, fun k1 k2 ho => ?_⟩
  · have c1 := t1.mpr k
    have vn : f_X10_nameOf M L < 0 := by rw [i_lt, nv, if_neg (by omega)]; decide
    obtain ⟨g1, g2⟩ := h.2.1 k
    have g3 : (M 0 10).toInt = (nm : Int) := by omega
    refine ⟨?_, g3⟩
    unfold f_X10_beginOne
    simp only [xlet_eq, if_pos c1, if_pos vn]
    rw [if_pos (by rw [i_le, g3]; simp only [Int32.reduceToInt]; omega)]
  · have c1 := t1.mpr k
    obtain ⟨g1, g2⟩ := h.2.1 k
    unfold f_X10_beginOne
    simp only [xlet_eq, if_pos c1]
    rw [if_neg (c := M 0 10 ≤ 9999) (by rw [i_le]; simp only [Int32.reduceToInt]; omega)]
  · have c1 : ¬ M 0 9 = 1 := fun z => by have := t1.mp z; omega
    have vn : ¬ f_X10_nameOf M L < 0 := by rw [i_lt, nv, if_pos ⟨k1, k2⟩]; simp only [Int32.reduceToInt]; omega
    unfold f_X10_beginOne
    simp only [xlet_eq, if_neg c1, if_neg vn, if_pos ho]
  · have c1 : ¬ M 0 9 = 1 := fun z => by have := t1.mp z; omega
    have vn : ¬ f_X10_nameOf M L < 0 := by rw [i_lt, nv, if_pos ⟨k1, k2⟩]; simp only [Int32.reduceToInt]; omega
    have ho2 : ¬ f_X10_isOf M (f_X10_nameOf M L) = 0 := by rw [ho]; exact n10
    unfold f_X10_beginOne
    simp only [xlet_eq, if_neg c1, if_neg vn, if_neg ho2]
theorem xb3_id {α β γ : Type} (o : Option (α × β × γ)) : xb3 o (fun a b c => some (a, b, c)) = o := by
  cases o <;> rfl
theorem y_beginOpen {M : xm} {L : xn} {kd nm : Nat} (h : TkY M L kd nm) : ((kd = 35 ∨ kd = 32 ∨ kd = 10 ∨ kd = 11 ∨ kd = 12) → f_X10_beginOne M L = f_X10_opened M L (opO kd)) ∧ (kd = 18 → f_X10_isAskAhead M = some 1 → f_X10_beginOne M L = f_X10_opened M L 20) ∧ (¬ (kd = 40 ∨ (19 ≤ kd ∧ kd ≤ 26) ∨ kd = 35 ∨ kd = 32 ∨ kd = 10 ∨ kd = 11 ∨ kd = 12) → (kd = 18 → f_X10_isAskAhead M = some 0) → f_X10_beginOne M L = some (1, M, L)) := by
  have t1 := h.sg (c := 40) (x := 1) (by omega) rfl (by decide) (by decide) (by decide)
  have t2 := h.sg (c := 35) (x := 40) (by omega) rfl (by decide) (by decide) (by decide)
  have t3 := h.sg (c := 32) (x := 45) (by omega) rfl (by decide) (by decide) (by decide)
  have u1 := h.word (k := 10) (by omega) w_live
  have u2 := h.word (k := 11) (by omega) w_used
  have u3 := h.word (k := 12) (by omega) w_if
  have u4 := h.word (k := 18) (by omega) w_not
  have nv := y_nameOf h
  have vn : ¬ (19 ≤ kd ∧ kd ≤ 26) → f_X10_nameOf M L < 0 := fun z => by rw [i_lt, nv, if_neg z]; decide
  refine ⟨fun k => ?_, fun k ha => ?_, fun k ha => ?_⟩
  · have c1 : ¬ M 0 9 = 1 := fun z => by have := t1.mp z; omega
    have vn := vn (by omega)
    unfold f_X10_beginOne
    simp only [xlet_eq, if_neg c1, if_pos vn, t2, t3, u1, u2, u3, u4, xb3_id]
    rcases k with rfl | rfl | rfl | rfl | rfl <;> rfl
  · have c1 : ¬ M 0 9 = 1 := fun z => by have := t1.mp z; omega
    have vn2 := vn (by omega)
    subst k
    unfold f_X10_beginOne
    simp only [xlet_eq, if_neg c1, if_pos vn2, t2, t3, u1, u2, u3, u4, xb3_id, ha, xb1_some]
    rfl
  · have c1 : ¬ M 0 9 = 1 := fun z => by have := t1.mp z; omega
    have vn := vn (by omega)
    unfold f_X10_beginOne
    simp only [xlet_eq, if_neg c1, if_pos vn, t2, t3, u1, u2, u3, u4, xb3_id]
    rw [if_neg (c := kd = 35) (by omega), if_neg (c := kd = 32) (by omega), if_neg (c := kd = 10) (by omega), if_pos rfl, if_neg (c := kd = 11) (by omega), if_pos rfl, if_neg (c := kd = 12) (by omega), if_pos rfl]
    by_cases q : kd = 18
    · rw [if_pos q, if_neg n10, ha q, xb1_some, if_pos rfl]
    · rw [if_neg q, if_pos rfl]
theorem y_isOf {M : xm} {L : xn} {kd nm : Nat} {pk : Bool} (h : TkY M L kd nm) (hk : 19 ≤ kd ∧ kd ≤ 26) (hs : (M 0 14).toInt = sot pk) : f_X10_isOf M (f_X10_nameOf M L) = if kd ≤ 22 ∨ (kd ≤ 25 ∧ pk = true) ∨ (kd = 26 ∧ pk = false) then 1 else 0 := by
  have nv := y_nameOf h
  rw [if_pos hk] at nv
  have q1 : f_X10_nameOf M L < 4 ↔ kd ≤ 22 := by rw [i_lt, nv]; simp only [Int32.reduceToInt]; omega
  have q2 : 7 ≤ f_X10_nameOf M L ↔ kd = 26 := by rw [i_le, nv]; simp only [Int32.reduceToInt]; omega
  have q3 : M 0 14 = 1 ↔ pk = false := by
    rw [i_eq, hs]
    cases pk with
    | true => simp only [sot, reduceCtorEq, iff_false, if_true]; decide
    | false => simp only [sot, reduceCtorEq, if_false, iff_true]; decide
  have q4 : M 0 14 = 0 ↔ pk = true := by
    rw [i_eq, hs]
    cases pk with
    | true => simp only [sot, iff_true, if_true]; decide
    | false => simp only [sot, reduceCtorEq, if_false, iff_false]; decide
  unfold f_X10_isOf
  simp only [q1, q2, q3, q4]
  by_cases c1 : kd ≤ 22
  · rw [if_pos c1, if_pos (Or.inl c1)]
  · rw [if_neg c1]
    by_cases c2 : kd = 26
    · rw [if_pos c2]
      by_cases c3 : pk = false
      · rw [if_pos c3, if_pos (Or.inr (Or.inr ⟨c2, c3⟩))]
      · rw [if_neg c3, if_neg]
        rintro (z | z | z)
        · exact c1 z
        · omega
        · exact c3 z.2
    · rw [if_neg c2]
      by_cases c3 : pk = true
      · rw [if_pos c3, if_pos (Or.inr (Or.inl ⟨by omega, c3⟩))]
      · rw [if_neg c3, if_neg]
        rintro (z | z | z)
        · exact c1 z
        · exact c3 z.2
        · exact c2 z.1
