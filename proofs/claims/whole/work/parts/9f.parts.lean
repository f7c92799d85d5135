/-! the reference behind one: what can't stand here, the next part, what is shut -/
theorem tpP_ex {P : Int → Prop} [DecidablePred P] (p : Nat → Int) : ∀ b, ∃ c, tpP P p b c := by
  intro b
  induction b with
  | zero => exact ⟨0, Nat.le_refl _, fun j _ h => by omega, fun h => by omega⟩
  | succ b ih =>
    by_cases q : P (p b)
    · exact ⟨b + 1, Nat.le_refl _, fun j h1 h2 => by omega, fun _ => q⟩
    · obtain ⟨c, h1, h2, h3⟩ := ih
      refine ⟨c, by omega, fun j g1 g2 => ?_, h3⟩
      rcases Nat.lt_or_ge j b with z | z
      · exact h2 j g1 z
      · rw [show j = b by omega]; exact q
theorem tpP.up {P : Int → Prop} {p p' : Nat → Int} {b c : Nat} (h : tpP P p b c) (r : Nat) (hp : ∀ x, x < b → p' x = p x) (hn : ∀ x, x < r → ¬ P (p' (b + x))) : tpP P p' (b + r) c := by
  refine ⟨by have := h.1; omega, fun j h1 h2 => ?_, fun h1 => by rw [hp _ (by have := h.1; omega)]; exact h.2.2 h1⟩
  rcases Nat.lt_or_ge j b with z | z
  · rw [hp j z]; exact h.2.1 j h1 z
  · have := hn (j - b) (by omega)
    rw [show b + (j - b) = j by omega] at this
    exact this
theorem tpP.top {P : Int → Prop} {p : Nat → Int} {b : Nat} (h : P (p b)) : tpP P p (b + 1) (b + 1) := ⟨Nat.le_refl _, fun j h1 h2 => by omega, fun _ => h⟩
theorem y_bad {G : Qc} {M : xm} {L : xn} {i : Nat} {v vo vp : Int32} (hi : i ≤ G.T) (wh : M 0 18 = 1) (h1 : f_X10_betweenOf M L = some v) (h2 : v < 0) (h3 : f_X10_openNow M = some vo) (h4 : ¬ vo < 0) (h5 : f_X10_partOf M L vo = some vp) (h6 : ¬ 0 ≤ vp) : YZ G i M L = some (1, M, L) := by
  have e : f_X10_behindOne M L = some (0, M, L) := by
    unfold f_X10_behindOne
    rw [h1, xb1_some, if_pos h2, h3, xb1_some, h5, xb1_some, if_neg h6]
  rw [YZ_stop hi wh e, h3, xb1_some, if_neg h4]
theorem y_part {G : Qc} {M : xm} {L : xn} {i b r w : Nat} {op : Int} {v vo vp : Int32} (h : CY G M L i (b + 1 + r) w op) (hi : i < G.T) (wh : M 0 18 = 1) (h1 : f_X10_betweenOf M L = some v) (h2 : v < 0) (h3 : f_X10_openNow M = some vo) (h5 : f_X10_partOf M L vo = some vp) (h6 : 0 < vp) (ho : 40 ≤ pil M b) (hbr : b + 1 + r ≤ 159) (o1 : -700 ≤ op) (o2 : op ≤ 700) (hl : ∀ j, j < r → 1 ≤ rk (pil M (b + 1 + j))) : ∃ M' L', YZ G i M L = YZ G (i + 1) M' L' ∧ CY G M' L' (i + 1) (b + 1) (w + r) (op - cntO (pil M) (b + 1) r) ∧ M' 0 18 = 0 ∧ pil M' b = vp.toInt ∧ (∀ x, x < b → pil M' x = pil M x) ∧ (∀ j, j < r → cYo G.t M' (w + j) = pil M (b + 1 + r - 1 - j)) ∧ frR G.t w M M' := by
  have T3 := h.T3
  have r0 : rk (pil M b) = 0 := by unfold rk; rw [if_neg (by omega)]
  obtain ⟨M1, s1, s2, s3, s4, s5, s6⟩ := h.settle (x := 1) (lv := 1) rfl (Or.inr (by rw [Nat.add_sub_cancel, r0]; omega)) (by omega) o1 o2 hl
  obtain ⟨M2, L2, n1, n2, n3⟩ := s2.next hi
  have e5 : M2 5 = M1 5 := n3.1 5 (by decide)
  have p2 : pil M2 = pil M := (pil_eq e5).trans s3
  obtain ⟨ra, a1, a2⟩ := y_openAt (M := M2) (p := pil M2) (c := b + 1) n2.2.1.2.2.1 (by omega) (fun j _ => rfl) (tpP.top (by rw [p2]; exact ho))
  have a3 : ra.toInt = (b : Int) := by rw [a2]; omega
  have q0 : up2 M2 5 b vp 0 = M2 0 := up2_cell (by decide)
  have g0 : 0 ≤ vp := by rw [i_lt] at h6; rw [i_le]; omega
  have g1 : ¬ vp ≤ 0 := by rw [i_lt] at h6; rw [i_le]; omega
  refine ⟨up2 (up2 M2 5 b vp) 0 18 0, L2, YZ_behind hi wh ?_, n2.fr (by rw [up2_cell (by decide), up2_cell (by decide)]) (fun j hj => by rw [up2_ne (by omega), q0]) ?_ (by omega), by rw [up2_same], ?_, ?_, ?_, ?_⟩
  · unfold f_X10_behindOne
    rw [h1, xb1_some, if_pos h2, h3, xb1_some, h5, xb1_some, if_pos g0, s1, xb1_some, n1, xb2_some, if_neg g1, a1, xb1_some, if_pos (i_in a3 (by omega)), i_ix a3, xlet_eq, xlet_eq]
  · obtain ⟨q1, q2, q3, q4, q5⟩ := n2.2.1
    exact ⟨by rw [up2_ne (by omega), q0]; exact q1, q2, by rw [up2_ne (by omega), q0]; exact q3, by rw [up2_ne (by omega), q0]; exact q4, by rw [up2_ne (by omega), q0]; exact q5⟩
  · unfold pil
    rw [up2_cell (by decide), up2_same]
  · intro x hx
    rw [← p2]
    unfold pil
    rw [up2_cell (by decide), up2_ne (by omega)]
  · intro j hj
    rw [← s5 j hj]
    unfold cYo
    rw [up2_cell (by decide), up2_cell (by decide), n3.1 3 (by decide)]
  · exact (((frR.e s6 (by omega)).tr (frR.o (w := w) n3) (Nat.le_refl _)).tr (frR.p (w := w)) (Nat.le_refl _)).tr (frR.s (w := w) (by omega)) (Nat.le_refl _)
theorem cntO_7 {p : Nat → Int} {b : Nat} : ∀ r, (∀ x, x < r → rk (p (b + x)) = 7) → cntO p b r = (r : Int) := by
  intro r h
  have e : cntO p b r = sm (fun _ => 1) r := sm_eq r (fun x hx => if_pos (Or.inl (h x hx)))
  rw [e, sm_const]
  omega
/-- settling what binds at once, behind one -/
theorem CY.ones {G : Qc} {M : xm} {L : xn} {i b u w : Nat} {op : Int} (h : CY G M L i (b + u) w op) (hb : b = 0 ∨ rk (pil M (b - 1)) < 7) (hbr : b + u ≤ 160) (h1 : -700 ≤ op) (h2 : op ≤ 700) (hl : ∀ x, x < u → rk (pil M (b + x)) = 7) : ∃ M', f_X10_settle M 7 = some M' ∧ CY G M' L i b (w + u) (op - u) ∧ pil M' = pil M ∧ M' 0 18 = M 0 18 ∧ (∀ j, j < u → cYo G.t M' (w + j) = pil M (b + u - 1 - j)) ∧ frE G.t w (w + u) M M' := by
  have := h.settle (x := 7) (lv := 7) rfl hb hbr h1 h2 (fun j hj => by rw [hl j hj]; exact Int.le_refl _)
  rw [cntO_7 u hl] at this
  exact this
theorem y_shut {G : Qc} {M : xm} {L : xn} {i b u r w s : Nat} {op : Int} {v vo vp : Int32} (h : CY G M L i (b + u + 1 + r) w op) (hi : i < G.T) (wh : M 0 18 = 1) (h1 : f_X10_betweenOf M L = some v) (h2 : v < 0) (h3 : f_X10_openNow M = some vo) (h5 : f_X10_partOf M L vo = some vp) (h6 : vp = 0) (ho : 40 ≤ pil M (b + u)) (hs : (vo = 43 ∧ s = 1) ∨ (vo ≠ 43 ∧ s = 0)) (hbr : b + u + 1 + r ≤ 159) (o1 : -300 ≤ op) (o2 : op ≤ 300) (hcn : 0 ≤ cntO (pil M) (b + u + 1) r ∧ cntO (pil M) (b + u + 1) r ≤ 160) (hl : ∀ j, j < r → 1 ≤ rk (pil M (b + u + 1 + j))) (hb : b = 0 ∨ rk (pil M (b - 1)) < 7) (hu : ∀ x, x < u → rk (pil M (b + x)) = 7) : ∃ M' L', YZ G i M L = YZ G (i + 1) M' L' ∧ CY G M' L' (i + 1) b (w + r + s + u) (op - cntO (pil M) (b + u + 1) r - 1 - u) ∧ M' 0 18 = 1 ∧ pil M' = pil M ∧ (∀ j, j < r → cYo G.t M' (w + j) = pil M (b + u + 1 + r - 1 - j)) ∧ (s = 1 → cYo G.t M' (w + r) = 3) ∧ (∀ j, j < u → cYo G.t M' (w + r + s + j) = pil M (b + u - 1 - j)) ∧ frR G.t w M M' := by
  have T3 := h.T3
  have r0 : rk (pil M (b + u)) = 0 := by unfold rk; rw [if_neg (by omega)]
  obtain ⟨M1, s1, s2, s3, s4, s5, s6⟩ := h.settle (x := 1) (lv := 1) rfl (Or.inr (by rw [Nat.add_sub_cancel, r0]; omega)) (by omega) (by omega) (by omega) hl
  obtain ⟨M2, L2, n1, n2, n3⟩ := s2.next hi
  have p2 : pil M2 = pil M := (pil_eq (n3.1 5 (by decide))).trans s3
  generalize hcc : cntO (pil M) (b + u + 1) r = cc at *
  obtain ⟨q1, q2, q3, q4, q5⟩ := n2.2.1
  have e17 : (M2 0 17 - 1).toInt = op - cc - 1 := i_sub q5 (b := 1) rfl (by omega) (by omega)
  have e16 : (M2 0 16 - 1).toInt = ((b + u : Nat) : Int) := by rw [k_sub q3 (y := 1) (b := 1) rfl (by omega) (by omega)]; omega
  have a16 : up2 M2 0 17 (M2 0 17 - 1) 0 16 = M2 0 16 := up2_ne (by omega)
  have y3 : CY G (up2 (up2 M2 0 17 (M2 0 17 - 1)) 0 16 (M2 0 16 - 1)) L2 (i + 1) (b + u) (w + r) (op - cc - 1) := n2.fr (by rw [up2_cell (by decide), up2_cell (by decide)]) (fun j hj => by rw [up2_ne (by omega), up2_ne (by omega)]) ⟨by rw [up2_ne (by omega), up2_ne (by omega)]; exact q1, q2, by rw [up2_same]; exact e16, by rw [up2_ne (by omega), up2_ne (by omega)]; exact q4, by rw [up2_ne (by omega), up2_same]; exact e17⟩ (by omega)
  have f3 : frR G.t w M (up2 (up2 M2 0 17 (M2 0 17 - 1)) 0 16 (M2 0 16 - 1)) := (((frR.e s6 (by omega)).tr (frR.o (w := w) n3) (Nat.le_refl _)).tr (frR.s (w := w) (by omega)) (Nat.le_refl _)).tr (frR.s (w := w) (by omega)) (Nat.le_refl _)
  have c3 : (up2 (up2 M2 0 17 (M2 0 17 - 1)) 0 16 (M2 0 16 - 1)) 3 = M1 3 := by rw [up2_cell (by decide), up2_cell (by decide), n3.1 3 (by decide)]
  have p3 : pil (up2 (up2 M2 0 17 (M2 0 17 - 1)) 0 16 (M2 0 16 - 1)) = pil M := (pil_eq (by rw [up2_cell (by decide), up2_cell (by decide)])).trans p2
  have w3 : (up2 (up2 M2 0 17 (M2 0 17 - 1)) 0 16 (M2 0 16 - 1)) 0 18 = 1 := by rw [up2_ne (by omega), up2_ne (by omega), n3.2 18 (by decide) (by decide) (by decide) (by decide), s4, wh]
  generalize hM3 : up2 (up2 M2 0 17 (M2 0 17 - 1)) 0 16 (M2 0 16 - 1) = M3 at y3 f3 c3 p3 w3
  have fin : ∀ M4 : xm, CY G M4 L2 (i + 1) (b + u) (w + r + s) (op - cc - 1) → frE G.t (w + r) (w + r + s) M3 M4 → (s = 1 → cYo G.t M4 (w + r) = 3) → ∃ M', f_X10_settle M4 7 = some M' ∧ CY G M' L2 (i + 1) b (w + r + s + u) (op - cc - 1 - u) ∧ M' 0 18 = 1 ∧ pil M' = pil M ∧ (∀ j, j < r → cYo G.t M' (w + j) = pil M (b + u + 1 + r - 1 - j)) ∧ (s = 1 → cYo G.t M' (w + r) = 3) ∧ (∀ j, j < u → cYo G.t M' (w + r + s + j) = pil M (b + u - 1 - j)) ∧ frR G.t w M M' := by
    intro M4 y4 f4 k4
    have p4 : pil M4 = pil M := (pil_eq (f4.1 5 (by decide) (by decide))).trans p3
    obtain ⟨M5, t1, t2, t3, t4, t5, t6⟩ := y4.ones (by rw [p4]; exact hb) (by omega) (by omega) (by omega) (by rw [p4]; exact hu)
    refine ⟨M5, t1, t2, by rw [t4, f4.2.1 18 (by decide) (by decide) (by decide), w3], t3.trans p4, fun j hj => ?_, fun hs1 => ?_, fun j hj => by rw [t5 j hj, p4], ?_⟩
    · rw [← s5 j hj]
      unfold cYo
      rw [t6.2.2 _ (by omega), f4.2.2 _ (by omega), c3]
    · rw [← k4 hs1]
      unfold cYo
      rw [t6.2.2 _ (by omega)]
    · exact (f3.tr (frR.e f4 (by omega)) (by omega)).tr (frR.e t6 (by omega)) (by omega)
  have h60 : 0 ≤ vp := by rw [h6]; decide
  have h61 : vp ≤ 0 := by rw [h6]; decide
  rcases hs with ⟨v43, hs⟩ | ⟨v43, hs⟩
  · obtain ⟨M4, m1, m2, m3, m4, m5⟩ := y_emit y3.2.1 (a1 := 3) (a2 := 0) (by omega)
    have y4 : CY G M4 L2 (i + 1) (b + u) (w + r + s) (op - cc - 1) := by
      rw [hs]
      exact y3.fr (m5.1 4 (by decide) (by decide)) (fun j hj => m5.2.1 j (by omega) (by omega) (by omega)) m2 (by omega)
    obtain ⟨M5, t1, t2⟩ := fin M4 y4 (by rw [hs]; exact m5) (fun _ => by unfold cYo; rw [m3]; rfl)
    refine ⟨M5, L2, YZ_behind hi wh ?_, t2⟩
    unfold f_X10_behindOne
    rw [h1, xb1_some, if_pos h2, h3, xb1_some, h5, xb1_some, if_pos h60, s1, xb1_some, n1, xb2_some, if_pos h61, xlet_eq, a16, xlet_eq, hM3, xlet_eq, if_pos v43, m1, xb1_some]
    show xb1 (f_X10_settle M4 7) (fun M25 => some ((1 : Int32), M25, L2)) = some (1, M5, L2)
    rw [t1, xb1_some]
  · obtain ⟨M5, t1, t2⟩ := fin M3 (by rw [hs]; exact y3) (by rw [hs]; exact ⟨fun _ _ _ => rfl, fun _ _ _ _ => rfl, fun _ _ => rfl⟩) (fun z => by omega)
    refine ⟨M5, L2, YZ_behind hi wh ?_, t2⟩
    unfold f_X10_behindOne
    rw [h1, xb1_some, if_pos h2, h3, xb1_some, h5, xb1_some, if_pos h60, s1, xb1_some, n1, xb2_some, if_pos h61, xlet_eq, a16, xlet_eq, hM3, xlet_eq, if_neg v43]
    show xb1 (f_X10_settle M3 7) (fun M25 => some ((1 : Int32), M25, L2)) = some (1, M5, L2)
    rw [t1, xb1_some]
