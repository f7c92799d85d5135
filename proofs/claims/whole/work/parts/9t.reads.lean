/-! the loops over clauses, by both -/
theorem read_loop {G : Qc} : ∀ (q fx fy : Nat) (M MY : xm) (LY : xn) (x : Int32) (i k w c : Nat) (p0 p1 : Bool), CLx G M MY LY i k w c p0 p1 → x.toInt = (c : Int) → G.T - i < q → q < fx → q ≤ fy → ∃ M', g_X4_readTape_28 fx M x = some M' ∧ frC M M' ∧ ((M' 990 6 ≠ 0 ∧ ∃ MY' LY', g_X10_readText_43 fy MY LY = some (Sum.inl (M' 990 6, MY', LY')) ∧ (MY' 0 8).toInt = (M' 990 7).toInt ∧ frYc G.t MY MY') ∨ ∃ (j k' w' c' : Nat) (p0' p1' : Bool) (MY' : xm) (LY' : xn), g_X10_readText_43 fy MY LY = some (Sum.inr (MY', LY')) ∧ CLx G M' MY' LY' j k' w' c' p0' p1' ∧ frYc G.t MY MY') := by
  intro q
  induction q with
  | zero => intro fx fy M MY LY x i k w c p0 p1 h hx hq; omega
  | succ q ih =>
    intro fx fy M MY LY x i k w c p0 p1 h hx hq hfx hfy
    obtain ⟨fx, rfl⟩ : ∃ z, fx = z + 1 := ⟨fx - 1, by omega⟩
    obtain ⟨fy, rfl⟩ : ∃ z, fy = z + 1 := ⟨fy - 1, by omega⟩
    have hB := h.1
    have c24 := h.2.2.1.2
    have iT := hB.1.2.2.1
    have t1 := hB.2.2.2.2.sg (c := 41) (x := 0) (by omega) rfl (by decide) (by decide) (by decide)
    have isN := x_isNext hB.1 (a := 41) (c := 41) rfl
    have n24 : ¬ (24 : Int32) < x := by rw [i_lt, hx]; simp only [Int32.reduceToInt]; omega
    by_cases e : G.K i = 41
    · refine ⟨M, ?_, ⟨fun _ _ _ => rfl, fun _ _ _ _ _ => rfl⟩, Or.inr ⟨i, k, w, c, p0, p1, MY, LY, ?_, h, frYc.re _ _⟩⟩
      · rw [g_X4_readTape_28, if_neg n24, if_pos hB.1.1, isN, xb1_some, if_pos e, if_neg n10]
      · rw [g_X10_readText_43, if_pos (t1.mpr e)]
    · obtain ⟨M', m1, m2, m3⟩ := clause_both h
      have ux : g_X4_readTape_28 (fx + 1) M x = g_X4_readTape_28 fx M' (x + 1) := by
        rw [g_X4_readTape_28, if_neg n24, if_pos hB.1.1, isN, xb1_some, if_neg e, if_pos rfl, m1, xb1_some, xlet_eq]
      have iT2 := jT iT rfl e
      rcases m3 with ⟨g1, MY', LY', g2, g3, g4⟩ | ⟨j, k', w', p0', p1', MY', LY', g1, g2, g3, g4⟩
      · obtain ⟨fx, rfl⟩ : ∃ z, fx = z + 1 := ⟨fx - 1, by omega⟩
        refine ⟨M', ?_, m2, Or.inl ⟨g1, MY', LY', ?_, g3, g4⟩⟩
        · rw [ux, g_X4_readTape_28, if_neg g1, ite_self]
        · rw [g_X10_readText_43, if_neg (fun z => e (t1.mp z)), g2, xb3_some, if_neg g1]
      · have jT' := g3.1.1.2.2.1
        obtain ⟨M2, n1, n2, n3⟩ := ih fx fy M' MY' LY' (x + 1) j k' w' (c + 1) p0' p1' g3 (k_add hx (y := 1) (b := 1) rfl (by omega)) (by omega) (by omega) (by omega)
        have uy : g_X10_readText_43 (fy + 1) MY LY = g_X10_readText_43 fy MY' LY' := by
          rw [g_X10_readText_43, if_neg (fun z => e (t1.mp z)), g2, xb3_some, if_pos rfl]
        refine ⟨M2, ux.trans n1, m2.tr n2, ?_⟩
        rw [uy]
        rcases n3 with ⟨a1, MY3, LY3, a2, a3, a4⟩ | ⟨j3, k3, w3, c3, r0, r1, MY3, LY3, a1, a2, a3⟩
        · exact Or.inl ⟨a1, MY3, LY3, a2, a3, g4.tr a4⟩
        · exact Or.inr ⟨j3, k3, w3, c3, r0, r1, MY3, LY3, a1, a2, g4.tr a3⟩
