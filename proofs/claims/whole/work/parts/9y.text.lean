/-! text -/
theorem x_takeT0 {u0 u1 : Nat} (hd : u1 + 9 ≤ u0) (M : xm) : ∃ M', f_X7_takeOver u0 u1 M = some M' ∧ (∀ q, (q < u0 ∨ u0 + 9 ≤ q) → M' q = M q) ∧ (∀ j, j < 24 → M' (u0 + 1) j = M (u1 + 1) j ∧ M' (u0 + 2) j = M (u1 + 2) j ∧ M' (u0 + 3) j = M (u1 + 3) j ∧ M' (u0 + 4) j = M (u1 + 4) j) ∧ (∀ j, j < 300 → M' (u0 + 5) j = M (u1 + 5) j ∧ M' (u0 + 6) j = M (u1 + 6) j) ∧ (∀ j, j < 2 → M' (u0 + 7) j = M (u1 + 7) j ∧ M' (u0 + 8) j = M (u1 + 8) j) ∧ M' u0 8 = M u1 8 := by
  unfold f_X7_takeOver
  simp only [xlet_eq]
  obtain ⟨N1, e1⟩ : ∃ N, N = xcopy M (u1 + 1) (u0 + 1) 24 := ⟨_, rfl⟩
  rw [← e1]
  have F1 : ∀ q, (q < u0 ∨ u0 + 9 ≤ q) → N1 q = M q := fun q hq => by rw [e1, xcp_ne (by omega)]
  obtain ⟨N2, e2⟩ : ∃ N, N = xcopy N1 (u1 + 2) (u0 + 2) 24 := ⟨_, rfl⟩
  rw [← e2]
  have F2 : ∀ q, (q < u0 ∨ u0 + 9 ≤ q) → N2 q = M q := fun q hq => by rw [e2, xcp_ne (by omega), F1 q hq]
  obtain ⟨N3, e3⟩ : ∃ N, N = xcopy N2 (u1 + 3) (u0 + 3) 24 := ⟨_, rfl⟩
  rw [← e3]
  have F3 : ∀ q, (q < u0 ∨ u0 + 9 ≤ q) → N3 q = M q := fun q hq => by rw [e3, xcp_ne (by omega), F2 q hq]
  obtain ⟨N4, e4⟩ : ∃ N, N = xcopy N3 (u1 + 4) (u0 + 4) 24 := ⟨_, rfl⟩
  rw [← e4]
  have F4 : ∀ q, (q < u0 ∨ u0 + 9 ≤ q) → N4 q = M q := fun q hq => by rw [e4, xcp_ne (by omega), F3 q hq]
  obtain ⟨N5, e5⟩ : ∃ N, N = xcopy N4 (u1 + 5) (u0 + 5) 300 := ⟨_, rfl⟩
  rw [← e5]
  have F5 : ∀ q, (q < u0 ∨ u0 + 9 ≤ q) → N5 q = M q := fun q hq => by rw [e5, xcp_ne (by omega), F4 q hq]
  obtain ⟨N6, e6⟩ : ∃ N, N = xcopy N5 (u1 + 6) (u0 + 6) 300 := ⟨_, rfl⟩
  rw [← e6]
  have F6 : ∀ q, (q < u0 ∨ u0 + 9 ≤ q) → N6 q = M q := fun q hq => by rw [e6, xcp_ne (by omega), F5 q hq]
  obtain ⟨N7, e7⟩ : ∃ N, N = xcopy N6 (u1 + 7) (u0 + 7) 2 := ⟨_, rfl⟩
  rw [← e7]
  have F7 : ∀ q, (q < u0 ∨ u0 + 9 ≤ q) → N7 q = M q := fun q hq => by rw [e7, xcp_ne (by omega), F6 q hq]
  obtain ⟨N8, e8⟩ : ∃ N, N = xcopy N7 (u1 + 8) (u0 + 8) 2 := ⟨_, rfl⟩
  rw [← e8]
  have F8 : ∀ q, (q < u0 ∨ u0 + 9 ≤ q) → N8 q = M q := fun q hq => by rw [e8, xcp_ne (by omega), F7 q hq]
  obtain ⟨N9, e9⟩ : ∃ N, N = up2 N8 u0 8 (N8 u1 8) := ⟨_, rfl⟩
  rw [← e9]
  obtain ⟨N10, e10⟩ : ∃ N, N = up2 N9 u0 9 (N9 u1 9) := ⟨_, rfl⟩
  rw [← e10]
  refine ⟨N10, rfl, fun q hq => by rw [e10, up2_cell (by omega), e9, up2_cell (by omega), F8 q hq], fun j hj => ⟨?_, ?_, ?_, ?_⟩, fun j hj => ⟨?_, ?_⟩, fun j hj => ⟨?_, ?_⟩, by rw [e10, up2_ne (by omega), e9, up2_same, F8 u1 (by omega)]⟩
  · rw [e10, up2_cell (by omega), e9, up2_cell (by omega), e8, xcp_ne (by omega), e7, xcp_ne (by omega), e6, xcp_ne (by omega), e5, xcp_ne (by omega), e4, xcp_ne (by omega), e3, xcp_ne (by omega), e2, xcp_ne (by omega), e1, xcp_at j hj]
  · rw [e10, up2_cell (by omega), e9, up2_cell (by omega), e8, xcp_ne (by omega), e7, xcp_ne (by omega), e6, xcp_ne (by omega), e5, xcp_ne (by omega), e4, xcp_ne (by omega), e3, xcp_ne (by omega), e2, xcp_at j hj, F1 (u1 + 2) (by omega)]
  · rw [e10, up2_cell (by omega), e9, up2_cell (by omega), e8, xcp_ne (by omega), e7, xcp_ne (by omega), e6, xcp_ne (by omega), e5, xcp_ne (by omega), e4, xcp_ne (by omega), e3, xcp_at j hj, F2 (u1 + 3) (by omega)]
  · rw [e10, up2_cell (by omega), e9, up2_cell (by omega), e8, xcp_ne (by omega), e7, xcp_ne (by omega), e6, xcp_ne (by omega), e5, xcp_ne (by omega), e4, xcp_at j hj, F3 (u1 + 4) (by omega)]
  · rw [e10, up2_cell (by omega), e9, up2_cell (by omega), e8, xcp_ne (by omega), e7, xcp_ne (by omega), e6, xcp_ne (by omega), e5, xcp_at j hj, F4 (u1 + 5) (by omega)]
  · rw [e10, up2_cell (by omega), e9, up2_cell (by omega), e8, xcp_ne (by omega), e7, xcp_ne (by omega), e6, xcp_at j hj, F5 (u1 + 6) (by omega)]
  · rw [e10, up2_cell (by omega), e9, up2_cell (by omega), e8, xcp_ne (by omega), e7, xcp_at j hj, F6 (u1 + 7) (by omega)]
  · rw [e10, up2_cell (by omega), e9, up2_cell (by omega), e8, xcp_at j hj, F7 (u1 + 8) (by omega)]
theorem x_takeT (M : xm) (t : Nat) : ∃ M', f_X7_takeOver (1006 + (1 + 9 * t)) (990 + 5) M = some M' ∧ (∀ q, (q < 1007 + 9 * t ∨ 1016 + 9 * t ≤ q) → M' q = M q) ∧ CpT M M' t := by
  obtain ⟨M', a1, a2, a3, a4, a5, a6⟩ := x_takeT0 (u0 := 1006 + (1 + 9 * t)) (u1 := 990 + 5) (by omega) M
  refine ⟨M', a1, fun q hq => a2 q (by omega), ?_⟩
  unfold CpT
  rw [show 1008 + 9 * t = 1006 + (1 + 9 * t) + 1 by omega, show 1009 + 9 * t = 1006 + (1 + 9 * t) + 2 by omega, show 1010 + 9 * t = 1006 + (1 + 9 * t) + 3 by omega, show 1011 + 9 * t = 1006 + (1 + 9 * t) + 4 by omega, show 1012 + 9 * t = 1006 + (1 + 9 * t) + 5 by omega, show 1013 + 9 * t = 1006 + (1 + 9 * t) + 6 by omega, show 1014 + 9 * t = 1006 + (1 + 9 * t) + 7 by omega, show 1015 + 9 * t = 1006 + (1 + 9 * t) + 8 by omega, show 1007 + 9 * t = 1006 + (1 + 9 * t) by omega]
  exact ⟨a3, a4, a5, a6⟩
theorem CpT.fr {M M' N N' : xm} {t : Nat} (h : CpT M M' t) (h1 : ∀ q, 995 ≤ q → q ≤ 1003 → N q = M q) (h2 : ∀ q, 1007 + 9 * t ≤ q → q < 1016 + 9 * t → N' q = M' q) : CpT N N' t := by
  unfold CpT
  rw [h1 995 (by omega) (by omega), h1 996 (by omega) (by omega), h1 997 (by omega) (by omega), h1 998 (by omega) (by omega), h1 999 (by omega) (by omega), h1 1000 (by omega) (by omega), h1 1001 (by omega) (by omega), h1 1002 (by omega) (by omega), h1 1003 (by omega) (by omega), h2 (1007 + 9 * t) (by omega) (by omega), h2 (1008 + 9 * t) (by omega) (by omega), h2 (1009 + 9 * t) (by omega) (by omega), h2 (1010 + 9 * t) (by omega) (by omega), h2 (1011 + 9 * t) (by omega) (by omega), h2 (1012 + 9 * t) (by omega) (by omega), h2 (1013 + 9 * t) (by omega) (by omega), h2 (1014 + 9 * t) (by omega) (by omega), h2 (1015 + 9 * t) (by omega) (by omega)]
  exact h
theorem s_text : sim_text Rel := by
  intro MX MY LY h
  have hr := h
  obtain ⟨nt, nti, ⟨s, St, n, ru, sd, sp, sk, hs⟩, h2, h3, h4, h5⟩ := h
  have ⟨a1, a2, a3, a4, a5, a6, a7, a8, a9⟩ := hs
  have n4 := a9.1
  have x3 : (MX 483 3).toInt = (nt : Int) := a7.2.1
  have y0 : (MY 1 0).toInt = (nt : Int) := a8.1
  rcases Nat.lt_or_ge nt 4 with c | c
  case inr =>
    refine ⟨-1, MX, MY, LY, ?_, ?_, hr⟩
    · unfold f_X9_text f_X9_textAt
      rw [if_neg (by rw [i_lt, x3]; simp only [Int32.reduceToInt]; omega), if_pos (by rw [i_le, x3]; simp only [Int32.reduceToInt]; omega), xb1_some]
      rfl
    · unfold f_X10_text
      rw [if_pos (by rw [i_eq, y0]; simp only [Int32.reduceToInt]; omega)]
  have ta : f_X9_textAt (MX 483 3) = some (some (1006 + (1 + 9 * nt))) := by
    unfold f_X9_textAt
    rw [if_neg (by rw [i_lt, x3]; simp only [Int32.reduceToInt]; omega), if_neg (by rw [i_le, x3]; simp only [Int32.reduceToInt]; omega), if_pos (i_in x3 c), i_ix x3]
  have ny : ¬ MY 1 0 = 4 := by rw [i_eq, y0]; simp only [Int32.reduceToInt]; omega
  obtain ⟨M8, fx, rest⟩ := read_both (LY := LY) h4 c y0
  rcases rest with ⟨g1, g2, MY4, L5, g3, g4, fy⟩ | ⟨g2, G, j, k', w', c', p0, p1, MY4, L5, gt, g3, cl, fy⟩
  · have e8 : MY4 0 8 = M8 990 7 := by rw [i_eq]; exact g4
    refine ⟨-1, up2 M8 990 5 0, up2 (up2 (up2 MY4 0 5 (M8 990 6)) 0 6 (M8 990 7)) 0 4 0, L5, ?_, ?_, nt, nti, ?_, ?_, h3, ⟨0, by omega, by rw [up2_same]; rfl, by rw [up2_same]; rfl, fun i hi => by omega, ?_, ?_⟩, fun t ht => (h5 t ht).fr2 (fun q q1 q2 => ?_) (fun y q1 q2 => ?_)⟩
    · unfold f_X9_text
      rw [ta, xb1_some]
      simp only [xopt]
      rw [g2, xb2_some, xlet_eq, if_pos rfl]
    · unfold f_X10_text
      have w8 : up2 MY4 0 5 (M8 990 6) 0 8 = M8 990 7 := by rw [up2_ne (by omega)]; exact e8
      have z5 : (up2 (up2 (up2 MY4 0 5 (M8 990 6)) 0 6 (M8 990 7)) 0 4 0) 0 5 = M8 990 6 := by rw [up2_ne (by omega), up2_ne (by omega), up2_same]
      rw [if_neg ny, g3, xb3_some, xlet_eq, xlet_eq, up2_same, if_neg g1]
      simp only [xlet_eq]
      rw [w8, z5, if_neg g1]
    · have e1 : (up2 (up2 (up2 MY4 0 5 (M8 990 6)) 0 6 (M8 990 7)) 0 4 0) 1 = MY 1 := by rw [up2_cell (by decide), up2_cell (by decide), up2_cell (by decide), fy.1 1 (by decide) (by decide) (by decide)]
      rw [e1]
      exact (Snp.of hs).fr (fun q _ _ => by rw [up2_cell (by omega), fx.1 q (by omega) (by omega)]) (fun q _ _ => by rw [up2_cell (by omega), fx.1 q (by omega) (by omega)]) (fun q _ _ => by rw [up2_cell (by omega), fx.1 q (by omega) (by omega)])
    · have e2 : (up2 (up2 (up2 MY4 0 5 (M8 990 6)) 0 6 (M8 990 7)) 0 4 0) 2 = MY 2 := by rw [up2_cell (by decide), up2_cell (by decide), up2_cell (by decide), fy.1 2 (by decide) (by decide) (by decide)]
      rw [e2]
      exact h2.fr (fun q _ _ => by rw [up2_cell (by omega), fx.1 q (by omega) (by omega)]) (fun q _ _ => by rw [up2_cell (by omega), fx.1 q (by omega) (by omega)]) (fun q _ _ => by rw [up2_cell (by omega), fx.1 q (by omega) (by omega)])
    · rw [up2_ne (by omega), up2_ne (by omega), up2_ne (by omega), up2_same]
    · rw [up2_ne (by omega), up2_ne (by omega), up2_same]
    · rw [up2_cell (by omega), fx.1 q (by omega) (by omega)]
    · rw [up2_cell (by decide), up2_cell (by decide), up2_cell (by decide), fy.2.2 y (by omega)]
  · have q6 : M8 990 6 = 0 := cl.1.1.1
    have q7 : M8 990 7 = -1 := cl.1.1.2.2.2.2.2.2
    have nx : ∀ M', CpT M8 M' G.t → Tx M' MY4 G.t := fun M' hp => new_Tx cl hp
    clear cl
    rw [gt] at nx
    clear gt
    obtain ⟨M13, t1, t2, t3⟩ := x_takeT (up2 M8 990 5 0) nt
    have m483 : M13 483 = MX 483 := by rw [t2 483 (by omega), up2_cell (by omega), fx.1 483 (by omega) (by omega)]
    obtain ⟨M15, e15⟩ : ∃ N, N = up2 M13 483 3 (M13 483 3 + 1) := ⟨_, rfl⟩
    obtain ⟨N11, e11⟩ : ∃ N, N = up2 (up2 (up2 MY4 0 5 0) 0 6 (-1)) 0 4 0 := ⟨_, rfl⟩
    have n1 : N11 1 = MY 1 := by rw [e11, up2_cell (by decide), up2_cell (by decide), up2_cell (by decide), fy.1 1 (by decide) (by decide) (by decide)]
    obtain ⟨N13, e13⟩ : ∃ N, N = up2 N11 1 0 (N11 1 0 + 1) := ⟨_, rfl⟩
    have cp : CpT M8 M15 nt := t3.fr (fun q _ _ => (up2_cell (by omega)).symm) (fun q _ _ => by rw [e15, up2_cell (by omega)])
    have fxa : ∀ q, q ≠ 990 → q ≠ 483 → ¬ (992 ≤ q ∧ q ≤ 1003) → (q < 1007 + 9 * nt ∨ 1016 + 9 * nt ≤ q) → M15 q = MX q := fun q b1 b2 b3 b4 => by rw [e15, up2_cell b2, t2 q b4, up2_cell b1, fx.1 q b1 b3]
    have fr : ∀ j, j ≠ 0 → N13 1 j = MY 1 j := fun j hj => by rw [e13, up2_row, if_neg hj, n1]
    have z3 : M15 483 3 = MX 483 3 + 1 := by rw [e15, up2_same, m483]
    have w3 : N13 1 0 = MY 1 0 + 1 := by rw [e13, up2_same, n1]
    have m990 : M15 990 = up2 M8 990 5 0 990 := by rw [e15, up2_cell (by omega), t2 990 (by omega)]
    have n0 : N13 0 = N11 0 := by rw [e13, up2_cell (by omega)]
    have n3 : N13 3 = MY4 3 := by rw [e13, up2_cell (by omega), e11, up2_cell (by omega), up2_cell (by omega), up2_cell (by omega)]
    have n2 : N13 2 = MY 2 := by rw [e13, up2_cell (by omega), e11, up2_cell (by omega), up2_cell (by omega), up2_cell (by omega), fy.1 2 (by decide) (by decide) (by decide)]
    have exy : MX 483 3 = MY 1 0 := i_inj x3 y0
    have z5 : N11 0 5 = 0 := by rw [e11, up2_ne (by omega), up2_ne (by omega), up2_same]
    have nx' : Tx M15 MY4 nt := nx M15 cp
    clear nx cp t3
    have ru1 := a9.2.1.1
    have ru2 := a9.2.1.2
    refine ⟨MX 483 3 + 1 - 1, M15, N13, L5, ?_, ?_, nt + 1, nti, ?_, ?_, by omega, ⟨0, by omega, ?_, ?_, fun i hi => by omega, ?_, ?_⟩, fun t ht => ?_⟩
    · unfold f_X9_text
      rw [ta, xb1_some]
      simp only [xopt]
      rw [g2, xb2_some, xlet_eq, if_neg n10, t1, xb1_some, xlet_eq, ← e15, z3]
    · unfold f_X10_text
      rw [if_neg ny, g3, xb3_some, xlet_eq, xlet_eq, up2_same, if_pos rfl]
      simp only [xlet_eq]
      rw [← e11, z5, if_pos rfl, ← e13, w3, exy]
    · refine Snp.of (s := s) (St := St) (n := n) (ru := ru) (sd := sd) (sp := sp) (sk := sk) ⟨a1.fr (fun q _ _ => fxa q (by omega) (by omega) (by omega) (by omega)), a2.fr a3.ok (fun j _ _ => fr j (by omega)), a3, a4.fr (fun q _ _ => fxa q (by omega) (by omega) (by omega) (by omega)), ⟨a5.1, by rw [fr 2 (by omega)]; exact a5.2.1, fun i hi => (a5.2.2 i hi).fr (a6 i hi).ok (fun j j1 j2 => by unfold rwY; exact fr _ (by omega))⟩, a6, ?_, ?_, by omega, ⟨ru1, by omega⟩, a9.2.2⟩
      · refine ⟨?_, by rw [z3]; exact k_add x3 (y := 1) (b := 1) rfl (by omega), ?_, fun i hi => ?_⟩
        · rw [e15, up2_ne (by omega), m483]; exact a7.1
        · rw [e15, up2_ne (by omega), m483]; exact a7.2.2.1
        · rw [fxa (483 + 1) (by omega) (by omega) (by omega) (by omega), fxa (483 + 2) (by omega) (by omega) (by omega) (by omega)]; exact a7.2.2.2 i hi
      · refine ⟨by rw [w3]; exact k_add y0 (y := 1) (b := 1) rfl (by omega), by rw [fr 1 (by omega)]; exact a8.2.1, by rw [fr 3 (by omega)]; exact a8.2.2.1, fun i hi => ?_⟩
        rw [fr _ (by omega), fr _ (by omega)]; exact a8.2.2.2 i hi
    · rw [n2]
      exact h2.fr (fun q _ _ => fxa q (by omega) (by omega) (by omega) (by omega)) (fun q _ _ => fxa q (by omega) (by omega) (by omega) (by omega)) (fun q _ _ => fxa q (by omega) (by omega) (by omega) (by omega))
    · rw [m990, up2_same]; rfl
    · rw [n0, e11, up2_same]; rfl
    · rw [m990, n0, z5, up2_ne (by omega), q6]
    · rw [m990, n0, e11, up2_ne (by omega), up2_ne (by omega), up2_same, q7]
    · rcases Nat.lt_or_ge t nt with d | d
      · exact (h5 t d).fr2 (fun q q1 q2 => fxa q (by omega) (by omega) (by omega) (by omega)) (fun y y1 y2 => by rw [n3]; exact fy.2.2 y (by omega))
      · rw [show t = nt by omega]
        exact nx'.fr2 (fun q _ _ => rfl) (fun y _ _ => by rw [n3])
