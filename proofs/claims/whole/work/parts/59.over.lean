/-! heaps laid over one another; steps of the object -/
theorem xcp_at {M : xm} {k0 k1 n : Nat} (j : Nat) (h : j < n) : xcopy M k0 k1 n k1 j = M k0 j := by
  unfold xcopy va_cpy
  rw [if_pos rfl, if_pos ⟨by omega, by omega⟩]
  congr 1
  omega
theorem xcp_ne {M : xm} {k0 k1 n q : Nat} (h : q ≠ k1) : xcopy M k0 k1 n q = M q := by
  unfold xcopy
  rw [if_neg h]
theorem up2_cell {M : xm} {k i q : Nat} {v : Int32} (h : q ≠ k) : up2 M k i v q = M q := by
  unfold up2
  rw [if_neg h]
theorem frX.cp {u k0 k n : Nat} {M : xm} (hk : k < 15) : frX u M (xcopy M k0 (u + k) n) := fun q c => xcp_ne (by omega)
theorem x_takeOver0 {u0 u1 : Nat} (hd : u0 + 15 ≤ u1 ∨ u1 + 15 ≤ u0) (M : xm) : ∃ M', f_X1_takeOver u0 u1 M = some M' ∧ frX u0 M M' ∧ (∀ k i, xd k i = true → M' (u0 + k) i = M (u1 + k) i) ∧ M' (u0 + 13) 1 = M (u1 + 13) 1 ∧ M' (u0 + 13) 2 = M (u1 + 13) 2 ∧ ∀ j, j < 75 → M' (u0 + 14) j = M (u1 + 14) j := by
  unfold f_X1_takeOver f_X0_takeOver
  simp only [xlet_eq, xb1_some]
  obtain ⟨N1, e1⟩ : ∃ N, N = xcopy M (u1 + 1) (u0 + 1) 64 := ⟨_, rfl⟩
  rw [← e1]
  obtain ⟨N2, e2⟩ : ∃ N, N = xcopy N1 (u1 + 2) (u0 + 2) 64 := ⟨_, rfl⟩
  rw [← e2]
  obtain ⟨N3, e3⟩ : ∃ N, N = xcopy N2 (u1 + 3) (u0 + 3) 64 := ⟨_, rfl⟩
  rw [← e3]
  obtain ⟨N4, e4⟩ : ∃ N, N = xcopy N3 (u1 + 4) (u0 + 4) 64 := ⟨_, rfl⟩
  rw [← e4]
  obtain ⟨N5, e5⟩ : ∃ N, N = xcopy N4 (u1 + 5) (u0 + 5) 8 := ⟨_, rfl⟩
  rw [← e5]
  obtain ⟨N6, e6⟩ : ∃ N, N = xcopy N5 (u1 + 6) (u0 + 6) 8 := ⟨_, rfl⟩
  rw [← e6]
  obtain ⟨N7, e7⟩ : ∃ N, N = xcopy N6 (u1 + 7) (u0 + 7) 8 := ⟨_, rfl⟩
  rw [← e7]
  obtain ⟨N8, e8⟩ : ∃ N, N = xcopy N7 (u1 + 8) (u0 + 8) 6 := ⟨_, rfl⟩
  rw [← e8]
  obtain ⟨N9, e9⟩ : ∃ N, N = xcopy N8 (u1 + 9) (u0 + 9) 2 := ⟨_, rfl⟩
  rw [← e9]
  obtain ⟨N10, e10⟩ : ∃ N, N = xcopy N9 (u1 + 10) (u0 + 10) 2 := ⟨_, rfl⟩
  rw [← e10]
  obtain ⟨N11, e11⟩ : ∃ N, N = xcopy N10 (u1 + 11) (u0 + 11) 2 := ⟨_, rfl⟩
  rw [← e11]
  obtain ⟨N12, e12⟩ : ∃ N, N = xcopy N11 (u1 + 12) (u0 + 12) 2 := ⟨_, rfl⟩
  rw [← e12]
  obtain ⟨N13, e13⟩ : ∃ N, N = xcopy N12 (u1 + 13 + 1) (u0 + 13 + 1) 75 := ⟨_, rfl⟩
  rw [← e13]
  obtain ⟨N14, e14⟩ : ∃ N, N = up2 N13 (u0 + 13) 1 (N13 (u1 + 13) 1) := ⟨_, rfl⟩
  rw [← e14]
  obtain ⟨N15, e15⟩ : ∃ N, N = up2 N14 (u0 + 13) 2 (N14 (u1 + 13) 2) := ⟨_, rfl⟩
  rw [← e15]
  obtain ⟨N16, e16⟩ : ∃ N, N = up2 N15 u0 13 (N15 u1 13) := ⟨_, rfl⟩
  rw [← e16]
  obtain ⟨N17, e17⟩ : ∃ N, N = up2 N16 u0 14 (N16 u1 14) := ⟨_, rfl⟩
  rw [← e17]
  obtain ⟨N18, e18⟩ : ∃ N, N = up2 N17 u0 15 (N17 u1 15) := ⟨_, rfl⟩
  rw [← e18]
  obtain ⟨N19, e19⟩ : ∃ N, N = up2 N18 u0 16 (N18 u1 16) := ⟨_, rfl⟩
  rw [← e19]
  obtain ⟨N20, e20⟩ : ∃ N, N = up2 N19 u0 17 (N19 u1 17) := ⟨_, rfl⟩
  rw [← e20]
  obtain ⟨N21, e21⟩ : ∃ N, N = up2 N20 u0 18 (N20 u1 18) := ⟨_, rfl⟩
  rw [← e21]
  have f1 : frX u0 M N1 := by rw [e1]; exact frX.cp (k := 1) (by decide)
  have F1 : frX u0 M N1 := f1
  have f2 : frX u0 N1 N2 := by rw [e2]; exact frX.cp (k := 2) (by decide)
  have F2 : frX u0 M N2 := frX.tr F1 f2
  have f3 : frX u0 N2 N3 := by rw [e3]; exact frX.cp (k := 3) (by decide)
  have F3 : frX u0 M N3 := frX.tr F2 f3
  have f4 : frX u0 N3 N4 := by rw [e4]; exact frX.cp (k := 4) (by decide)
  have F4 : frX u0 M N4 := frX.tr F3 f4
  have f5 : frX u0 N4 N5 := by rw [e5]; exact frX.cp (k := 5) (by decide)
  have F5 : frX u0 M N5 := frX.tr F4 f5
  have f6 : frX u0 N5 N6 := by rw [e6]; exact frX.cp (k := 6) (by decide)
  have F6 : frX u0 M N6 := frX.tr F5 f6
  have f7 : frX u0 N6 N7 := by rw [e7]; exact frX.cp (k := 7) (by decide)
  have F7 : frX u0 M N7 := frX.tr F6 f7
  have f8 : frX u0 N7 N8 := by rw [e8]; exact frX.cp (k := 8) (by decide)
  have F8 : frX u0 M N8 := frX.tr F7 f8
  have f9 : frX u0 N8 N9 := by rw [e9]; exact frX.cp (k := 9) (by decide)
  have F9 : frX u0 M N9 := frX.tr F8 f9
  have f10 : frX u0 N9 N10 := by rw [e10]; exact frX.cp (k := 10) (by decide)
  have F10 : frX u0 M N10 := frX.tr F9 f10
  have f11 : frX u0 N10 N11 := by rw [e11]; exact frX.cp (k := 11) (by decide)
  have F11 : frX u0 M N11 := frX.tr F10 f11
  have f12 : frX u0 N11 N12 := by rw [e12]; exact frX.cp (k := 12) (by decide)
  have F12 : frX u0 M N12 := frX.tr F11 f12
  have f13 : frX u0 N12 N13 := by rw [e13]; exact frX.cp (k := 14) (by decide)
  have F13 : frX u0 M N13 := frX.tr F12 f13
  have f14 : frX u0 N13 N14 := by rw [e14]; exact frX.up (k := 13) (by decide)
  have F14 : frX u0 M N14 := frX.tr F13 f14
  have f15 : frX u0 N14 N15 := by rw [e15]; exact frX.up (k := 13) (by decide)
  have F15 : frX u0 M N15 := frX.tr F14 f15
  have f16 : frX u0 N15 N16 := by rw [e16]; exact frX.up (k := 0) (by decide)
  have F16 : frX u0 M N16 := frX.tr F15 f16
  have f17 : frX u0 N16 N17 := by rw [e17]; exact frX.up (k := 0) (by decide)
  have F17 : frX u0 M N17 := frX.tr F16 f17
  have f18 : frX u0 N17 N18 := by rw [e18]; exact frX.up (k := 0) (by decide)
  have F18 : frX u0 M N18 := frX.tr F17 f18
  have f19 : frX u0 N18 N19 := by rw [e19]; exact frX.up (k := 0) (by decide)
  have F19 : frX u0 M N19 := frX.tr F18 f19
  have f20 : frX u0 N19 N20 := by rw [e20]; exact frX.up (k := 0) (by decide)
  have F20 : frX u0 M N20 := frX.tr F19 f20
  have f21 : frX u0 N20 N21 := by rw [e21]; exact frX.up (k := 0) (by decide)
  have F21 : frX u0 M N21 := frX.tr F20 f21
  refine ⟨N21, rfl, F21, fun k i hk => ?_, ?_, ?_, fun j hj => ?_⟩
  · have hk2 := of_decide_eq_true hk
    have hk3 := (xd_lt hk).1
    have hc : k = 0 ∨ k = 1 ∨ k = 2 ∨ k = 3 ∨ k = 4 ∨ k = 5 ∨ k = 6 ∨ k = 7 ∨ k = 8 ∨ k = 9 ∨ k = 10 ∨ k = 11 ∨ k = 12 := by omega
    rcases hc with rfl | rfl | rfl | rfl | rfl | rfl | rfl | rfl | rfl | rfl | rfl | rfl | rfl
    · have hi : i = 13 ∨ i = 14 ∨ i = 15 ∨ i = 16 ∨ i = 17 ∨ i = 18 := by
        have a : i < 19 := hk2.1
        have b := hk2.2 rfl
        omega
      show N21 u0 i = M u1 i
      rcases hi with rfl | rfl | rfl | rfl | rfl | rfl
      · rw [e21, up2_ne (by omega), e20, up2_ne (by omega), e19, up2_ne (by omega), e18, up2_ne (by omega), e17, up2_ne (by omega), e16, up2_same, F15 u1 (by omega)]
      · rw [e21, up2_ne (by omega), e20, up2_ne (by omega), e19, up2_ne (by omega), e18, up2_ne (by omega), e17, up2_same, F16 u1 (by omega)]
      · rw [e21, up2_ne (by omega), e20, up2_ne (by omega), e19, up2_ne (by omega), e18, up2_same, F17 u1 (by omega)]
      · rw [e21, up2_ne (by omega), e20, up2_ne (by omega), e19, up2_same, F18 u1 (by omega)]
      · rw [e21, up2_ne (by omega), e20, up2_same, F19 u1 (by omega)]
      · rw [e21, up2_same, F20 u1 (by omega)]
    · rw [e21, up2_cell (by omega), e20, up2_cell (by omega), e19, up2_cell (by omega), e18, up2_cell (by omega), e17, up2_cell (by omega), e16, up2_cell (by omega), e15, up2_cell (by omega), e14, up2_cell (by omega), e13, xcp_ne (by omega), e12, xcp_ne (by omega), e11, xcp_ne (by omega), e10, xcp_ne (by omega), e9, xcp_ne (by omega), e8, xcp_ne (by omega), e7, xcp_ne (by omega), e6, xcp_ne (by omega), e5, xcp_ne (by omega), e4, xcp_ne (by omega), e3, xcp_ne (by omega), e2, xcp_ne (by omega), e1, xcp_at (n := 64) i hk2.1]
    · rw [e21, up2_cell (by omega), e20, up2_cell (by omega), e19, up2_cell (by omega), e18, up2_cell (by omega), e17, up2_cell (by omega), e16, up2_cell (by omega), e15, up2_cell (by omega), e14, up2_cell (by omega), e13, xcp_ne (by omega), e12, xcp_ne (by omega), e11, xcp_ne (by omega), e10, xcp_ne (by omega), e9, xcp_ne (by omega), e8, xcp_ne (by omega), e7, xcp_ne (by omega), e6, xcp_ne (by omega), e5, xcp_ne (by omega), e4, xcp_ne (by omega), e3, xcp_ne (by omega), e2, xcp_at (n := 64) i hk2.1, F1 (u1 + 2) (by omega)]
    · rw [e21, up2_cell (by omega), e20, up2_cell (by omega), e19, up2_cell (by omega), e18, up2_cell (by omega), e17, up2_cell (by omega), e16, up2_cell (by omega), e15, up2_cell (by omega), e14, up2_cell (by omega), e13, xcp_ne (by omega), e12, xcp_ne (by omega), e11, xcp_ne (by omega), e10, xcp_ne (by omega), e9, xcp_ne (by omega), e8, xcp_ne (by omega), e7, xcp_ne (by omega), e6, xcp_ne (by omega), e5, xcp_ne (by omega), e4, xcp_ne (by omega), e3, xcp_at (n := 64) i hk2.1, F2 (u1 + 3) (by omega)]
    · rw [e21, up2_cell (by omega), e20, up2_cell (by omega), e19, up2_cell (by omega), e18, up2_cell (by omega), e17, up2_cell (by omega), e16, up2_cell (by omega), e15, up2_cell (by omega), e14, up2_cell (by omega), e13, xcp_ne (by omega), e12, xcp_ne (by omega), e11, xcp_ne (by omega), e10, xcp_ne (by omega), e9, xcp_ne (by omega), e8, xcp_ne (by omega), e7, xcp_ne (by omega), e6, xcp_ne (by omega), e5, xcp_ne (by omega), e4, xcp_at (n := 64) i hk2.1, F3 (u1 + 4) (by omega)]
    · rw [e21, up2_cell (by omega), e20, up2_cell (by omega), e19, up2_cell (by omega), e18, up2_cell (by omega), e17, up2_cell (by omega), e16, up2_cell (by omega), e15, up2_cell (by omega), e14, up2_cell (by omega), e13, xcp_ne (by omega), e12, xcp_ne (by omega), e11, xcp_ne (by omega), e10, xcp_ne (by omega), e9, xcp_ne (by omega), e8, xcp_ne (by omega), e7, xcp_ne (by omega), e6, xcp_ne (by omega), e5, xcp_at (n := 8) i hk2.1, F4 (u1 + 5) (by omega)]
    · rw [e21, up2_cell (by omega), e20, up2_cell (by omega), e19, up2_cell (by omega), e18, up2_cell (by omega), e17, up2_cell (by omega), e16, up2_cell (by omega), e15, up2_cell (by omega), e14, up2_cell (by omega), e13, xcp_ne (by omega), e12, xcp_ne (by omega), e11, xcp_ne (by omega), e10, xcp_ne (by omega), e9, xcp_ne (by omega), e8, xcp_ne (by omega), e7, xcp_ne (by omega), e6, xcp_at (n := 8) i hk2.1, F5 (u1 + 6) (by omega)]
    · rw [e21, up2_cell (by omega), e20, up2_cell (by omega), e19, up2_cell (by omega), e18, up2_cell (by omega), e17, up2_cell (by omega), e16, up2_cell (by omega), e15, up2_cell (by omega), e14, up2_cell (by omega), e13, xcp_ne (by omega), e12, xcp_ne (by omega), e11, xcp_ne (by omega), e10, xcp_ne (by omega), e9, xcp_ne (by omega), e8, xcp_ne (by omega), e7, xcp_at (n := 8) i hk2.1, F6 (u1 + 7) (by omega)]
    · rw [e21, up2_cell (by omega), e20, up2_cell (by omega), e19, up2_cell (by omega), e18, up2_cell (by omega), e17, up2_cell (by omega), e16, up2_cell (by omega), e15, up2_cell (by omega), e14, up2_cell (by omega), e13, xcp_ne (by omega), e12, xcp_ne (by omega), e11, xcp_ne (by omega), e10, xcp_ne (by omega), e9, xcp_ne (by omega), e8, xcp_at (n := 6) i hk2.1, F7 (u1 + 8) (by omega)]
    · rw [e21, up2_cell (by omega), e20, up2_cell (by omega), e19, up2_cell (by omega), e18, up2_cell (by omega), e17, up2_cell (by omega), e16, up2_cell (by omega), e15, up2_cell (by omega), e14, up2_cell (by omega), e13, xcp_ne (by omega), e12, xcp_ne (by omega), e11, xcp_ne (by omega), e10, xcp_ne (by omega), e9, xcp_at (n := 2) i hk2.1, F8 (u1 + 9) (by omega)]
    · rw [e21, up2_cell (by omega), e20, up2_cell (by omega), e19, up2_cell (by omega), e18, up2_cell (by omega), e17, up2_cell (by omega), e16, up2_cell (by omega), e15, up2_cell (by omega), e14, up2_cell (by omega), e13, xcp_ne (by omega), e12, xcp_ne (by omega), e11, xcp_ne (by omega), e10, xcp_at (n := 2) i hk2.1, F9 (u1 + 10) (by omega)]
    · rw [e21, up2_cell (by omega), e20, up2_cell (by omega), e19, up2_cell (by omega), e18, up2_cell (by omega), e17, up2_cell (by omega), e16, up2_cell (by omega), e15, up2_cell (by omega), e14, up2_cell (by omega), e13, xcp_ne (by omega), e12, xcp_ne (by omega), e11, xcp_at (n := 2) i hk2.1, F10 (u1 + 11) (by omega)]
    · rw [e21, up2_cell (by omega), e20, up2_cell (by omega), e19, up2_cell (by omega), e18, up2_cell (by omega), e17, up2_cell (by omega), e16, up2_cell (by omega), e15, up2_cell (by omega), e14, up2_cell (by omega), e13, xcp_ne (by omega), e12, xcp_at (n := 2) i hk2.1, F11 (u1 + 12) (by omega)]
  · rw [e21, up2_cell (by omega), e20, up2_cell (by omega), e19, up2_cell (by omega), e18, up2_cell (by omega), e17, up2_cell (by omega), e16, up2_cell (by omega), e15, up2_ne (by omega), e14, up2_same, F13 (u1 + 13) (by omega)]
  · rw [e21, up2_cell (by omega), e20, up2_cell (by omega), e19, up2_cell (by omega), e18, up2_cell (by omega), e17, up2_cell (by omega), e16, up2_cell (by omega), e15, up2_same, F14 (u1 + 13) (by omega)]
  · rw [e21, up2_cell (by omega), e20, up2_cell (by omega), e19, up2_cell (by omega), e18, up2_cell (by omega), e17, up2_cell (by omega), e16, up2_cell (by omega), e15, up2_cell (by omega), e14, up2_cell (by omega), e13]
    have := xcp_at (M := N12) (k0 := u1 + 13 + 1) (k1 := u0 + 13 + 1) (n := 75) j hj
    rw [show u0 + 14 = u0 + 13 + 1 from rfl, this, F12 (u1 + 13 + 1) (by omega)]
theorem x_takeOver {u0 u1 : Nat} (hd : u0 + 15 ≤ u1 ∨ u1 + 15 ≤ u0) {M : xm} {s : hs} (h : RX u1 M s) (o : Ok s) : ∃ M', f_X1_takeOver u0 u1 M = some M' ∧ RX u0 M' s ∧ frX u0 M M' := by
  obtain ⟨M', k1, k2, k3, k4, k5, k6⟩ := x_takeOver0 hd M
  refine ⟨M', k1, ⟨fun k i hk => by rw [k3 k i hk]; exact h.1 k i hk, ?_⟩, k2⟩
  obtain ⟨b1, b2, b3, b4⟩ := h.2
  have on := o.n
  refine ⟨by rw [k5]; exact b1, by rw [k4]; exact b2, by rw [k4]; exact b3, fun i j hi hj => ?_⟩
  rw [k4, k6 _ (by omega)]
  exact b4 i j hi hj
