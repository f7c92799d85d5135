/-! one is moved, or moving ends -/
def sMoveOne (s : hs) : hs := if sNext s < 64 then (if sRoom s 1 (sSz s (sNext s)) then sMove s (sNext s) else s) else if s 10 0 = -1 ∧ s 10 1 = -1 then sEnd s else s
theorem In.moveOne {s : hs} {G : Nat → Prop} (h : In s G no 6) (h2 : s 0 14 = 2) : Inv (sMoveOne s) := by
  have hin := h
  obtain ⟨o, l, f2, ⟨g1, g2, g3, g4, g5, g6, g7, g8, g9, g10, g11, g12, g13, g14, g15⟩, rg⟩ := h
  unfold sMoveOne
  by_cases c : sNext s < 64
  · rw [if_pos c]
    have a := (sNx_le (s := s) 64 0).2.2.1 (by unfold sNext at c; omega)
    by_cases r : sRoom s 1 (sSz s (sNext s))
    · rw [if_pos r]
      obtain ⟨G', i1, _⟩ := hin.move a.2 (g12 h2 _ c a.1 a.2.2.2) r
      exact ⟨G', i1⟩
    · rw [if_neg r]; exact ⟨G, hin⟩
  · rw [if_neg c]
    by_cases t : s 10 0 = -1 ∧ s 10 1 = -1
    · rw [if_pos t]; exact hin.end h2 t c
    · rw [if_neg t]; exact ⟨G, hin⟩
theorem sFP_7 {s : hs} {p q : Nat} (h : q ≠ p) : sFP s p 7 q = s 7 q := by
  rw [sFP_at q (by decide), if_neg (by omega), if_neg (by omega), if_neg (fun z => h z.2)]
theorem x_end_loop {u : Nat} (s : hs) : ∀ (d p f : Nat) (M : xm) (t : hs) (x : Int32), p + d = 8 → d < f → RX u M t → Ok t → (∀ q, p ≤ q → t 7 q = s 7 q) → x.toInt = (p : Int) → ∃ M', g_X1_endMoving_2 u f M x = some M' ∧ RX u M' (sFS t (qCh s) d p) ∧ frX u M M' := by
  intro d
  induction d with
  | zero =>
    intro p f M t x hp hf h o h7 hx
    obtain ⟨f, rfl⟩ : ∃ q, f = q + 1 := ⟨f - 1, by omega⟩
    unfold g_X1_endMoving_2
    rw [if_pos (by rw [i_le, hx]; simp only [Int32.reduceToInt]; omega)]
    exact ⟨M, rfl, h, frX.rfl⟩
  | succ d ih =>
    intro p f M t x hp hf h o h7 hx
    obtain ⟨f, rfl⟩ : ∃ q, f = q + 1 := ⟨f - 1, by omega⟩
    have nx : (x + 1).toInt = ((p + 1 : Nat) : Int) := by rw [i_add hx (b := 1) rfl (by omega) (by omega)]; omega
    unfold g_X1_endMoving_2 sFS
    rw [if_neg (by rw [i_le, hx]; simp only [Int32.reduceToInt]; omega), if_pos (i_in hx (by omega)), i_ix hx]
    simp only [xlet_eq]
    by_cases c : s 7 p = 2
    · obtain ⟨M1, k1, k2, k3⟩ := x_freePage h o hx (by omega)
      rw [if_pos (by rw [i_eq, h.h (show p < 8 by omega), h7 p (by omega), c]; rfl), k1, xb1_some, if_pos (show qCh s p = true from decide_eq_true c)]
      obtain ⟨M', r1, r2, r3⟩ := ih (p + 1) f M1 (sFP t p) (x + 1) (by omega) (by omega) k2 (Ok_FP o (by omega)) (fun q hq => by rw [sFP_7 (by omega)]; exact h7 q (by omega)) nx
      exact ⟨M', r1, r2, frX.tr k3 r3⟩
    · rw [if_neg (by rw [i_eq, h.h (show p < 8 by omega), h7 p (by omega)]; exact c), if_neg (show ¬ qCh s p = true from fun q => c (of_decide_eq_true q))]
      exact ih (p + 1) f M t (x + 1) (by omega) (by omega) h o (fun q hq => h7 q (by omega)) nx
theorem x_endMoving {u : Nat} {M : xm} {s : hs} (h : RX u M s) (o : Ok s) : ∃ M', f_X1_endMoving u M = some M' ∧ RX u M' (sEnd s) ∧ frX u M M' := by
  obtain ⟨M', k1, k2, k3⟩ := x_end_loop s 8 0 xfuel M s 0 (by omega) (by unfold xfuel; omega) h o (fun _ _ => rfl) rfl
  unfold f_X1_endMoving
  rw [k1, xb1_some, xlet_eq]
  exact ⟨_, rfl, k2.up (k := 0) (by decide) rfl, frX.tr k3 (frX.up (k := 0) (by decide))⟩
theorem y_end_loop (s : hs) : ∀ (d p f : Nat) (M : xm) (t : hs) (x : Int32), p + d = 8 → d < f → RY M t → Ok t → (∀ q, p ≤ q → t 7 q = s 7 q) → x.toInt = (p : Int) → ∃ M', g_X10_oneMove_44 f M x = some M' ∧ RY M' (sFS t (qCh s) d p) ∧ frY M M' := by
  intro d
  induction d with
  | zero =>
    intro p f M t x hp hf h o h7 hx
    obtain ⟨f, rfl⟩ : ∃ q, f = q + 1 := ⟨f - 1, by omega⟩
    unfold g_X10_oneMove_44
    rw [if_pos (by rw [i_le, hx]; simp only [Int32.reduceToInt]; omega)]
    exact ⟨M, rfl, h, frY.rfl⟩
  | succ d ih =>
    intro p f M t x hp hf h o h7 hx
    obtain ⟨f, rfl⟩ : ∃ q, f = q + 1 := ⟨f - 1, by omega⟩
    have nx : (x + 1).toInt = ((p + 1 : Nat) : Int) := by rw [i_add hx (b := 1) rfl (by omega) (by omega)]; omega
    have e := yx 13 (b := 13) rfl hx (by omega)
    unfold g_X10_oneMove_44 sFS
    rw [if_neg (by rw [i_le, hx]; simp only [Int32.reduceToInt]; omega), if_pos e.1, e.2]
    simp only [xlet_eq]
    by_cases c : s 7 p = 2
    · obtain ⟨M1, k1, k2, k3⟩ := y_freePage h o hx (by omega)
      rw [if_pos (by rw [i_eq, h.h (show p < 8 by omega), h7 p (by omega), c]; rfl), k1, xb1_some, if_pos (show qCh s p = true from decide_eq_true c)]
      obtain ⟨M', r1, r2, r3⟩ := ih (p + 1) f M1 (sFP t p) (x + 1) (by omega) (by omega) k2 (Ok_FP o (by omega)) (fun q hq => by rw [sFP_7 (by omega)]; exact h7 q (by omega)) nx
      exact ⟨M', r1, r2, frY.tr k3 r3⟩
    · rw [if_neg (by rw [i_eq, h.h (show p < 8 by omega), h7 p (by omega)]; exact c), if_neg (show ¬ qCh s p = true from fun q => c (of_decide_eq_true q))]
      exact ih (p + 1) f M t (x + 1) (by omega) (by omega) h o (fun q hq => h7 q (by omega)) nx
theorem x_next_loop {u : Nat} {M : xm} {s : hs} (h : RX u M s) : ∀ (d w f : Nat) (x : Int32), w + d = 64 → d < f → x.toInt = (w : Int) → g_X1_moveOne_2 u M f x = some (if sNx s d w < 64 then Sum.inl (nI (sNx s d w)) else Sum.inr ()) := by
  intro d
  induction d with
  | zero =>
    intro w f x hw hf hx
    obtain ⟨f, rfl⟩ : ∃ q, f = q + 1 := ⟨f - 1, by omega⟩
    unfold g_X1_moveOne_2 sNx
    rw [if_pos (by rw [i_le, hx]; simp only [Int32.reduceToInt]; omega), if_neg (by omega)]
  | succ d ih =>
    intro w f x hw hf hx
    obtain ⟨f, rfl⟩ : ∃ q, f = q + 1 := ⟨f - 1, by omega⟩
    have nx : (x + 1).toInt = ((w + 1 : Nat) : Int) := by rw [i_add hx (b := 1) rfl (by omega) (by omega)]; omega
    unfold g_X1_moveOne_2 sNx
    rw [if_neg (by rw [i_le, hx]; simp only [Int32.reduceToInt]; omega), if_pos (i_in hx (by omega)), i_ix hx]
    simp only [xlet_eq]
    by_cases c3 : s 3 w = 1
    · rw [if_pos (by rw [i_eq, h.m (show w < 64 by omega), c3]; rfl), x_mustMove h hx (by omega), xb1_some]
      by_cases c : sMust s w
      · rw [if_pos c, if_neg n10, if_pos (c := s 3 w = 1 ∧ sMust s w) ⟨c3, c⟩, if_pos (by omega)]
        have : x = nI w := by rw [i_eq, hx, nI_toInt (by omega)]
        rw [this]
      · rw [if_neg c, if_pos rfl, if_neg (c := s 3 w = 1 ∧ sMust s w) (fun q => c q.2)]
        exact ih (w + 1) f (x + 1) (by omega) (by omega) nx
    · rw [if_neg (by rw [i_eq, h.m (show w < 64 by omega)]; exact c3), if_neg (c := s 3 w = 1 ∧ sMust s w) (fun q => c3 q.1)]
      exact ih (w + 1) f (x + 1) (by omega) (by omega) nx
theorem y_isHead {M : xm} {s : hs} (h : RY M s) {a : Int32} {w : Nat} (ha : a.toInt = (w : Int)) (hw : w < 64) : f_X10_isHead M a = some (if 1000 ≤ s 1 w then 1 else 0) := by
  have e := yx 41 (b := 41) rfl ha (by omega)
  unfold f_X10_isHead
  rw [yPlace, if_pos (c := 0 ≤ a.toInt ∧ a.toInt ≤ 63) (by omega), if_neg n10, if_pos e.1, e.2]
  by_cases c : 1000 ≤ s 1 w
  · rw [if_neg (by rw [i_lt, h.w hw]; simp only [Int32.reduceToInt]; omega), if_pos c]
  · rw [if_pos (by rw [i_lt, h.w hw]; simp only [Int32.reduceToInt]; omega), if_neg c]
theorem y_isHead0 {M : xm} {a : Int32} (ha : ¬ (0 ≤ a.toInt ∧ a.toInt ≤ 63)) : f_X10_isHead M a = some 0 := by
  unfold f_X10_isHead
  rw [yPlace, if_neg ha, if_pos rfl]
theorem y_next_loop {M : xm} {s : hs} (h : RY M s) (l4 : La4 s) (h2 : s 0 14 = 2) : ∀ (d w f : Nat) (x : Int32), w + d = 64 → d < f → x.toInt = (w : Int) → g_X10_nextMove_2 M f x = some (if sNx s d w < 64 then Sum.inl (nI (sNx s d w)) else Sum.inr ()) := by
  intro d
  induction d with
  | zero =>
    intro w f x hw hf hx
    obtain ⟨f, rfl⟩ : ∃ q, f = q + 1 := ⟨f - 1, by omega⟩
    unfold g_X10_nextMove_2 sNx
    rw [if_pos (by rw [i_le, hx]; simp only [Int32.reduceToInt]; omega), if_neg (by omega)]
  | succ d ih =>
    intro w f x hw hf hx
    obtain ⟨f, rfl⟩ : ∃ q, f = q + 1 := ⟨f - 1, by omega⟩
    have nx : (x + 1).toInt = ((w + 1 : Nat) : Int) := by rw [i_add hx (b := 1) rfl (by omega) (by omega)]; omega
    have e8 := i_div (x := x) (y := 8) (b := 8) hx rfl (by omega) (by omega) (by omega)
    have e8' : (x / 8).toInt = ((w / 8 : Nat) : Int) := by rw [e8]; omega
    have e := yx 13 (b := 13) rfl e8' (by omega)
    have e' := yx 105 (b := 105) rfl hx (by omega)
    have go := ih (w + 1) f (x + 1) (by omega) (by omega) nx
    unfold g_X10_nextMove_2 sNx
    rw [if_neg (by rw [i_le, hx]; simp only [Int32.reduceToInt]; omega), if_pos e.1, e.2]
    simp only [xlet_eq]
    by_cases c7 : s 7 (w / 8) = 2
    · rw [if_pos (by rw [i_eq, h.h (show w / 8 < 8 by omega), c7]; rfl), y_isHead h hx (by omega), xb1_some]
      by_cases c1 : 1000 ≤ s 1 w
      · rw [if_pos c1, if_neg n10, y_isMarked h hx (by omega), xb1_some]
        by_cases c3 : s 3 w = 1
        · rw [if_pos c3, if_neg n10, if_pos e'.1, e'.2]
          by_cases c2 : s 2 w = -1
          · rw [if_pos (by rw [i_eq, h.f (show w < 64 by omega), c2]; rfl), if_pos (c := s 3 w = 1 ∧ sMust s w) ⟨c3, h2, c7, c2⟩, if_pos (by omega)]
            have : x = nI w := by rw [i_eq, hx, nI_toInt (by omega)]
            rw [this]
          · rw [if_neg (by rw [i_eq, h.f (show w < 64 by omega)]; exact c2), if_neg (c := s 3 w = 1 ∧ sMust s w) (fun q => c2 q.2.2.2)]
            exact go
        · rw [if_neg c3, if_pos rfl, if_neg (c := s 3 w = 1 ∧ sMust s w) (fun q => c3 q.1)]
          exact go
      · rw [if_neg c1, if_pos rfl, if_neg (c := s 3 w = 1 ∧ sMust s w) (fun q => c1 (l4 w (by omega) q.1))]
        exact go
    · rw [if_neg (by rw [i_eq, h.h (show w / 8 < 8 by omega)]; exact c7), if_neg (c := s 3 w = 1 ∧ sMust s w) (fun q => c7 q.2.2.1)]
      exact go
theorem x_moveOne {u : Nat} {M : xm} {s : hs} {G : Nat → Prop} (h : RX u M s) (hi : In s G no 6) (h2 : s 0 14 = 2) : ∃ M', f_X1_moveOne u M = some M' ∧ RX u M' (sMoveOne s) ∧ frX u M M' := by
  have ⟨o, l, f2, g, rg⟩ := hi
  have k := x_next_loop h 64 0 xfuel 0 (by omega) (by unfold xfuel; omega) rfl
  unfold f_X1_moveOne sMoveOne
  rw [k, show sNx s 64 0 = sNext s from rfl]
  by_cases c : sNext s < 64
  · rw [if_pos c, if_pos c, xs2_l]
    have a := (sNx_le (s := s) 64 0).2.2.1 (by unfold sNext at c; omega)
    obtain ⟨m1, m2⟩ := x_moveObject h o l (a := nI (sNext s)) (nI_toInt (by omega)) c (l.2.2.2.1 _ c a.1)
    by_cases r : sRoom s 1 (sSz s (sNext s))
    · obtain ⟨v, M', v1, v2, v3, v4⟩ := m1 r
      rw [v1, xb2_some, if_pos r]
      exact ⟨M', rfl, v3, v4⟩
    · rw [m2 r, xb2_some, if_neg r]
      exact ⟨M, rfl, h, frX.rfl⟩
  · rw [if_neg c, if_neg c, xs2_r, x_threadsBegun h, xb1_some]
    by_cases t0 : s 10 0 = -1
    · by_cases t1 : s 10 1 = -1
      · obtain ⟨M', k1, k2, k3⟩ := x_endMoving h o
        rw [if_pos t0, if_pos t1, if_pos (by decide), k1, xb1_some, if_pos ⟨t0, t1⟩]
        exact ⟨M', rfl, k2, k3⟩
      · rw [if_pos t0, if_neg t1, if_neg (by decide), if_neg (fun q => t1 q.2)]
        exact ⟨M, rfl, h, frX.rfl⟩
    · rw [if_neg t0, if_neg (fun q : s 10 0 = -1 ∧ s 10 1 = -1 => t0 q.1)]
      by_cases t1 : s 10 1 = -1
      · rw [if_pos t1, if_neg (by decide)]
        exact ⟨M, rfl, h, frX.rfl⟩
      · rw [if_neg t1, if_neg (by decide)]
        exact ⟨M, rfl, h, frX.rfl⟩
theorem y_oneMove {M : xm} {s : hs} {G : Nat → Prop} (h : RY M s) (hi : In s G no 6) (h2 : s 0 14 = 2) : ∃ M', f_X10_oneMove M = some M' ∧ RY M' (sMoveOne s) ∧ frY M M' := by
  have ⟨o, l, f2, g, rg⟩ := hi
  have k := y_next_loop h l.2.2.2.1 h2 64 0 xfuel 0 (by omega) (by unfold xfuel; omega) rfl
  have kn : f_X10_nextMove M = some (if sNext s < 64 then nI (sNext s) else -1) := by
    unfold f_X10_nextMove
    rw [k, show sNx s 64 0 = sNext s from rfl]
    by_cases c : sNext s < 64
    · rw [if_pos c, if_pos c, xs2_l]
    · rw [if_neg c, if_neg c, xs2_r]
  unfold f_X10_oneMove sMoveOne
  rw [kn, xb1_some]
  simp only [xlet_eq]
  by_cases c : sNext s < 64
  · have ne : ¬ nI (sNext s) = -1 := by rw [i_eq, nI_toInt (by omega)]; simp only [Int32.reduceToInt]; omega
    have a := (sNx_le (s := s) 64 0).2.2.1 (by unfold sNext at c; omega)
    have hh := l.2.2.2.1 _ c a.1
    obtain ⟨n, hn, m1, m2, m3, m4⟩ := head_n o l c hh
    obtain ⟨z, z1, z2⟩ := y_sizeOf h o (a := nI (sNext s)) (nI_toInt (by omega)) c
    rw [if_pos c]
    simp only [if_neg ne]
    rw [if_pos c, z1, xb1_some, y_hasRoom h o (n := n) (u := 1) (b := 10) (by rw [z2, m1]; omega) (by omega) rfl (by omega), xb1_some, m2]
    by_cases r : sRoom s 1 n
    · obtain ⟨M', v1, v2, v3⟩ := y_moveNow h o l (a := nI (sNext s)) (nI_toInt (by omega)) c hh (by rw [m2]; exact r)
      rw [if_pos r, if_neg n10, v1, xb1_some, if_pos r]
      exact ⟨M', rfl, v2, v3⟩
    · rw [if_neg r, if_pos rfl, if_neg r]
      exact ⟨M, rfl, h, frY.rfl⟩
  · rw [if_neg c]
    simp only [if_true]
    rw [if_neg c, y_areThreads h, xb1_some]
    by_cases t : s 10 0 = -1 ∧ s 10 1 = -1
    · obtain ⟨M', k1, k2, k3⟩ := y_end_loop s 8 0 xfuel M s 0 (by omega) (by unfold xfuel; omega) h o (fun _ _ => rfl) rfl
      rw [if_pos t, if_pos rfl, if_pos t, k1, xb1_some]
      exact ⟨_, rfl, RY.up k2 (k := 0) (i := 14) (by decide) (by decide) rfl, frY.tr k3 (frY.up (by omega))⟩
    · rw [if_neg t, if_neg n10, if_neg t]
      exact ⟨M, rfl, h, frY.rfl⟩
