/-! shape, same, chain -/
def ldS (s : hs) (w j : Nat) : Int := if s 1 (w + 1 + j) = -1 then -1 else ((sWh s (s 1 (w + 1 + j)) : Nat) : Int)
theorem xs_lead {M : xm} {s : hs} (h : RX 1 M s) (o : Ok s) (l : Lay s) {a b : Int32} {w j : Nat} (ha : a.toInt = (w : Int)) (hw : w < 64) (hb : b.toInt = (j : Int)) (hh : 1000 ≤ s 1 w) (hj : (j : Int) < s 1 w - 1000) : ∃ r v, f_X1_fieldOf 1 M a b = some r ∧ f_X1_leadsTo 1 M r = some v ∧ v.toInt = ldS s w j := by
  obtain ⟨r, r1, r2⟩ := x_fieldOf h o l.1 ha hw hb hh hj
  have hp := l.2.1 w hw hh (j + 1) (by omega) (by omega)
  rw [show w + (j + 1) = w + 1 + j by omega] at hp
  unfold ldS
  by_cases c : s 1 (w + 1 + j) = -1
  · rw [if_pos c]
    exact ⟨r, -1, r1, x_leadsTo0 (by omega), rfl⟩
  · rw [if_neg c]
    obtain ⟨v, v1, v2⟩ := x_leadsTo h o r2 (by omega)
    exact ⟨r, v, r1, v1, v2⟩
theorem ys_lead {M : xm} {s : hs} (h : RY M s) (o : Ok s) (l : Lay s) {a b : Int32} {w j : Nat} (ha : a.toInt = (w : Int)) (hw : w < 64) (hb : b.toInt = (j : Int)) (hh : 1000 ≤ s 1 w) (hj : (j : Int) < s 1 w - 1000) : ∃ v, f_X10_leadsTo M a b = some v ∧ v.toInt = ldS s w j := by
  have hp := l.2.1 w hw hh (j + 1) (by omega) (by omega)
  have ow := o.w hw
  have hwj := l.1.in64 o hw hh (j := j + 1) (by omega)
  rw [show w + (j + 1) = w + 1 + j by omega] at hp
  have a1 := i_bx 41 (b := 41) rfl ha (by omega)
  have a2 := i_add a1 (y := 1) (b := 1) rfl (by omega) (by omega)
  have a3 : ((41 : Int32) + a + 1 + b).toInt = ((41 + (w + 1 + j) : Nat) : Int) := by rw [i_add a2 hb (by omega) (by omega)]; omega
  have hM := h.w (show w + 1 + j < 64 by omega)
  unfold f_X10_leadsTo ldS
  rw [if_pos (i_in a3 (by omega)), i_ix a3]
  by_cases c : s 1 (w + 1 + j) = -1
  · rw [if_pos c, if_pos (by rw [i_eq, hM, c]; rfl)]
    exact ⟨-1, rfl, rfl⟩
  · obtain ⟨v, v1, v2⟩ := y_whereOf h o hM (by omega)
    rw [if_neg c, if_neg (by rw [i_eq, hM]; exact c), v1, xb1_some]
    exact ⟨v, rfl, v2⟩
theorem HO.lay {s : hs} (h : HO s) : Lay s := by obtain ⟨G, hi⟩ := h.1; exact hi.2.1
theorem s_shape : sim_shape Rel := by
  intro MX MY LY a0 b0 h
  have hr := h
  obtain ⟨nt, nti, ⟨s, St, n, ru, sd, sp, sk, a1, a2, a3, _⟩, _⟩ := h
  obtain ⟨MX', MY', D, r, b1, b2, b3, P⟩ := both_reached a1 a2 a3.1 a0
  have rel : Rel MX' MY' LY := hr.pic (fun q q1 q2 q3 _ => P.2.2.2.2.2.2.2.1 q q1 q2 q3) (fun q q1 _ _ => P.2.2.2.2.2.2.2.2 q q1)
  unfold f_X9_shape f_X10_shape
  rw [b1, b2, xb2_some, xb2_some]
  rcases b3 with rfl | ⟨rfl, w, hw, w64, cd⟩
  · exact ⟨-1, MX', MY', rfl, rfl, rel⟩
  · have ⟨p1, p2, p3, p4, p5, p6, p7, p8, p9⟩ := P
    have hh := (p3 w cd).2.1
    have ow := a3.ok.w w64
    obtain ⟨z, z1, z2⟩ := y_fieldsOf p6 a3.ok hw w64
    have z3 := i_sub z2 (y := 1) (b := 1) rfl (by omega) (by omega)
    have z0 : (0 : Int32).toInt = 0 := rfl
    rw [if_neg n10, if_neg n10, z1, xb1_some, yIn, z3, z0]
    by_cases c : 0 ≤ b0.toInt ∧ b0.toInt < s 1 w - 1000
    · obtain ⟨j, hj⟩ : ∃ j : Nat, b0.toInt = j := ⟨b0.toInt.toNat, by omega⟩
      obtain ⟨u, v, u1, v1, v2⟩ := xs_lead p5 a3.ok a3.lay hw w64 hj hh (by omega)
      obtain ⟨v', v1', v2'⟩ := ys_lead p6 a3.ok a3.lay hw w64 hj hh (by omega)
      rw [u1, xb1_some, v1, xb1_some, if_pos (c := 0 ≤ b0.toInt ∧ b0.toInt ≤ s 1 w - 1000 - 1) (by omega), if_neg n10, v1', xb1_some, i_inj v2 v2']
      exact ⟨v', MX', MY', rfl, rfl, rel⟩
    · rw [x_fieldOf0 p5 a3.ok hw w64 hh c, xb1_some, x_leadsTo0 (by decide), xb1_some, if_neg (c := 0 ≤ b0.toInt ∧ b0.toInt ≤ s 1 w - 1000 - 1) (by omega), if_pos rfl]
      exact ⟨-1, MX', MY', rfl, rfl, rel⟩
theorem same_tail {M : xm} {s : hs} (h : RX 1 M s) (o : Ok s) {a b : Int32} {v w : Nat} (ha : a.toInt = (v : Int)) (hv : v < 64) (hb : b.toInt = (w : Int)) (hw : w < 64) (hh : 1000 ≤ s 1 v) (e : s 1 v = s 1 w) : ∀ (k j f : Nat) (y : Int32), j + k = 3 → k < f → y.toInt = (j : Int) → s 1 v - 1000 ≤ j → g_X9_same_41 M a b f y = some (Sum.inr ()) := by
  intro k
  induction k with
  | zero =>
    intro j f y hi hf hy hj
    obtain ⟨f, rfl⟩ : ∃ q, f = q + 1 := ⟨f - 1, by omega⟩
    unfold g_X9_same_41
    rw [if_pos (by rw [i_le, hy]; simp only [Int32.reduceToInt]; omega)]
  | succ k ih =>
    intro j f y hi hf hy hj
    obtain ⟨f, rfl⟩ : ∃ q, f = q + 1 := ⟨f - 1, by omega⟩
    have ny : (y + 1).toInt = ((j + 1 : Nat) : Int) := by rw [i_add hy (b := 1) rfl (by omega) (by omega)]; omega
    unfold g_X9_same_41
    rw [if_neg (by rw [i_le, hy]; simp only [Int32.reduceToInt]; omega), x_fieldOf0 h o ha hv hh (by omega), xb1_some, x_leadsTo0 (a := -1) (by decide), xb1_some, x_fieldOf0 h o hb hw (by omega) (by omega), xb1_some, x_leadsTo0 (a := -1) (by decide), xb1_some, if_pos rfl, xlet_eq]
    exact ih (j + 1) f (y + 1) (by omega) (by omega) ny (by omega)
theorem same_both {M N : xm} {s : hs} (h : RX 1 M s) (hn : RY N s) (o : Ok s) (l : Lay s) {a b : Int32} {v w : Nat} (ha : a.toInt = (v : Int)) (hv : v < 64) (hb : b.toInt = (w : Int)) (hw : w < 64) (hh : 1000 ≤ s 1 v) (e : s 1 v = s 1 w) : ∀ (k j f f' : Nat) (y : Int32), j + k = 3 → k < f → k < f' → y.toInt = (j : Int) → ∃ u, g_X9_same_41 M a b f y = some u ∧ g_X10_same_33 N a b f' y = some u := by
  have ow := o.w hv
  obtain ⟨z, z1, z2⟩ := y_fieldsOf hn o ha hv
  intro k
  induction k with
  | zero =>
    intro j f f' y hi hf hf' hy
    obtain ⟨f', rfl⟩ : ∃ q, f' = q + 1 := ⟨f' - 1, by omega⟩
    refine ⟨Sum.inr (), same_tail h o ha hv hb hw hh e 0 j f y hi hf hy (by omega), ?_⟩
    unfold g_X10_same_33
    rw [z1, xb1_some, if_pos (by rw [i_le, z2, hy]; omega)]
  | succ k ih =>
    intro j f f' y hi hf hf' hy
    by_cases c : s 1 v - 1000 ≤ j
    · obtain ⟨f', rfl⟩ : ∃ q, f' = q + 1 := ⟨f' - 1, by omega⟩
      refine ⟨Sum.inr (), same_tail h o ha hv hb hw hh e (k + 1) j f y hi hf hy c, ?_⟩
      unfold g_X10_same_33
      rw [z1, xb1_some, if_pos (by rw [i_le, z2, hy]; omega)]
    · obtain ⟨f', rfl⟩ : ∃ q, f' = q + 1 := ⟨f' - 1, by omega⟩
      obtain ⟨f, rfl⟩ : ∃ q, f = q + 1 := ⟨f - 1, by omega⟩
      have ny : (y + 1).toInt = ((j + 1 : Nat) : Int) := by rw [i_add hy (b := 1) rfl (by omega) (by omega)]; omega
      obtain ⟨r1, v1, a1, a2, a3⟩ := xs_lead h o l ha hv hy hh (by omega)
      obtain ⟨r2, v2, b1, b2, b3⟩ := xs_lead h o l hb hw hy (by omega) (by omega)
      obtain ⟨v1', c1, c2⟩ := ys_lead hn o l ha hv hy hh (by omega)
      obtain ⟨v2', d1, d2⟩ := ys_lead hn o l hb hw hy (by omega) (by omega)
      unfold g_X9_same_41 g_X10_same_33
      rw [if_neg (c := (3 : Int32) ≤ y) (by rw [i_le, hy]; simp only [Int32.reduceToInt]; omega), a1, xb1_some, a2, xb1_some, b1, xb1_some, b2, xb1_some, z1, xb1_some, if_neg (c := z ≤ y) (by rw [i_le, z2, hy]; omega), c1, xb1_some, d1, xb1_some, i_inj a3 c2, i_inj b3 d2]
      by_cases cc : v1' = v2'
      · rw [if_pos cc, if_pos cc, xlet_eq, xlet_eq]
        exact ih (j + 1) f f' (y + 1) (by omega) (by omega) (by omega) ny
      · rw [if_neg cc, if_neg cc]
        exact ⟨Sum.inl (), rfl, rfl⟩
theorem s_same : sim_same Rel := by
  intro MX MY LY a0 b0 h
  have hr := h
  obtain ⟨nt, nti, ⟨s, St, n, ru, sd, sp, sk, a1, a2, a3, _⟩, _⟩ := h
  obtain ⟨MX', MY', D, r, b1, b2, b3, P⟩ := both_reached a1 a2 a3.1 a0
  have rel : Rel MX' MY' LY := hr.pic (fun q q1 q2 q3 _ => P.2.2.2.2.2.2.2.1 q q1 q2 q3) (fun q q1 _ _ => P.2.2.2.2.2.2.2.2 q q1)
  unfold f_X9_same f_X10_same
  rw [b1, b2, xb2_some, xb2_some]
  rcases b3 with rfl | ⟨rfl, w, hw, w64, cd⟩
  · exact ⟨0, MX', MY', rfl, rfl, rel⟩
  · obtain ⟨M2, N2, D2, r2, c1, c2, c3, P2⟩ := both_reached P.2.2.2.2.1 P.2.2.2.2.2.1 a3.1 b0
    have rel2 : Rel M2 N2 LY := rel.pic (fun q q1 q2 q3 _ => P2.2.2.2.2.2.2.2.1 q q1 q2 q3) (fun q q1 _ _ => P2.2.2.2.2.2.2.2.2 q q1)
    rw [if_neg n10, if_neg n10, c1, c2, xb2_some, xb2_some]
    rcases c3 with rfl | ⟨rfl, w', hw', w64', cd'⟩
    · exact ⟨0, M2, N2, rfl, rfl, rel2⟩
    · have ⟨p1, p2, p3, p4, p5, p6, p7, p8, p9⟩ := P2
      have hh := (P.2.2.1 w cd).2.1
      have hh' := (p3 w' cd').2.1
      have ow := a3.ok.w w64
      have ow' := a3.ok.w w64'
      obtain ⟨z, z1, z2⟩ := y_fieldsOf p6 a3.ok hw w64
      obtain ⟨z', z1', z2'⟩ := y_fieldsOf p6 a3.ok hw' w64'
      rw [if_neg n10, if_neg n10, if_pos (i_in hw w64), if_pos (i_in hw' w64'), i_ix hw, i_ix hw', z1, xb1_some, z1', xb1_some]
      by_cases e : s 1 w = s 1 w'
      · rw [if_pos (c := M2 (1 + 1) w = M2 (1 + 1) w') (by rw [i_eq, p5.w w64, p5.w w64']; exact e), if_pos (c := z = z') (by rw [i_eq, z2, z2', e])]
        obtain ⟨u, u1, u2⟩ := same_both p5 p6 a3.ok a3.lay hw w64 hw' w64' hh e 3 0 xfuel xfuel 0 (by omega) (by unfold xfuel; omega) (by unfold xfuel; omega) rfl
        rw [u1, u2]
        rcases u with u | u
        · exact ⟨0, M2, N2, rfl, rfl, rel2⟩
        · exact ⟨1, M2, N2, rfl, rfl, rel2⟩
      · rw [if_neg (c := M2 (1 + 1) w = M2 (1 + 1) w') (by rw [i_eq, p5.w w64, p5.w w64']; exact e), if_neg (c := z = z') (by rw [i_eq, z2, z2']; omega)]
        exact ⟨0, M2, N2, rfl, rfl, rel2⟩
theorem y_ch12 {x : Int32} : ∀ (k n f : Nat) (M : xm) (y : Int32), (∀ w, w < n → M 12 w = 0) → n + k = 64 → k < f → y.toInt = (n : Int) → ∃ M', g_X10_chain_12 x f M y = some M' ∧ (∀ w, w < 64 → M' 12 w = 0) ∧ ∀ q, q ≠ 12 → M' q = M q := by
  intro k
  induction k with
  | zero =>
    intro v f M y h hk hf hy
    obtain ⟨f, rfl⟩ : ∃ q, f = q + 1 := ⟨f - 1, by omega⟩
    unfold g_X10_chain_12
    rw [if_pos (by rw [i_le, hy]; simp only [Int32.reduceToInt]; omega)]
    exact ⟨M, rfl, fun w hw => h w (by omega), fun _ _ => rfl⟩
  | succ k ih =>
    intro v f M y h hk hf hy
    obtain ⟨f, rfl⟩ : ∃ q, f = q + 1 := ⟨f - 1, by omega⟩
    unfold g_X10_chain_12
    rw [if_neg (by rw [i_le, hy]; simp only [Int32.reduceToInt]; omega), if_pos (i_in hy (by omega)), i_ix hy, xlet_eq, xlet_eq]
    obtain ⟨M', k1, k2, k3⟩ := ih (v + 1) f (up2 M 12 v 0) (y + 1) (fun w hw => by
      rw [up2_row]
      split
      · rfl
      · exact h w (by omega)) (by omega) (by omega) (by rw [i_add hy (b := 1) rfl (by omega) (by omega)]; omega)
    exact ⟨M', k1, k2, fun q hq => (k3 q hq).trans (up2_cell hq)⟩
theorem ch_loop {s : hs} (o : Ok s) (l : Lay s) {D : Nat → Int} (hH : ∀ w, D w ≠ -1 → w < 64 ∧ 1000 ≤ s 1 w ∧ ∀ j : Nat, 1 ≤ j → (j : Int) ≤ s 1 w - 1000 → s 1 (w + j) ≠ -1 → D (sWh s (s 1 (w + j))) ≠ -1) : ∀ (d n f f' : Nat) (M N : xm) (x y : Int32) (C : Nat → Int), RX 1 M s → RY N s → dM 987 M = D → dM 989 M = C → dM 12 N = C → (∀ w, w < 64 → C w = 0 ∨ C w = 1) → sm C 64 = n → n + d = 64 → d < f → d < f' → y.toInt = (n : Int) → (x = -1 ∨ ∃ w : Nat, x.toInt = (w : Int) ∧ D w ≠ -1) → ∃ r M' N', g_X6_chainFrom_13 1 f M x y = some (r, M') ∧ g_X10_chain_35 f' N y x = some (r, N') ∧ (∀ q, q ≠ 989 → M' q = M q) ∧ ∀ q, q ≠ 12 → N' q = N q := by
  intro d
  induction d with
  | zero =>
    intro n f f' M N x y C h hn h1 h2 h3 h4 h5 hd hf hf' hy hx
    obtain ⟨f, rfl⟩ : ∃ q, f = q + 1 := ⟨f - 1, by omega⟩
    obtain ⟨f', rfl⟩ : ∃ q, f' = q + 1 := ⟨f' - 1, by omega⟩
    unfold g_X6_chainFrom_13 g_X10_chain_35
    rw [if_pos (by rw [i_le, hy]; simp only [Int32.reduceToInt]; omega)]
    refine ⟨y, M, N, rfl, ?_, fun _ _ => rfl, fun _ _ => rfl⟩
    rcases hx with rfl | ⟨w, w1, w2⟩
    · rw [y_isHead0 (by decide), xb1_some, if_pos rfl]
    · have a := hH w w2
      have c1 : C w = 1 := by
        rcases h4 w a.1 with q | q
        · have := sm_room (f := C) (n := 64) (fun i hi => by have := h4 i hi; omega) a.1 q
          omega
        · exact q
      rw [y_isHead hn w1 a.1, xb1_some, if_pos a.2.1, if_neg n10, if_pos (i_in w1 a.1), i_ix w1, if_neg (by rw [i_eq, ← dM_lt (c := 12) a.1, h3, c1]; decide)]
  | succ d ih =>
    intro n f f' M N x y C h hn h1 h2 h3 h4 h5 hd hf hf' hy hx
    obtain ⟨f, rfl⟩ : ∃ q, f = q + 1 := ⟨f - 1, by omega⟩
    obtain ⟨f', rfl⟩ : ∃ q, f' = q + 1 := ⟨f' - 1, by omega⟩
    unfold g_X6_chainFrom_13 g_X10_chain_35
    rw [if_neg (c := (64 : Int32) ≤ y) (by rw [i_le, hy]; simp only [Int32.reduceToInt]; omega)]
    rcases hx with rfl | ⟨w, w1, w2⟩
    · rw [y_isHead0 (by decide), xb1_some, if_pos rfl, f_isAddress_0 (by decide), if_pos rfl]
      exact ⟨y, M, N, rfl, rfl, fun _ _ => rfl, fun _ _ => rfl⟩
    · have ⟨a1, a2, a3⟩ := hH w w2
      have ow := o.w a1
      have m1 : (M (986 + 3) w).toInt = C w := by rw [← h2, dM_lt a1]
      have m2 : (N 12 w).toInt = C w := by rw [← h3, dM_lt a1]
      rw [y_isHead hn w1 a1, xb1_some, if_pos a2, if_neg n10, if_pos (i_in w1 a1), if_pos (i_in w1 a1), i_ix w1, f_isAddress_1 w1 a1, if_neg n10, if_neg (c := M (986 + 1) w = -1) (fun q => w2 (by rw [← h1]; exact (dM_n1 a1).mp q))]
      rcases h4 w a1 with q | q
      · rw [if_pos (c := M (986 + 3) w = 0) (by rw [i_eq, m1, q]; rfl), if_pos (c := N 12 w = 0) (by rw [i_eq, m2, q]; rfl)]
        simp only [xlet_eq]
        have hM1 : RX 1 (up2 M (986 + 3) w 1) s := h.fr (fun q _ _ => up2_cell (by omega))
        have hN1 : RY (up2 N 12 w 1) s := by show RYr _ s; rw [up2_cell (by decide)]; exact hn
        have ny : (y + 1).toInt = ((n + 1 : Nat) : Int) := by rw [i_add hy (b := 1) rfl (by omega) (by omega)]; omega
        obtain ⟨z, z1, z2⟩ := y_fieldsOf hN1 o w1 a1
        have e1 : dM 989 (up2 M (986 + 3) w 1) = upD C w 1 := by rw [← h2]; exact dM_up a1 rfl
        have e2 : dM 12 (up2 N 12 w 1) = upD C w 1 := by rw [← h3]; exact dM_up a1 rfl
        have e3 : sm (upD C w 1) 64 = ((n + 1 : Nat) : Int) := by
          have := sm_up (f := C) (g := upD C w 1) (b := w) (z := 1) (fun i hi => by unfold upD; rw [if_neg hi]) (by unfold upD; rw [if_pos rfl, q]; rfl) 64
          rw [this, if_pos a1, h5]; omega
        have e4 : ∀ i, i < 64 → upD C w 1 i = 0 ∨ upD C w 1 i = 1 := fun i hi => by
          unfold upD
          split
          · exact Or.inr rfl
          · exact h4 i hi
        have e5 : dM 987 (up2 M (986 + 3) w 1) = D := by rw [dM_fr (M := M) (up2_cell (by decide))]; exact h1
        rw [z1, xb1_some]
        have go : ∀ v : Int32, (v = -1 ∨ ∃ w : Nat, v.toInt = (w : Int) ∧ D w ≠ -1) → ∃ r M' N', g_X6_chainFrom_13 1 f (up2 M (986 + 3) w 1) v (y + 1) = some (r, M') ∧ g_X10_chain_35 f' (up2 N 12 w 1) (y + 1) v = some (r, N') ∧ (∀ q, q ≠ 989 → M' q = M q) ∧ ∀ q, q ≠ 12 → N' q = N q := fun v hv => by
          obtain ⟨r, M', N', k1, k2, k3, k4⟩ := ih (n + 1) f f' _ _ v (y + 1) (upD C w 1) hM1 hN1 e5 e1 e2 e4 e3 (by omega) (by omega) (by omega) ny hv
          exact ⟨r, M', N', k1, k2, fun q hq => (k3 q hq).trans (up2_cell hq), fun q hq => (k4 q hq).trans (up2_cell hq)⟩
        by_cases c : s 1 w - 1000 = 0
        · rw [x_fieldOf0 hM1 o w1 a1 a2 (by rw [c]; decide), xb1_some, x_leadsTo0 (a := -1) (by decide), xb1_some, if_pos (c := z = 0) (by rw [i_eq, z2, c]; rfl)]
          exact go (-1) (Or.inl rfl)
        · obtain ⟨u, v, u1, v1, v2⟩ := xs_lead hM1 o l w1 a1 (b := 0) (j := 0) rfl a2 (by omega)
          obtain ⟨v', v1', v2'⟩ := ys_lead hN1 o l w1 a1 (b := 0) (j := 0) rfl a2 (by omega)
          rw [u1, xb1_some, v1, xb1_some, if_neg (c := z = 0) (by rw [i_eq, z2]; exact c), v1', xb1_some, i_inj v2 v2']
          refine go v' ?_
          unfold ldS at v2'
          by_cases c2 : s 1 (w + 1 + 0) = -1
          · rw [if_pos c2] at v2'
            exact Or.inl (by rw [i_eq, v2']; rfl)
          · rw [if_neg c2] at v2'
            exact Or.inr ⟨_, v2', a3 1 (by omega) (by omega) c2⟩
      · rw [if_neg (c := M (986 + 3) w = 0) (by rw [i_eq, m1, q]; decide), if_neg (c := N 12 w = 0) (by rw [i_eq, m2, q]; decide)]
        exact ⟨y, M, N, rfl, rfl, fun _ _ => rfl, fun _ _ => rfl⟩
theorem s_chain : sim_chain Rel := by
  intro MX MY LY a0 h
  have hr := h
  obtain ⟨nt, nti, ⟨s, St, n, ru, sd, sp, sk, a1, a2, a3, _⟩, _⟩ := h
  obtain ⟨MX', MY', D, r, b1, b2, b3, P⟩ := both_reached a1 a2 a3.1 a0
  have rel : Rel MX' MY' LY := hr.pic (fun q q1 q2 q3 _ => P.2.2.2.2.2.2.2.1 q q1 q2 q3) (fun q q1 _ _ => P.2.2.2.2.2.2.2.2 q q1)
  unfold f_X9_chain f_X10_chain
  rw [b1, b2, xb2_some, xb2_some]
  rcases b3 with rfl | ⟨rfl, w, hw, w64, cd⟩
  · exact ⟨-1, MX', MY', rfl, rfl, rel⟩
  · have ⟨p1, p2, p3, p4, p5, p6, p7, p8, p9⟩ := P
    obtain ⟨n', F, t1, t2, t3, t4, t5, t6, t7⟩ := p1
    obtain ⟨M1, c1, c2⟩ := fill_raw (o := 989) (n := 64) (by omega) MX' 0
    obtain ⟨N1, d1, d2, d3⟩ := y_ch12 (x := a0) 64 0 xfuel MY' 0 (fun w hw => by omega) (by omega) (by unfold xfuel; omega) rfl
    have f1 : ∀ q, q ≠ 989 → M1 q = MX' q := fun q hq => by funext j; rw [c2, if_neg (by omega)]
    have z1 : dM 989 M1 = fun w => if w < 64 then 0 else -1 := by
      funext i; unfold dM
      by_cases c : i < 64
      · rw [if_pos c, if_pos c, c2, if_pos ⟨rfl, c⟩]; rfl
      · rw [if_neg c, if_neg c]
    have z2 : dM 12 N1 = fun w => if w < 64 then 0 else -1 := by
      funext i; unfold dM
      by_cases c : i < 64
      · rw [if_pos c, if_pos c, d2 i c]; rfl
      · rw [if_neg c, if_neg c]
    obtain ⟨r, M', N', k1, k2, k3, k4⟩ := ch_loop a3.ok a3.lay (D := D) (fun w hw => ⟨(p3 w hw).1, (p3 w hw).2.1, fun j j1 j2 j3 => (((p3 w hw).2.2.2 j j1 j2).2 j3).2.2.2 (by omega)⟩) 64 0 xfuel xfuel M1 N1 a0 0 _ (p5.fr (fun q _ _ => f1 q (by omega))) (by show RYr _ s; rw [d3 1 (by decide)]; exact p6) (by rw [dM_fr (M := MX') (f1 987 (by decide))]; exact t5) z1 z2 (fun w hw => Or.inl (if_pos hw)) (by
      have e := sm_eq (f := fun w : Nat => if w < 64 then (0 : Int) else -1) (g := fun _ => 0) 64 (fun i hi => if_pos hi)
      rw [e, sm_const 0 64]; rfl) (by omega) (by unfold xfuel; omega) (by unfold xfuel; omega) rfl (Or.inr ⟨w, hw, cd⟩)
    unfold f_X6_chainFrom
    rw [if_neg n10, if_neg n10, show (986 + 3 : Nat) = 989 from rfl, c1, xb1_some, k1, xb2_some, xb2_some, d1, xb1_some, k2, xb2_some]
    exact ⟨r, M', N', rfl, rfl, rel.pic (fun q q1 q2 q3 q4 => (k3 q q4).trans (f1 q q4)) (fun q q1 q2 q3 => (k4 q q3).trans (d3 q q3))⟩
