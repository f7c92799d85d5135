/-! the rest of take -/
theorem x_fieldOf {M : xm} {s : hs} (h : RX 1 M s) (o : Ok s) (l1 : La1 s) {a b : Int32} {v j : Nat} (ha : a.toInt = (v : Int)) (hv : v < 64) (hb : b.toInt = (j : Int)) (hh : 1000 ≤ s 1 v) (hj : (j : Int) < s 1 v - 1000) : ∃ r, f_X1_fieldOf 1 M a b = some r ∧ r.toInt = s 1 (v + 1 + j) := by
  obtain ⟨w, w1, w2⟩ := x_sizeAt h o ha hv
  have := o.w hv
  have in64 := l1.in64 o hv hh (j := j + 1) (by omega)
  have sz : (sSz s v : Int) = s 1 v - 999 := by unfold sSz; rw [if_pos hh]; omega
  have e1 : (a + 1).toInt = ((v + 1 : Nat) : Int) := by rw [i_add ha (b := 1) rfl (by omega) (by omega)]; omega
  have e2 : (a + 1 + b).toInt = ((v + 1 + j : Nat) : Int) := by rw [i_add e1 hb (by omega) (by omega)]; omega
  unfold f_X1_fieldOf
  rw [xlet_eq, if_neg (c := b < 0) (by rw [i_lt, hb]; simp only [Int32.reduceToInt]; omega), w1, xb1_some, if_neg (c := w - 1 ≤ b) (by rw [i_le, i_sub w2 (b := 1) rfl (by omega) (by omega), hb, sz]; omega), if_neg (c := (64 : Int32) ≤ a + 1 + b) (by rw [i_le, e2]; simp only [Int32.reduceToInt]; omega), if_pos (i_in e2 (by omega)), i_ix e2]
  exact ⟨_, rfl, h.w (show v + 1 + j < 64 by omega)⟩
theorem x_fieldOf0 {M : xm} {s : hs} (h : RX 1 M s) (o : Ok s) {a b : Int32} {v : Nat} (ha : a.toInt = (v : Int)) (hv : v < 64) (hh : 1000 ≤ s 1 v) (hj : ¬ (0 ≤ b.toInt ∧ b.toInt < s 1 v - 1000)) : f_X1_fieldOf 1 M a b = some (-1) := by
  obtain ⟨w, w1, w2⟩ := x_sizeAt h o ha hv
  have := o.w hv
  have sz : (sSz s v : Int) = s 1 v - 999 := by unfold sSz; rw [if_pos hh]; omega
  unfold f_X1_fieldOf
  rw [xlet_eq]
  by_cases c : b.toInt < 0
  · rw [if_pos (c := b < 0) (by rw [i_lt]; exact c)]
  · rw [if_neg (c := b < 0) (by rw [i_lt]; exact c), w1, xb1_some, if_pos (c := w - 1 ≤ b) (by rw [i_le, i_sub w2 (b := 1) rfl (by omega) (by omega), sz]; omega)]
def stS (s : hs) (F : Nat → Nat) (i j : Nat) : Int := slR s 6 + sm (fun a => slW s (F a)) i + slF s (F i) j
theorem stS_up {s : hs} {F : Nat → Nat} {i j n w : Nat} (hi : i < n) : stS s (upF F n w) i j = stS s F i j := by
  have e : upF F n w i = F i := by unfold upF; rw [if_neg (by omega)]
  have e2 : sm (fun a => slW s (upF F n w a)) i = sm (fun a => slW s (F a)) i := sm_eq i (fun k hk => by show slW s (upF F n w k) = slW s (F k); unfold upF; rw [if_neg (by omega)])
  unfold stS
  rw [e, e2]
theorem slW_le {s : hs} (o : Ok s) {w : Nat} (hw : w < 64) : 0 ≤ slW s w ∧ slW s w ≤ 3 := by
  have := slF_le s w (nfS s w)
  have := o.w hw
  have : nfS s w ≤ 3 := by unfold nfS; omega
  unfold slW; omega
theorem stS_le {s : hs} (o : Ok s) {F : Nat → Nat} {i j : Nat} (hF : ∀ a, a < i → F a < 64) (hi : i ≤ 64) (hj : j ≤ 3) : 0 ≤ stS s F i j ∧ stS s F i j ≤ 300 := by
  have a := slR_le s 6
  have b := slF_le s (F i) j
  have c := sm_01 (f := fun a => slW s (F a)) (z := 3) i (fun k hk => slW_le o (hF k hk))
  unfold stS
  omega
theorem x_t92 {s : hs} {G e : Nat → Prop} (o : Ok s) (l : Lay s) (g : Gc s G e) {x yi : Int32} {xi : Int} (hx : x.toInt = xi) {i : Nat} {v m : Int32} {vn mn : Nat} (hv : v.toInt = (vn : Int)) (gv : G vn) (hm : m.toInt = (mn : Int)) (hmn : (mn : Int) = s 1 vn - 1000) : ∀ (k j f : Nat) (M : xm) (y : Int32) (n : Nat) (D : Nat → Int) (F : Nat → Nat), RX 1 M s → i < n → F i = vn → QI s xi G i j n D F → QM M s n D F (stS s F i j) → j + k = mn → k < f → y.toInt = (j : Int) → ∃ M' n' D' F', g_X6_take_92 1 x yi v m f M y = some M' ∧ RX 1 M' s ∧ i < n' ∧ F' i = vn ∧ QI s xi G i mn n' D' F' ∧ QM M' s n' D' F' (stS s F' i mn) ∧ ∀ q, q ≠ 986 → q ≠ 987 → q ≠ 988 → M' q = M q := by
  intro k
  have hv64 := (g.1 vn gv).1
  have hh := (g.1 vn gv).2.1
  have ow := o.w hv64
  induction k with
  | zero =>
    intro j f M y n D F h hi hFi hl hq hk hf0 hy
    obtain ⟨f, rfl⟩ : ∃ q, f = q + 1 := ⟨f - 1, by omega⟩
    have e : j = mn := by omega
    subst e
    unfold g_X6_take_92
    rw [if_pos (by rw [i_le, hy, hm]; omega)]
    exact ⟨M, n, D, F, rfl, h, hi, hFi, hl, hq, fun _ _ _ _ => rfl⟩
  | succ k ih =>
    intro j f M y n D F h hi hFi hl hq hk hf0 hy
    obtain ⟨f, rfl⟩ : ∃ q, f = q + 1 := ⟨f - 1, by omega⟩
    have ny : (y + 1).toInt = ((j + 1 : Nat) : Int) := by rw [i_add hy (b := 1) rfl (by omega) (by omega)]; omega
    obtain ⟨r, r1, r2⟩ := x_fieldOf h o l.1 hv hv64 hy hh (by omega)
    have ew : vn + 1 + j = vn + (j + 1) := by omega
    rw [ew] at r2
    have FIn := hl.2.2.2.2.1
    have n64 := FIn.n.1
    have f64 : ∀ a, a < n → F a < 64 := fun a ha => (g.1 _ (hl.2.1 _ (by have := FIn.1 a ha; omega))).1
    have sb := stS_le (s := s) o (F := F) (i := i) (j := j) (fun a ha => f64 a (by omega)) (by omega) (by omega)
    have Dv : (M 987 vn).toInt = D (F i) := by rw [hFi, ← hq.2.2.2.2.1, dM_lt hv64]
    have d0 := FIn.1 i hi
    have dtop : D (F i) ≤ 2147483000 := by
      have := (M 987 vn).toInt_lt
      by_cases c : D (F i) ≤ 2147483000
      · exact c
      · exfalso
        have down : ∀ (t k : Nat), (∃ w, D w = ((k + t : Nat) : Int)) → ∃ w, D w = (k : Int) := by
          intro t
          induction t with
          | zero => intro k q; exact q
          | succ t ih =>
            intro k ⟨w, hw⟩
            obtain ⟨u, u1, _⟩ := hl.2.2.2.2.2.2.2.2.2 w (by omega)
            exact ih k ⟨u, by rw [u1, hw]; omega⟩
        have := pigeon 64 65 D (fun k hk => by
          obtain ⟨w', hw'⟩ := down ((D (F i)).toNat - k) k ⟨F i, by omega⟩
          exact ⟨w', (g.1 w' (hl.2.1 w' (by omega))).1, hw'⟩)
        omega
    have nd : (M (986 + 1) vn + 1).toInt = D (F i) + 1 := i_add Dv (b := 1) rfl (by omega) (by omega)
    unfold g_X6_take_92
    rw [if_neg (by rw [i_le, hy, hm]; omega), r1, xb1_some, if_pos (i_in hv hv64), i_ix hv]
    have gp := g.2.2.1 vn gv (j + 1) (by omega) (by omega)
    obtain ⟨M1, a1, a2, a3, a4⟩ := fol_step h o g.1 (b := M (986 + 1) vn + 1) (c := x) r2 gp nd (by omega) hx FIn hl.2.1 hq (by omega)
    rw [a1, xb1_some, xlet_eq]
    have sr : stS s F i j + slP s (s 1 (vn + (j + 1))) = stS s F i (j + 1) := by
      have e : slF s (F i) (j + 1) = slF s (F i) j + slP s (s 1 (F i + 1 + j)) := rfl
      unfold stS
      rw [e, hFi, ew]; omega
    rw [sr] at a4
    rcases a4 with ⟨b1, b2⟩ | ⟨b1, b2, b3, b4, b5, b6⟩
    · obtain ⟨M', n', D', F', k1, k2, k3, k4, k5, k6, k7⟩ := ih (j + 1) f M1 (y + 1) n D F a2 hi hFi (hl.keep (by rw [hFi]; exact b1)) b2 (by omega) (by omega) ny
      exact ⟨M', n', D', F', k1, k2, k3, k4, k5, k6, fun q c1 c2 c3 => (k7 q c1 c2 c3).trans (a3 q c1 c2 c3)⟩
    · have hq2 := hl.put hi (by rw [hFi]; omega) (p := s 1 (vn + (j + 1))) (by rw [hFi]) b1 b2 b3 b4 b5
      rw [← stS_up (w := sWh s (s 1 (vn + (j + 1)))) hi] at b6
      obtain ⟨M', n', D', F', k1, k2, k3, k4, k5, k6, k7⟩ := ih (j + 1) f M1 (y + 1) _ _ _ a2 (by omega) (by unfold upF; rw [if_neg (by omega)]; exact hFi) hq2 b6 (by omega) (by omega) ny
      exact ⟨M', n', D', F', k1, k2, k3, k4, k5, k6, fun q c1 c2 c3 => (k7 q c1 c2 c3).trans (a3 q c1 c2 c3)⟩
theorem x_t57 {s : hs} {G e : Nat → Prop} (o : Ok s) (l : Lay s) (g : Gc s G e) {x : Int32} {xi : Int} (hx : x.toInt = xi) : ∀ (k i f : Nat) (M : xm) (y : Int32) (n : Nat) (D : Nat → Int) (F : Nat → Nat), RX 1 M s → i ≤ n → QI s xi G i 0 n D F → QM M s n D F (stS s F i 0) → i + k = 64 → k < f → y.toInt = (i : Int) → ∃ M' n' D' F', g_X6_take_57 1 x f M y = some M' ∧ RX 1 M' s ∧ QI s xi G n' 0 n' D' F' ∧ QM M' s n' D' F' (stS s F' n' 0) ∧ ∀ q, q ≠ 986 → q ≠ 987 → q ≠ 988 → M' q = M q := by
  intro k
  induction k with
  | zero =>
    intro i f M y n D F h hi hl hq hk hf0 hy
    obtain ⟨f, rfl⟩ : ∃ q, f = q + 1 := ⟨f - 1, by omega⟩
    have n64 := hl.2.2.2.2.1.n.1
    have e : i = n := by omega
    subst e
    unfold g_X6_take_57
    rw [if_pos (by rw [i_le, hy, hq.1]; omega)]
    exact ⟨M, i, D, F, rfl, h, hl, hq, fun _ _ _ _ => rfl⟩
  | succ k ih =>
    intro i f M y n D F h hi hl hq hk hf0 hy
    obtain ⟨f, rfl⟩ : ∃ q, f = q + 1 := ⟨f - 1, by omega⟩
    unfold g_X6_take_57
    by_cases c : i = n
    · subst c
      rw [if_pos (by rw [i_le, hy, hq.1]; omega)]
      exact ⟨M, i, D, F, rfl, h, hl, hq, fun _ _ _ _ => rfl⟩
    · have ny : (y + 1).toInt = ((i + 1 : Nat) : Int) := by rw [i_add hy (b := 1) rfl (by omega) (by omega)]; omega
      have hin : i < n := by omega
      have gF : G (F i) := hl.2.1 _ (by have := hl.2.2.2.2.1.1 i hin; omega)
      have hF64 := (g.1 _ gF).1
      have hh := (g.1 _ gF).2.1
      have ow := o.w hF64
      have hv : (M (986 + 2) i).toInt = (F i : Int) := hq.2.2.2.2.2 i hin
      obtain ⟨w, w1, w2⟩ := x_sizeAt h o hv hF64
      have sz : (sSz s (F i) : Int) = s 1 (F i) - 999 := by unfold sSz; rw [if_pos hh]; omega
      have w3 : (w - 1).toInt = ((nfS s (F i) : Nat) : Int) := by rw [i_sub w2 (b := 1) rfl (by omega) (by omega), sz]; unfold nfS; omega
      rw [if_neg (by rw [i_le, hy, hq.1]; omega), if_neg (c := (64 : Int32) ≤ y) (by rw [i_le, hy]; simp only [Int32.reduceToInt]; omega), if_pos (i_in hy (by omega)), i_ix hy, xlet_eq, w1, xb1_some, xlet_eq]
      obtain ⟨M1, n1, D1, F1, a1, a2, a3, a4, a5, a6, a7⟩ := x_t92 o l g (yi := y) hx (i := i) hv gF w3 (by unfold nfS; omega) (nfS s (F i)) 0 xfuel M 0 n D F h hin rfl hl hq (by omega) (by unfold xfuel nfS; omega) rfl
      rw [a1, xb1_some, xlet_eq]
      have sr : stS s F1 i (nfS s (F i)) = stS s F1 (i + 1) 0 := by
        have e : sm (fun a => slW s (F1 a)) (i + 1) = sm (fun a => slW s (F1 a)) i + slW s (F1 i) := rfl
        have e2 : slF s (F1 (i + 1)) 0 = 0 := rfl
        have e3 : slW s (F1 i) = slF s (F1 i) (nfS s (F i)) := by unfold slW; rw [a4]
        unfold stS
        rw [e, e2, e3]; omega
      rw [sr] at a6
      obtain ⟨M', n', D', F', k1, k2, k3, k4, k5⟩ := ih (i + 1) f M1 (y + 1) n1 D1 F1 a2 (by omega) (a5.next a3 (by rw [a4]; unfold nfS; omega)) a6 (by omega) (by omega) ny
      exact ⟨M', n', D', F', k1, k2, k3, k4, fun q c1 c2 c3 => (k5 q c1 c2 c3).trans (a7 q c1 c2 c3)⟩
theorem QI.dst {s : hs} {x : Int} {G : Nat → Prop} {n : Nat} {D : Nat → Int} {F : Nat → Nat} (h : QI s x G n 0 n D F) : Dst (rtE s x) (edE s x) D := by
  obtain ⟨h1, h2, h3, h4, h5, h6, h7, h8, h9, h10⟩ := h
  refine ⟨h1, h3, h4, fun v w q1 q2 => ?_, h10⟩
  obtain ⟨a, a1, a2⟩ := h5.2.1 v (by omega)
  rw [← a2] at q2 ⊢
  exact h8 a w a1 a1 q2
/-- what take lays down -/
def Tkn (M : xm) (s : hs) (D : Nat → Int) : Prop := ∃ (n : Nat) (F : Nat → Nat), (M 986 3).toInt = (n : Int) ∧ (M 986 4).toInt = sm (inD D (fun w => ((sSz s w : Nat) : Int))) 64 ∧ (M 986 5).toInt = slR s 6 + sm (inD D (slW s)) 64 ∧ M 986 6 = 1 ∧ dM 987 M = D ∧ (∀ a, a < n → (M 988 a).toInt = (F a : Int) ∧ F a < 64) ∧ FI n D F
theorem x_take {M : xm} {s : hs} {G e : Nat → Prop} {k : Nat} (h : RX 1 M s) (hi : In s G e k) {a : Int32} {x : Int} (ha : a.toInt = x) : ∃ M' D, f_X6_take 1 M a = some M' ∧ Dst (rtE s x) (edE s x) D ∧ (∀ w, D w ≠ -1 → G w) ∧ Tkn M' s D ∧ ∀ q, q ≠ 986 → q ≠ 987 → q ≠ 988 → M' q = M q := by
  obtain ⟨o, l, _, g, _⟩ := hi
  obtain ⟨M1, a1, a2⟩ := fill_raw (o := 987) (n := 64) (by omega) M (-1)
  have b1 : ∀ q, q ≠ 987 → M1 q = M q := fun q hq => by funext j; rw [a2, if_neg (by omega)]
  have b2 : ∀ w, w < 64 → M1 987 w = -1 := fun w hw => by rw [a2, if_pos ⟨rfl, hw⟩]
  have hb2 := b2
  let M2 := up2 (up2 (up2 (up2 M1 986 3 0) 986 4 0) 986 5 0) 986 6 1
  have c1 : ∀ q, q ≠ 986 → M2 q = M1 q := fun q hq => by show up2 (up2 (up2 (up2 M1 986 3 0) 986 4 0) 986 5 0) 986 6 1 q = M1 q; rw [up2_cell hq, up2_cell hq, up2_cell hq, up2_cell hq]
  have h2 : RX 1 M2 s := h.fr (fun q q1 q2 => (c1 q (by omega)).trans (b1 q (by omega)))
  have ri : RI s x 0 (dM 987 M2) := RI.start (fun w hw => by rw [c1 987 (by decide)]; exact b2 w hw)
  have dm : ∀ w, dM 987 M2 w = -1 := fun w => by
    unfold dM
    split
    · rename_i q; rw [c1 987 (by decide), b2 w q]; rfl
    · rfl
  have fi : FI 0 (dM 987 M2) (fun _ => 0) := ⟨fun a ha => by omega, fun w hw => absurd (dm w) hw, fun g' => by
    have e := sm_eq (f := inD (dM 987 M2) g') (g := fun _ => 0) 64 (fun i _ => by unfold inD; rw [if_pos (dm i)])
    rw [e, sm_const 0 64]; rfl⟩
  have qm : QM M2 s 0 (dM 987 M2) (fun _ => 0) (slR s 0) := by
    refine ⟨?_, ?_, ?_, ?_, rfl, fun a ha => by omega⟩
    · show (up2 (up2 (up2 (up2 M1 986 3 0) 986 4 0) 986 5 0) 986 6 1 986 3).toInt = 0
      rw [up2_ne (by omega), up2_ne (by omega), up2_ne (by omega), up2_same]; rfl
    · show (up2 (up2 (up2 (up2 M1 986 3 0) 986 4 0) 986 5 0) 986 6 1 986 4).toInt = 0
      rw [up2_ne (by omega), up2_ne (by omega), up2_same]; rfl
    · show (up2 (up2 (up2 (up2 M1 986 3 0) 986 4 0) 986 5 0) 986 6 1 986 5).toInt = 0
      rw [up2_ne (by omega), up2_same]; rfl
    · show up2 (up2 (up2 (up2 M1 986 3 0) 986 4 0) 986 5 0) 986 6 1 986 6 = 1
      rw [up2_same]
  obtain ⟨M3, n3, D3, F3, d1, d2, d3, d4, d5, d6, d7⟩ := x_t30 o g ha 6 0 xfuel M2 0 0 _ _ h2 ri fi (fun w hw => absurd (dm w) hw) qm (by omega) (by unfold xfuel; omega) rfl
  have D0 : ∀ a, a < n3 → D3 (F3 a) = 0 := fun a ha => by have := d4.1 a ha; have := d3.1 (F3 a); omega
  have qi : QI s x G 0 0 n3 D3 F3 := ⟨fun w => by have := d3.1 w; omega, d5, fun w q => (d3.2 w).mpr q, fun w q => (d3.2 w).mp q, d4, fun a b q1 q2 => by rw [D0 a (by omega), D0 b q2]; omega, fun q b q2 => by rw [D0 b q2, D0 0 q]; omega, fun a w q => by omega, fun _ k w k1 k2 => by omega, fun w q => by have := d3.1 w; omega⟩
  have st0 : stS s F3 0 0 = slR s 6 := by
    have e1 : sm (fun a => slW s (F3 a)) 0 = 0 := rfl
    have e2 : slF s (F3 0) 0 = 0 := rfl
    unfold stS; rw [e1, e2]; omega
  rw [← st0] at d6
  obtain ⟨M4, n4, D4, F4, e1, e2, e3, e4, e5⟩ := x_t57 o l g ha 64 0 xfuel M3 0 n3 D3 F3 d2 (by omega) qi d6 (by omega) (by unfold xfuel; omega) rfl
  have FI4 := e3.2.2.2.2.1
  refine ⟨M4, D4, ?_, e3.dst, e3.2.1, ⟨n4, F4, e4.1, ?_, ?_, e4.2.2.2.1, e4.2.2.2.2.1, fun a ha => ⟨e4.2.2.2.2.2 a ha, (g.1 _ (e3.2.1 _ (by have := FI4.1 a ha; omega))).1⟩, FI4⟩, fun q q1 q2 q3 => (((e5 q q1 q2 q3).trans (d7 q q1 q2 q3)).trans (c1 q q1)).trans (b1 q q2)⟩
  · unfold f_X6_take
    rw [show (986 + 1 : Nat) = 987 from rfl, a1, xb1_some]
    simp only [xlet_eq]
    rw [show g_X6_take_30 1 a xfuel (up2 (up2 (up2 (up2 M1 986 3 0) 986 4 0) 986 5 0) 986 6 1) 0 = some M3 from d1, xb1_some, e1, xb1_some]
  · rw [e4.2.1]; exact FI4.2.2 (fun w => ((sSz s w : Nat) : Int))
  · rw [e4.2.2.1]
    have e6 : slF s (F4 n4) 0 = 0 := rfl
    unfold stS
    rw [e6, FI4.2.2 (slW s)]; omega
/-- both of them: one picture of the distances -/
def Pic (MX MY MX' MY' : xm) (s : hs) (D : Nat → Int) (x : Int) : Prop := Tkn MX' s D ∧ dM 10 MY' = D ∧ (∀ w, D w ≠ -1 → w < 64 ∧ 1000 ≤ s 1 w ∧ s 7 (w / 8) ≠ 0 ∧ (∀ j : Nat, 1 ≤ j → (j : Int) ≤ s 1 w - 1000 → (-1 ≤ s 1 (w + j) ∧ s 1 (w + j) ≤ 191) ∧ (s 1 (w + j) ≠ -1 → 1000 ≤ s 1 (sWh s (s 1 (w + j))) ∧ sWh s (s 1 (w + j)) < 64 ∧ s 7 (sWh s (s 1 (w + j)) / 8) ≠ 0 ∧ ((sWh s (s 1 (w + j)) : Int) ≠ x → D (sWh s (s 1 (w + j))) ≠ -1)))) ∧ (∀ r, r < 6 → (-1 ≤ s 8 r ∧ s 8 r ≤ 191) ∧ (s 8 r ≠ -1 → 1000 ≤ s 1 (sWh s (s 8 r)) ∧ sWh s (s 8 r) < 64 ∧ s 7 (sWh s (s 8 r) / 8) ≠ 0)) ∧ RX 1 MX' s ∧ RY MY' s ∧ Dst (rtE s x) (edE s x) D ∧ (∀ q, q ≠ 986 → q ≠ 987 → q ≠ 988 → MX' q = MX q) ∧ ∀ q, q ≠ 10 → MY' q = MY q
theorem both_take {MX MY : xm} {s : hs} (h : RX 1 MX s) (hy : RY MY s) (ho : Inv s) {a : Int32} {x : Int} (ha : a.toInt = x) : ∃ MX' MY' D, f_X6_take 1 MX a = some MX' ∧ f_X10_layLoads MY a = some MY' ∧ Pic MX MY MX' MY' s D x := by
  obtain ⟨G, hi⟩ := ho
  obtain ⟨MX', D, a1, a2, a3, a4, a5⟩ := x_take h hi ha
  obtain ⟨MY', b1, b2, b3, b4⟩ := y_layLoads hy hi ha
  have g := hi.2.2.2.1
  refine ⟨MX', MY', D, a1, b1, a4, funext (fun w => b2.one a2 w), fun w hw => ?_, fun r hr => ?_, h.fr (fun q _ _ => a5 q (by omega) (by omega) (by omega)), by show RYr _ s; rw [b4 1 (by decide)]; exact hy, a2, a5, b4⟩
  · have gw := a3 w hw
    refine ⟨(g.1 w gw).1, (g.1 w gw).2.1, (g.1 w gw).2.2, fun j j1 j2 => ?_⟩
    have := (g.2.2.1 w gw j j1 j2).at g.1
    refine ⟨this.1, fun q => ⟨(this.2 q).2.1, (this.2 q).2.2.1, (this.2 q).2.2.2, fun t => ?_⟩⟩
    have := a2.2.2.2.1 w (sWh s (s 1 (w + j))) (by have := a2.1 w; omega) ⟨j, ⟨j1, j2⟩, q, rfl, t⟩
    omega
  · have := (g.2.1 r hr).at g.1
    exact ⟨this.1, fun q => ⟨(this.2 q).2.1, (this.2 q).2.2.1, (this.2 q).2.2.2⟩⟩
