/-! layLoads: layer by layer -/
def dM (c : Nat) (M : xm) (w : Nat) : Int := if w < 64 then (M c w).toInt else -1
theorem dM_lt {c : Nat} {M : xm} {w : Nat} (h : w < 64) : dM c M w = (M c w).toInt := if_pos h
theorem dM_fr {c : Nat} {M M' : xm} (h : M' c = M c) : dM c M' = dM c M := by
  funext w; unfold dM; rw [h]
theorem dM_up {c : Nat} {M : xm} {w : Nat} {b : Int32} {d : Int} (hw : w < 64) (hb : b.toInt = d) : dM c (up2 M c w b) = upD (dM c M) w d := by
  funext i
  unfold dM upD
  rw [up2_row]
  by_cases c1 : i = w
  · rw [if_pos c1, if_pos c1, if_pos (by omega), hb]
  · rw [if_neg c1, if_neg c1]
theorem dM_n1 {c : Nat} {M : xm} {w : Nat} (hw : w < 64) : M c w = -1 ↔ dM c M w = -1 := by
  rw [dM_lt hw, i_eq]; rfl
theorem ptr.at {s : hs} {G : Nat → Prop} (g1 : G1 s G) {p : Int} (h : ptr s G p) : (-1 ≤ p ∧ p ≤ 191) ∧ (p ≠ -1 → G (sWh s p) ∧ 1000 ≤ s 1 (sWh s p) ∧ sWh s p < 64 ∧ s 7 (sWh s p / 8) ≠ 0) := by
  rcases h with h | ⟨h1, h2⟩
  · exact ⟨by omega, fun c => absurd h c⟩
  · have := g1 _ h2
    have h3 := h1.1
    exact ⟨by omega, fun _ => ⟨h2, this.2.1, this.1, this.2.2⟩⟩
theorem La1.in64 {s : hs} (o : Ok s) (l1 : La1 s) {v j : Nat} (hv : v < 64) (hh : 1000 ≤ s 1 v) (hj : (j : Int) ≤ s 1 v - 1000) : v + j < 64 := by
  have a := l1 v hv hh
  have b := o.u (show v / 8 < 8 by omega)
  omega
/-- how many places: every number below n is somewhere below m -/
theorem pigeon : ∀ (m n : Nat) (D : Nat → Int), (∀ k : Nat, k < n → ∃ w, w < m ∧ D w = k) → n ≤ m := by
  intro m
  induction m with
  | zero =>
    intro n D h
    rcases Nat.eq_zero_or_pos n with q | q
    · omega
    · obtain ⟨w, w1, _⟩ := h 0 q
      omega
  | succ m ih =>
    intro n D h
    rcases Nat.eq_zero_or_pos n with q | q
    · omega
    · by_cases c : ∃ j : Nat, j < n ∧ D m = j
      · obtain ⟨j, j1, j2⟩ := c
        have := ih (n - 1) (fun w => if D w = ((n - 1 : Nat) : Int) then (j : Int) else D w) (fun k hk => ?_)
        · omega
        · by_cases ck : k = j
          · obtain ⟨w, w1, w2⟩ := h (n - 1) (by omega)
            have : w ≠ m := fun e => by rw [e, j2] at w2; omega
            exact ⟨w, by omega, by show (if D w = ((n - 1 : Nat) : Int) then (j : Int) else D w) = k; rw [if_pos w2, ck]⟩
          · obtain ⟨w, w1, w2⟩ := h k (by omega)
            have : w ≠ m := fun e => by rw [e, j2] at w2; omega
            exact ⟨w, by omega, by show (if D w = ((n - 1 : Nat) : Int) then (j : Int) else D w) = k; rw [if_neg (by rw [w2]; omega), w2]⟩
      · have := ih n D (fun k hk => ?_)
        · omega
        · obtain ⟨w, w1, w2⟩ := h k hk
          have : w ≠ m := fun e => c ⟨k, hk, by rw [← e]; exact w2⟩
          exact ⟨w, by omega, w2⟩
theorem y_l69 {s : hs} {G e : Nat → Prop} (o : Ok s) (l : Lay s) (g : Gc s G e) {x d v : Int32} {xi : Int} {dn vn : Nat} (hx : x.toInt = xi) (hd : d.toInt = (dn : Int)) (hdn : dn < 64) (hv : v.toInt = (vn : Int)) (hvn : vn < 64) : ∀ (k j f : Nat) (M : xm) (y : Int32), RY M s → LI s xi G dn vn j (dM 10 M) → 1 ≤ j → j + k = 4 → k < f → y.toInt = (j : Int) → ∃ M', g_X10_layLoads_69 x d v f M y = some M' ∧ LI s xi G dn (vn + 1) 1 (dM 10 M') ∧ ∀ q, q ≠ 10 → M' q = M q := by
  intro k
  induction k with
  | zero =>
    intro j f M y h hl hj hk hf hy
    obtain ⟨f, rfl⟩ : ∃ q, f = q + 1 := ⟨f - 1, by omega⟩
    obtain ⟨r, r1, r2⟩ := y_fieldsOf h o hv hvn
    have := o.w hvn
    unfold g_X10_layLoads_69
    rw [if_pos (i_in hv hvn), i_ix hv]
    by_cases c : M 10 vn = d
    · rw [if_pos c, r1, xb1_some, if_pos (by rw [i_lt, r2, hy]; omega)]
      exact ⟨M, rfl, hl.next (fun _ => by omega), fun _ _ => rfl⟩
    · rw [if_neg c]
      exact ⟨M, rfl, hl.next (fun q => absurd (by rw [i_eq, hd, ← q, dM_lt hvn]) c), fun _ _ => rfl⟩
  | succ k ih =>
    intro j f M y h hl hj hk hf hy
    obtain ⟨f, rfl⟩ : ∃ q, f = q + 1 := ⟨f - 1, by omega⟩
    obtain ⟨r, r1, r2⟩ := y_fieldsOf h o hv hvn
    have := o.w hvn
    unfold g_X10_layLoads_69
    rw [if_pos (i_in hv hvn), i_ix hv]
    by_cases c : M 10 vn = d
    · have cD : dM 10 M vn = dn := by rw [dM_lt hvn, c, hd]
      rw [if_pos c, r1, xb1_some]
      by_cases c2 : s 1 vn - 1000 < j
      · rw [if_pos (by rw [i_lt, r2, hy]; exact c2)]
        exact ⟨M, rfl, hl.next (fun _ => c2), fun _ _ => rfl⟩
      · rw [if_neg (by rw [i_lt, r2, hy]; exact c2)]
        have gv : G vn := hl.2.1 vn (by rw [cD]; omega)
        have hh := (g.1 vn gv).2.1
        have hw := l.1.in64 o hvn hh (j := j) (by omega)
        have a1 := i_bx 41 (b := 41) rfl hv (by omega)
        have a2 := i_bx (41 + vn) a1 hy (by omega)
        have hp := (g.2.2.1 vn gv j hj (by omega)).at g.1
        have hM : (M 1 (41 + vn + j)).toInt = s 1 (vn + j) := by rw [Nat.add_assoc]; exact h.w hw
        have ny : (y + 1).toInt = ((j + 1 : Nat) : Int) := by rw [i_add hy (b := 1) rfl (by omega) (by omega)]; omega
        have nd : (d + 1).toInt = (dn : Int) + 1 := by rw [i_add hd (b := 1) rfl (by omega) (by omega)]
        rw [if_pos (i_in a2 (by omega)), i_ix a2, y_comeTo h o hM hp.1 (fun q => ⟨(hp.2 q).2.1, (hp.2 q).2.2.1⟩), xb1_some, xlet_eq]
        by_cases c3 : s 1 (vn + j) ≠ -1 ∧ (sWh s (s 1 (vn + j)) : Int) ≠ x.toInt ∧ M 10 (sWh s (s 1 (vn + j))) = -1
        · rw [if_pos c3]
          have hw64 := (hp.2 c3.1).2.2.1
          have e := dM_up (c := 10) (M := M) (b := d + 1) hw64 nd
          have cc : dM 10 M (sWh s (s 1 (vn + j))) = -1 := (dM_n1 hw64).mp c3.2.2
          obtain ⟨M', k1, k2, k3⟩ := ih (j + 1) f (up2 M 10 (sWh s (s 1 (vn + j))) (d + 1)) (y + 1) (by show RYr _ s; rw [up2_cell (by decide)]; exact h) (by rw [e]; exact hl.put (by omega) cD ⟨hj, by omega⟩ c3.1 (by rw [← hx]; exact c3.2.1) cc (hp.2 c3.1).1) (by omega) (by omega) (by omega) ny
          exact ⟨M', k1, k2, fun q hq => (k3 q hq).trans (up2_cell hq)⟩
        · rw [if_neg c3]
          refine ih (j + 1) f M (y + 1) h (hl.keep (fun q1 q2 => ?_)) (by omega) (by omega) (by omega) ny
          have := hl.1 (sWh s (s 1 (vn + j)))
          have : dM 10 M (sWh s (s 1 (vn + j))) ≠ -1 := fun q => c3 ⟨q1, by rw [hx]; exact q2, (dM_n1 (hp.2 q1).2.2.1).mpr q⟩
          omega
    · rw [if_neg c]
      exact ⟨M, rfl, hl.next (fun q => absurd (by rw [i_eq, hd, ← q, dM_lt hvn]) c), fun _ _ => rfl⟩
theorem y_l60 {s : hs} {G e : Nat → Prop} (o : Ok s) (l : Lay s) (g : Gc s G e) {x d : Int32} {xi : Int} {dn : Nat} (hx : x.toInt = xi) (hd : d.toInt = (dn : Int)) (hdn : dn < 64) : ∀ (k v f : Nat) (M : xm) (y : Int32), RY M s → LI s xi G dn v 1 (dM 10 M) → v + k = 64 → k < f → y.toInt = (v : Int) → ∃ M', g_X10_layLoads_60 x d f M y = some M' ∧ LI s xi G dn 64 1 (dM 10 M') ∧ ∀ q, q ≠ 10 → M' q = M q := by
  intro k
  induction k with
  | zero =>
    intro v f M y h hl hk hf hy
    obtain ⟨f, rfl⟩ : ∃ q, f = q + 1 := ⟨f - 1, by omega⟩
    unfold g_X10_layLoads_60
    rw [if_pos (by rw [i_le, hy]; simp only [Int32.reduceToInt]; omega)]
    exact ⟨M, rfl, by rw [show (64 : Nat) = v by omega]; exact hl, fun _ _ => rfl⟩
  | succ k ih =>
    intro v f M y h hl hk hf hy
    obtain ⟨f, rfl⟩ : ∃ q, f = q + 1 := ⟨f - 1, by omega⟩
    unfold g_X10_layLoads_60
    rw [if_neg (by rw [i_le, hy]; simp only [Int32.reduceToInt]; omega)]
    obtain ⟨M1, a1, a2, a3⟩ := y_l69 o l g hx hd hdn hy (show v < 64 by omega) 3 1 xfuel M 1 h hl (by omega) (by omega) (by unfold xfuel; omega) rfl
    rw [a1, xb1_some, xlet_eq]
    obtain ⟨M', k1, k2, k3⟩ := ih (v + 1) f M1 (y + 1) (by show RYr _ s; rw [a3 1 (by decide)]; exact h) a2 (by omega) (by omega) (by rw [i_add hy (b := 1) rfl (by omega) (by omega)]; omega)
    exact ⟨M', k1, k2, fun q hq => (k3 q hq).trans (a3 q hq)⟩
theorem y_l52 {s : hs} {G e : Nat → Prop} (o : Ok s) (l : Lay s) (g : Gc s G e) {x : Int32} {xi : Int} (hx : x.toInt = xi) : ∀ (k n f : Nat) (M : xm) (y : Int32), RY M s → LI s xi G n 0 1 (dM 10 M) → n + k = 64 → k < f → y.toInt = (n : Int) → ∃ M', g_X10_layLoads_52 x f M y = some M' ∧ LI s xi G 64 0 1 (dM 10 M') ∧ ∀ q, q ≠ 10 → M' q = M q := by
  intro k
  induction k with
  | zero =>
    intro v f M y h hl hk hf hy
    obtain ⟨f, rfl⟩ : ∃ q, f = q + 1 := ⟨f - 1, by omega⟩
    unfold g_X10_layLoads_52
    rw [if_pos (by rw [i_le, hy]; simp only [Int32.reduceToInt]; omega)]
    have e : v = 64 := by omega
    subst e
    exact ⟨M, rfl, hl, fun _ _ => rfl⟩
  | succ k ih =>
    intro v f M y h hl hk hf hy
    obtain ⟨f, rfl⟩ : ∃ q, f = q + 1 := ⟨f - 1, by omega⟩
    unfold g_X10_layLoads_52
    rw [if_neg (by rw [i_le, hy]; simp only [Int32.reduceToInt]; omega)]
    obtain ⟨M1, a1, a2, a3⟩ := y_l60 o l g hx hy (show v < 64 by omega) 64 0 xfuel M 0 h hl (by omega) (by unfold xfuel; omega) rfl
    rw [a1, xb1_some, xlet_eq]
    obtain ⟨M', k1, k2, k3⟩ := ih (v + 1) f M1 (y + 1) (by show RYr _ s; rw [a3 1 (by decide)]; exact h) (by have := a2.layer (by omega) g.1; exact this) (by omega) (by omega) (by rw [i_add hy (b := 1) rfl (by omega) (by omega)]; omega)
    exact ⟨M', k1, k2, fun q hq => (k3 q hq).trans (a3 q hq)⟩
theorem LI.dst {s : hs} {x : Int} {G : Nat → Prop} (g1 : G1 s G) {D : Nat → Int} (h : LI s x G 64 0 1 D) : Dst (rtE s x) (edE s x) D ∧ (∀ w, D w ≠ -1 → G w) ∧ ∀ w, D w ≤ 63 := by
  obtain ⟨h1, h2, h3, h4, h5, h6, h7, h8⟩ := h
  have down : ∀ (t k : Nat), (∃ w, D w = ((k + t : Nat) : Int)) → ∃ w, D w = (k : Int) := by
    intro t
    induction t with
    | zero => intro k q; exact q
    | succ t ih =>
      intro k ⟨w, hw⟩
      obtain ⟨u, u1, _⟩ := h8 w (by omega)
      exact ih k ⟨u, by rw [u1, hw]; omega⟩
  have top : ∀ w, D w ≤ 63 := by
    intro w
    by_cases c : 0 ≤ D w
    · have := pigeon 64 ((D w).toNat + 1) D (fun k hk => ?_)
      · omega
      · obtain ⟨w', hw'⟩ := down ((D w).toNat - k) k ⟨w, by omega⟩
        exact ⟨w', (g1 w' (h2 w' (by omega))).1, hw'⟩
    · omega
  exact ⟨⟨fun w => (h1 w).1, h3, h4, fun v w q1 q2 => h5 v w q1 (by have := top v; omega) q2, h8⟩, h2, top⟩
def rtK (s : hs) (x : Int) (k w : Nat) : Prop := ∃ r, r < k ∧ s 8 r ≠ -1 ∧ sWh s (s 8 r) = w ∧ (w : Int) ≠ x
def RI (s : hs) (x : Int) (k : Nat) (D : Nat → Int) : Prop := (∀ w, D w = 0 ∨ D w = -1) ∧ ∀ w, D w = 0 ↔ rtK s x k w
theorem RI.put {s : hs} {x : Int} {k : Nat} {D : Nat → Int} (h : RI s x k D) (hp : s 8 k ≠ -1) (hx : (sWh s (s 8 k) : Int) ≠ x) : RI s x (k + 1) (upD D (sWh s (s 8 k)) 0) := by
  refine ⟨fun w => ?_, fun w => ?_⟩
  · unfold upD
    split
    · exact Or.inl rfl
    · exact h.1 w
  · unfold upD
    by_cases c : w = sWh s (s 8 k)
    · rw [if_pos c]
      exact ⟨fun _ => ⟨k, by omega, hp, c.symm, by rw [c]; exact hx⟩, fun _ => rfl⟩
    · rw [if_neg c, h.2 w]
      constructor
      · rintro ⟨r, r1, r2⟩; exact ⟨r, by omega, r2⟩
      · rintro ⟨r, r1, r2, r3, r4⟩
        have : r ≠ k := fun e => c (by rw [← r3, e])
        exact ⟨r, by omega, r2, r3, r4⟩
theorem RI.keep {s : hs} {x : Int} {k : Nat} {D : Nat → Int} (h : RI s x k D) (hk : s 8 k ≠ -1 → (sWh s (s 8 k) : Int) ≠ x → D (sWh s (s 8 k)) = 0) : RI s x (k + 1) D := by
  refine ⟨h.1, fun w => ?_⟩
  constructor
  · intro q
    obtain ⟨r, r1, r2⟩ := (h.2 w).mp q
    exact ⟨r, by omega, r2⟩
  · rintro ⟨r, r1, r2, r3, r4⟩
    by_cases e : r = k
    · subst e
      rw [← r3]; exact hk r2 (by rw [r3]; exact r4)
    · exact (h.2 w).mpr ⟨r, by omega, r2, r3, r4⟩
theorem y_l2 {x : Int32} : ∀ (k n f : Nat) (M : xm) (y : Int32), (∀ w, w < n → M 10 w = -1) → n + k = 64 → k < f → y.toInt = (n : Int) → ∃ M', g_X10_layLoads_2 x f M y = some M' ∧ (∀ w, w < 64 → M' 10 w = -1) ∧ ∀ q, q ≠ 10 → M' q = M q := by
  intro k
  induction k with
  | zero =>
    intro v f M y h hk hf hy
    obtain ⟨f, rfl⟩ : ∃ q, f = q + 1 := ⟨f - 1, by omega⟩
    unfold g_X10_layLoads_2
    rw [if_pos (by rw [i_le, hy]; simp only [Int32.reduceToInt]; omega)]
    exact ⟨M, rfl, fun w hw => h w (by omega), fun _ _ => rfl⟩
  | succ k ih =>
    intro v f M y h hk hf hy
    obtain ⟨f, rfl⟩ : ∃ q, f = q + 1 := ⟨f - 1, by omega⟩
    unfold g_X10_layLoads_2
    rw [if_neg (by rw [i_le, hy]; simp only [Int32.reduceToInt]; omega), if_pos (i_in hy (by omega)), i_ix hy, xlet_eq, xlet_eq]
    obtain ⟨M', k1, k2, k3⟩ := ih (v + 1) f (up2 M 10 v (-1)) (y + 1) (fun w hw => by
      rw [up2_row]
      split
      · rfl
      · exact h w (by omega)) (by omega) (by omega) (by rw [i_add hy (b := 1) rfl (by omega) (by omega)]; omega)
    exact ⟨M', k1, k2, fun q hq => (k3 q hq).trans (up2_cell hq)⟩
theorem y_l23 {s : hs} {G e : Nat → Prop} (o : Ok s) (g : Gc s G e) {x : Int32} {xi : Int} (hx : x.toInt = xi) : ∀ (k n f : Nat) (M : xm) (y : Int32), RY M s → RI s xi n (dM 10 M) → n + k = 6 → k < f → y.toInt = (n : Int) → ∃ M', g_X10_layLoads_23 x f M y = some M' ∧ RI s xi 6 (dM 10 M') ∧ ∀ q, q ≠ 10 → M' q = M q := by
  intro k
  induction k with
  | zero =>
    intro v f M y h hl hk hf hy
    obtain ⟨f, rfl⟩ : ∃ q, f = q + 1 := ⟨f - 1, by omega⟩
    unfold g_X10_layLoads_23
    rw [if_pos (by rw [i_le, hy]; simp only [Int32.reduceToInt]; omega)]
    have e : v = 6 := by omega
    subst e
    exact ⟨M, rfl, hl, fun _ _ => rfl⟩
  | succ k ih =>
    intro v f M y h hl hk hf hy
    obtain ⟨f, rfl⟩ : ∃ q, f = q + 1 := ⟨f - 1, by omega⟩
    have a1 := i_bx 29 (b := 29) rfl hy (by omega)
    have hp := (g.2.1 v (by omega)).at g.1
    have ny : (y + 1).toInt = ((v + 1 : Nat) : Int) := by rw [i_add hy (b := 1) rfl (by omega) (by omega)]; omega
    unfold g_X10_layLoads_23
    rw [if_neg (by rw [i_le, hy]; simp only [Int32.reduceToInt]; omega), if_pos (i_in a1 (by omega)), i_ix a1, y_comeTo h o (h.r (show v < 6 by omega)) hp.1 (fun q => ⟨(hp.2 q).2.1, (hp.2 q).2.2.1⟩), xb1_some, xlet_eq]
    by_cases c3 : s 8 v ≠ -1 ∧ (sWh s (s 8 v) : Int) ≠ x.toInt ∧ M 10 (sWh s (s 8 v)) = -1
    · rw [if_pos c3]
      have e := dM_up (c := 10) (M := M) (b := 0) (d := 0) (hp.2 c3.1).2.2.1 rfl
      obtain ⟨M', k1, k2, k3⟩ := ih (v + 1) f (up2 M 10 (sWh s (s 8 v)) 0) (y + 1) (by show RYr _ s; rw [up2_cell (by decide)]; exact h) (by rw [e]; exact hl.put c3.1 (by rw [← hx]; exact c3.2.1)) (by omega) (by omega) ny
      exact ⟨M', k1, k2, fun q hq => (k3 q hq).trans (up2_cell hq)⟩
    · rw [if_neg c3]
      refine ih (v + 1) f M (y + 1) h (hl.keep (fun q1 q2 => ?_)) (by omega) (by omega) ny
      have : dM 10 M (sWh s (s 8 v)) ≠ -1 := fun q => c3 ⟨q1, by rw [hx]; exact q2, (dM_n1 (hp.2 q1).2.2.1).mpr q⟩
      have := hl.1 (sWh s (s 8 v))
      omega
theorem RI.start {s : hs} {x : Int} {c : Nat} {M : xm} (h : ∀ w, w < 64 → M c w = -1) : RI s x 0 (dM c M) := by
  have e : ∀ w, dM c M w = -1 := fun w => by
    unfold dM
    split
    · rename_i q; rw [h w q]; rfl
    · rfl
  refine ⟨fun w => Or.inr (e w), fun w => ?_⟩
  rw [e w]
  constructor
  · intro q; omega
  · rintro ⟨r, r1, _⟩; omega
theorem y_layLoads {M : xm} {s : hs} {G e : Nat → Prop} {k : Nat} (h : RY M s) (hi : In s G e k) {a : Int32} {x : Int} (ha : a.toInt = x) : ∃ M', f_X10_layLoads M a = some M' ∧ Dst (rtE s x) (edE s x) (dM 10 M') ∧ (∀ w, dM 10 M' w ≠ -1 → G w) ∧ ∀ q, q ≠ 10 → M' q = M q := by
  obtain ⟨o, l, _, g, _⟩ := hi
  obtain ⟨M1, a1, a2, a3⟩ := y_l2 (x := a) 64 0 xfuel M 0 (fun w hw => by omega) (by omega) (by unfold xfuel; omega) rfl
  obtain ⟨M2, b1, b2, b3⟩ := y_l23 o g ha 6 0 xfuel M1 0 (by show RYr _ s; rw [a3 1 (by decide)]; exact h) (RI.start a2) (by omega) (by unfold xfuel; omega) rfl
  have gD : ∀ w, dM 10 M2 w ≠ -1 → G w := fun w hw => by
    obtain ⟨r, r1, r2, r3, _⟩ := (b2.2 w).mp (by have := b2.1 w; omega)
    rw [← r3]
    exact (((g.2.1 r (by omega)).at g.1).2 r2).1
  have h2 : RY M2 s := by show RYr _ s; rw [b3 1 (by decide), a3 1 (by decide)]; exact h
  obtain ⟨M3, c1, c2, c3⟩ := y_l52 o l g ha 64 0 xfuel M2 0 h2 ⟨fun w => by have := b2.1 w; omega, gD, fun w q => (b2.2 w).mpr q, fun w q => (b2.2 w).mp q, fun u w q1 q2 => by omega, fun u w q => by omega, fun i w i1 i2 => by omega, fun w q => by have := b2.1 w; omega⟩ (by omega) (by unfold xfuel; omega) rfl
  refine ⟨M3, ?_, (c2.dst g.1).1, (c2.dst g.1).2.1, fun q hq => ((c3 q hq).trans (b3 q hq)).trans (a3 q hq)⟩
  unfold f_X10_layLoads
  rw [a1, xb1_some, b1, xb1_some, c1, xb1_some]
