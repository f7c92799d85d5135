/-! Survey.take: by a queue -/
def upF (F : Nat → Nat) (n w : Nat) : Nat → Nat := fun i => if i = n then w else F i
def slP (s : hs) (p : Int) : Int := if p = -1 ∨ p / 64 = s 0 15 then 0 else 1
def nfS (s : hs) (w : Nat) : Nat := (s 1 w - 1000).toNat
def slF (s : hs) (w j : Nat) : Int := sm (fun k => slP s (s 1 (w + 1 + k))) j
def slW (s : hs) (w : Nat) : Int := slF s w (nfS s w)
def slR (s : hs) (k : Nat) : Int := sm (fun r => slP s (s 8 r)) k
def inD (D : Nat → Int) (g : Nat → Int) (w : Nat) : Int := if D w = -1 then 0 else g w
/-- what is found: row and distances are of one -/
def FI (n : Nat) (D : Nat → Int) (F : Nat → Nat) : Prop := (∀ a, a < n → 0 ≤ D (F a)) ∧ (∀ w, D w ≠ -1 → ∃ a, a < n ∧ F a = w) ∧ ∀ g : Nat → Int, sm (fun a => g (F a)) n = sm (inD D g) 64
theorem slP_01 (s : hs) (p : Int) : 0 ≤ slP s p ∧ slP s p ≤ 1 := by
  unfold slP; split <;> omega
theorem sm_01 {f : Nat → Int} {z : Int} : ∀ n : Nat, (∀ i, i < n → 0 ≤ f i ∧ f i ≤ z) → 0 ≤ sm f n ∧ sm f n ≤ n * z := by
  intro n
  induction n with
  | zero => intro _; rw [sm]; omega
  | succ n ih =>
    intro h
    have a := ih (fun i hi => h i (by omega))
    have b := h n (by omega)
    have e : ((n + 1 : Nat) : Int) * z = n * z + z := by rw [Int.natCast_add, Int.add_mul]; omega
    rw [sm]
    omega
theorem FI.put {n : Nat} {D : Nat → Int} {F : Nat → Nat} (h : FI n D F) {w : Nat} {d : Int} (hw : w < 64) (hD : D w = -1) (hd : 0 ≤ d) : FI (n + 1) (upD D w d) (upF F n w) := by
  obtain ⟨h1, h2, h3⟩ := h
  have ne : ∀ a, a < n → F a ≠ w := fun a ha e => by have := h1 a ha; rw [e, hD] at this; omega
  refine ⟨fun a ha => ?_, fun v hv => ?_, fun g => ?_⟩
  · unfold upF upD
    by_cases c : a = n
    · rw [if_pos c, if_pos rfl]; exact hd
    · rw [if_neg c, if_neg (ne a (by omega))]; exact h1 a (by omega)
  · unfold upF
    by_cases c : v = w
    · exact ⟨n, by omega, by rw [if_pos rfl, c]⟩
    · have : D v ≠ -1 := by unfold upD at hv; rw [if_neg c] at hv; exact hv
      obtain ⟨a, a1, a2⟩ := h2 v this
      exact ⟨a, by omega, by rw [if_neg (by omega)]; exact a2⟩
  · have e1 : sm (fun a => g (upF F n w a)) (n + 1) = sm (fun a => g (upF F n w a)) n + g (upF F n w n) := rfl
    have e2 : sm (fun a => g (upF F n w a)) n = sm (fun a => g (F a)) n := sm_eq n (fun i hi => by show g (upF F n w i) = g (F i); unfold upF; rw [if_neg (by omega)])
    have e3 : sm (inD (upD D w d) g) 64 = sm (inD D g) 64 + if w < 64 then g w else 0 := sm_up (fun i hi => by unfold inD upD; rw [if_neg hi]) (by unfold inD upD; rw [if_pos rfl, if_neg (by omega), if_pos hD]; omega) 64
    rw [e1, e2, e3, h3 g, if_pos hw]
    unfold upF
    rw [if_pos rfl]
theorem FI.n {n : Nat} {D : Nat → Int} {F : Nat → Nat} (h : FI n D F) : n ≤ 64 ∧ ∀ w, w < 64 → D w = -1 → n < 64 := by
  have e := h.2.2 (fun _ => 1)
  rw [sm_const] at e
  have a := sm_01 (f := inD D (fun _ => 1)) (z := 1) 64 (fun i _ => by unfold inD; split <;> simp)
  refine ⟨by omega, fun w hw hD => ?_⟩
  have := sm_room (f := inD D (fun _ => 1)) (n := 64) (fun i _ => by unfold inD; split <;> simp) hw (by unfold inD; rw [if_pos hD])
  omega
/-- the class's memory of it -/
def QM (M : xm) (s : hs) (n : Nat) (D : Nat → Int) (F : Nat → Nat) (st : Int) : Prop := (M 986 3).toInt = (n : Int) ∧ (M 986 4).toInt = sm (fun a => ((sSz s (F a) : Nat) : Int)) n ∧ (M 986 5).toInt = st ∧ M 986 6 = 1 ∧ dM 987 M = D ∧ ∀ a, a < n → (M 988 a).toInt = (F a : Int)
theorem sSz_le {s : hs} (o : Ok s) {w : Nat} (hw : w < 64) : sSz s w ≤ 4 := by
  have := o.w hw
  unfold sSz
  split <;> omega
theorem fol_step {M : xm} {s : hs} {G : Nat → Prop} (h : RX 1 M s) (o : Ok s) (g1 : G1 s G) {a b c : Int32} {p x d st : Int} {n : Nat} {D : Nat → Int} {F : Nat → Nat} (ha : a.toInt = p) (hp : ptr s G p) (hb : b.toInt = d) (hd : 0 ≤ d) (hc : c.toInt = x) (hf : FI n D F) (hG : ∀ w, D w ≠ -1 → G w) (hq : QM M s n D F st) (hst : 0 ≤ st ∧ st ≤ 1000) : ∃ M', f_X6_follow 1 M a b c = some M' ∧ RX 1 M' s ∧ (∀ q, q ≠ 986 → q ≠ 987 → q ≠ 988 → M' q = M q) ∧ (((p ≠ -1 → (sWh s p : Int) ≠ x → D (sWh s p) ≠ -1) ∧ QM M' s n D F (st + slP s p)) ∨ (p ≠ -1 ∧ (sWh s p : Int) ≠ x ∧ D (sWh s p) = -1 ∧ G (sWh s p) ∧ FI (n + 1) (upD D (sWh s p) d) (upF F n (sWh s p)) ∧ QM M' s (n + 1) (upD D (sWh s p) d) (upF F n (sWh s p)) (st + slP s p))) := by
  obtain ⟨q1, q2, q3, q4, q5, q6⟩ := hq
  have hpa := hp.at g1
  have hn := hf.n
  have f64 : ∀ i, i < n → F i < 64 := fun i hi => (g1 _ (hG _ (by have := hf.1 i hi; omega))).1
  have wb := sm_01 (f := fun a => ((sSz s (F a) : Nat) : Int)) (z := 4) n (fun i hi => by have := sSz_le o (f64 i hi); show 0 ≤ ((sSz s (F i) : Nat) : Int) ∧ ((sSz s (F i) : Nat) : Int) ≤ 4; omega)
  obtain ⟨x1, x2⟩ := x_follow h o (b := b) (c := c) ha hpa.1 (fun q => (hpa.2 q).2) q1 (fun q r t => hn.2 _ (hpa.2 q).2.2.1 (by rw [← q5]; exact (dM_n1 (hpa.2 q).2.2.1).mp t))
  by_cases c0 : p = -1
  · refine ⟨M, x1 c0, h, fun _ _ _ _ => rfl, Or.inl ⟨fun q => absurd c0 q, q1, q2, ?_, q4, q5, q6⟩⟩
    unfold slP; rw [if_pos (Or.inl c0)]; omega
  · obtain ⟨v, w, v1, w1, r1⟩ := x2 c0
    obtain ⟨gw, _, w64, _⟩ := hpa.2 c0
    have vv : v.toInt = st + slP s p := by
      unfold slP
      by_cases cc : p / 64 = s 0 15
      · rw [v1, if_pos cc, if_pos (Or.inr cc), q3]; omega
      · rw [v1, if_neg cc, if_neg (by omega), i_add q3 (b := 1) rfl (by omega) (by omega)]
    have fr1 : ∀ v : Int32, ∀ q, q ≠ 986 → up2 M 986 5 v q = M q := fun v q hq => up2_cell hq
    by_cases cc : (sWh s p : Int) ≠ c.toInt ∧ M 987 (sWh s p) = -1
    · rw [if_pos cc] at r1
      have hD : D (sWh s p) = -1 := by rw [← q5]; exact (dM_n1 w64).mp cc.2
      refine ⟨_, r1, ?_, fun q a1 a2 a3 => by rw [up2_cell a1, up2_cell a1, up2_cell a3, up2_cell a2, up2_cell a1], Or.inr ⟨c0, by rw [← hc]; exact cc.1, hD, gw, hf.put w64 hD hd, ?_, ?_, ?_, ?_, ?_, ?_⟩⟩
      · exact h.fr (fun q a1 a2 => by rw [up2_cell (by omega), up2_cell (by omega), up2_cell (by omega), up2_cell (by omega), up2_cell (by omega)])
      · rw [up2_ne (by omega), up2_same, i_add q1 (b := 1) rfl (by omega) (by omega)]; omega
      · have e1 : sm (fun a => ((sSz s (upF F n (sWh s p) a) : Nat) : Int)) (n + 1) = sm (fun a => ((sSz s (upF F n (sWh s p) a) : Nat) : Int)) n + ((sSz s (upF F n (sWh s p) n) : Nat) : Int) := rfl
        have e2 : sm (fun a => ((sSz s (upF F n (sWh s p) a) : Nat) : Int)) n = sm (fun a => ((sSz s (F a) : Nat) : Int)) n := sm_eq n (fun i hi => by show ((sSz s (upF F n (sWh s p) i) : Nat) : Int) = ((sSz s (F i) : Nat) : Int); unfold upF; rw [if_neg (by omega)])
        have e3 : upF F n (sWh s p) n = sWh s p := by unfold upF; rw [if_pos rfl]
        have := sSz_le o w64
        rw [up2_same, i_add q2 w1 (by omega) (by omega), e1, e2, e3]
      · rw [up2_ne (by omega), up2_ne (by omega), up2_ne (by omega), up2_ne (by omega), up2_same]; exact vv
      · rw [up2_ne (by omega), up2_ne (by omega), up2_ne (by omega), up2_ne (by omega), up2_ne (by omega)]; exact q4
      · have e : dM 987 (up2 (up2 (up2 (up2 (up2 M 986 5 v) 987 (sWh s p) b) 988 n (nI (sWh s p))) 986 3 (M 986 3 + 1)) 986 4 (M 986 4 + w)) = dM 987 (up2 (up2 M 986 5 v) 987 (sWh s p) b) := dM_fr (by rw [up2_cell (by decide), up2_cell (by decide), up2_cell (by decide)])
        rw [e, dM_up w64 hb, dM_fr (M := M) (fr1 v 987 (by decide)), q5]
      · intro i hi
        rw [up2_cell (by decide), up2_cell (by decide), up2_row]
        unfold upF
        by_cases ci : i = n
        · rw [if_pos ci, if_pos ci, nI_toInt (by omega)]
        · rw [if_neg ci, if_neg ci, up2_cell (by decide), up2_cell (by decide)]
          exact q6 i (by omega)
    · rw [if_neg cc] at r1
      refine ⟨_, r1, h.fr (fun q a1 a2 => up2_cell (by omega)), fun q a1 a2 a3 => up2_cell a1, Or.inl ⟨fun _ t u => cc ⟨by rw [hc]; exact t, (dM_n1 w64).mpr (by rw [q5]; exact u)⟩, ?_, ?_, ?_, ?_, ?_, ?_⟩⟩
      · rw [up2_ne (by omega)]; exact q1
      · rw [up2_ne (by omega)]; exact q2
      · rw [up2_same]; exact vv
      · rw [up2_ne (by omega)]; exact q4
      · rw [dM_fr (M := M) (fr1 v 987 (by decide))]; exact q5
      · intro i hi; rw [up2_cell (by decide)]; exact q6 i hi
theorem slR_le (s : hs) (k : Nat) : 0 ≤ slR s k ∧ slR s k ≤ k := by
  have := sm_01 (f := fun r => slP s (s 8 r)) (z := 1) k (fun i _ => slP_01 s _)
  unfold slR; omega
theorem slF_le (s : hs) (w k : Nat) : 0 ≤ slF s w k ∧ slF s w k ≤ k := by
  have := sm_01 (f := fun k => slP s (s 1 (w + 1 + k))) (z := 1) k (fun i _ => slP_01 s _)
  unfold slF; omega
theorem x_t30 {s : hs} {G e : Nat → Prop} (o : Ok s) (g : Gc s G e) {x : Int32} {xi : Int} (hx : x.toInt = xi) : ∀ (k r f : Nat) (M : xm) (y : Int32) (n : Nat) (D : Nat → Int) (F : Nat → Nat), RX 1 M s → RI s xi r D → FI n D F → (∀ w, D w ≠ -1 → G w) → QM M s n D F (slR s r) → r + k = 6 → k < f → y.toInt = (r : Int) → ∃ M' n' D' F', g_X6_take_30 1 x f M y = some M' ∧ RX 1 M' s ∧ RI s xi 6 D' ∧ FI n' D' F' ∧ (∀ w, D' w ≠ -1 → G w) ∧ QM M' s n' D' F' (slR s 6) ∧ ∀ q, q ≠ 986 → q ≠ 987 → q ≠ 988 → M' q = M q := by
  intro k
  induction k with
  | zero =>
    intro r f M y n D F h hr hf hG hq hk hf0 hy
    obtain ⟨f, rfl⟩ : ∃ q, f = q + 1 := ⟨f - 1, by omega⟩
    unfold g_X6_take_30
    rw [if_pos (by rw [i_le, hy]; simp only [Int32.reduceToInt]; omega)]
    have e : r = 6 := by omega
    subst e
    exact ⟨M, n, D, F, rfl, h, hr, hf, hG, hq, fun _ _ _ _ => rfl⟩
  | succ k ih =>
    intro r f M y n D F h hr hf hG hq hk hf0 hy
    obtain ⟨f, rfl⟩ : ∃ q, f = q + 1 := ⟨f - 1, by omega⟩
    have ny : (y + 1).toInt = ((r + 1 : Nat) : Int) := by rw [i_add hy (b := 1) rfl (by omega) (by omega)]; omega
    have st := slR_le s r
    unfold g_X6_take_30
    rw [if_neg (by rw [i_le, hy]; simp only [Int32.reduceToInt]; omega), if_pos (i_in hy (by omega)), i_ix hy]
    obtain ⟨M1, a1, a2, a3, a4⟩ := fol_step h o g.1 (b := 0) (d := 0) (c := x) (h.r (show r < 6 by omega)) (g.2.1 r (by omega)) rfl (by omega) hx hf hG hq (by omega)
    rw [a1, xb1_some, xlet_eq]
    have sr : slR s r + slP s (s 8 r) = slR s (r + 1) := rfl
    rw [sr] at a4
    rcases a4 with ⟨b1, b2⟩ | ⟨b1, b2, b3, b4, b5, b6⟩
    · obtain ⟨M', n', D', F', k1, k2, k3, k4, k5, k6, k7⟩ := ih (r + 1) f M1 (y + 1) n D F a2 (hr.keep (fun q1 q2 => by have := b1 q1 q2; have := hr.1 (sWh s (s 8 r)); omega)) hf hG b2 (by omega) (by omega) ny
      exact ⟨M', n', D', F', k1, k2, k3, k4, k5, k6, fun q c1 c2 c3 => (k7 q c1 c2 c3).trans (a3 q c1 c2 c3)⟩
    · obtain ⟨M', n', D', F', k1, k2, k3, k4, k5, k6, k7⟩ := ih (r + 1) f M1 (y + 1) _ _ _ a2 (hr.put b1 b2) b5 (fun w hw => by
        unfold upD at hw
        by_cases c : w = sWh s (s 8 r)
        · rw [c]; exact b4
        · rw [if_neg c] at hw; exact hG w hw) b6 (by omega) (by omega) ny
      exact ⟨M', n', D', F', k1, k2, k3, k4, k5, k6, fun q c1 c2 c3 => (k7 q c1 c2 c3).trans (a3 q c1 c2 c3)⟩
/-- the queue: place i of it at hand, j of its fields done -/
def QI (s : hs) (x : Int) (G : Nat → Prop) (i j n : Nat) (D : Nat → Int) (F : Nat → Nat) : Prop := (∀ w, -1 ≤ D w) ∧ (∀ w, D w ≠ -1 → G w) ∧ (∀ w, rtE s x w → D w = 0) ∧ (∀ w, D w = 0 → rtE s x w) ∧ FI n D F ∧ (∀ a b, a ≤ b → b < n → D (F a) ≤ D (F b)) ∧ (i < n → ∀ b, b < n → D (F b) ≤ D (F i) + 1) ∧ (∀ a w, a < i → a < n → edE s x (F a) w → 0 ≤ D w ∧ D w ≤ D (F a) + 1) ∧ (i < n → ∀ k w, 1 ≤ k → k ≤ j → (k : Int) ≤ s 1 (F i) - 1000 → s 1 (F i + k) ≠ -1 → sWh s (s 1 (F i + k)) = w → (w : Int) ≠ x → 0 ≤ D w ∧ D w ≤ D (F i) + 1) ∧ ∀ w, 1 ≤ D w → ∃ u, D u = D w - 1 ∧ edE s x u w
theorem QI.put {s : hs} {x : Int} {G : Nat → Prop} {i j n : Nat} {D : Nat → Int} {F : Nat → Nat} (h : QI s x G i j n D F) (hi : i < n) (hj : ((j + 1 : Nat) : Int) ≤ s 1 (F i) - 1000) {p : Int} (hpe : s 1 (F i + (j + 1)) = p) (hp : p ≠ -1) (hx : (sWh s p : Int) ≠ x) (hD : D (sWh s p) = -1) (hG : G (sWh s p)) (hf : FI (n + 1) (upD D (sWh s p) (D (F i) + 1)) (upF F n (sWh s p))) : QI s x G i (j + 1) (n + 1) (upD D (sWh s p) (D (F i) + 1)) (upF F n (sWh s p)) := by
  obtain ⟨h1, h2, h3, h4, h5, h6, h7, h8, h9, h10⟩ := h
  generalize hw : sWh s p = w0 at *
  have e1 : ∀ d, upD D w0 d w0 = d := fun d => by unfold upD; rw [if_pos rfl]
  have e2 : ∀ d w, w ≠ w0 → upD D w0 d w = D w := fun d w q => by unfold upD; rw [if_neg q]
  have f1 : upF F n w0 n = w0 := by unfold upF; rw [if_pos rfl]
  have f2 : ∀ a, a < n → upF F n w0 a = F a := fun a q => by unfold upF; rw [if_neg (by omega)]
  have nn : ∀ d w, 0 ≤ D w → upD D w0 d w = D w := fun d w q => e2 d w (fun e => by rw [e, hD] at q; omega)
  have di := h5.1 i hi
  have fa : ∀ a, a < n → upD D w0 (D (F i) + 1) (upF F n w0 a) = D (F a) := fun a q => by rw [f2 a q, nn _ _ (h5.1 a q)]
  have fn : upD D w0 (D (F i) + 1) (upF F n w0 n) = D (F i) + 1 := by rw [f1, e1]
  refine ⟨fun w => ?_, fun w q => ?_, fun w q => ?_, fun w q => ?_, hf, fun a b q1 q2 => ?_, fun _ b q2 => ?_, fun a w q1 q2 q3 => ?_, fun _ k w k1 k2 k3 q2 q3 q4 => ?_, fun w q => ?_⟩
  · by_cases c : w = w0
    · rw [c, e1]; omega
    · rw [e2 _ w c]; exact h1 w
  · by_cases c : w = w0
    · rw [c]; exact hG
    · rw [e2 _ w c] at q; exact h2 w q
  · have := h3 w q
    rw [nn _ w (by omega)]; exact this
  · by_cases c : w = w0
    · rw [c, e1] at q; omega
    · rw [e2 _ w c] at q; exact h4 w q
  · by_cases cb : b = n
    · subst cb
      rw [fn]
      by_cases ca : a = b
      · rw [ca, fn]; omega
      · rw [fa a (by omega)]; exact h7 hi a (by omega)
    · rw [fa b (by omega), fa a (by omega)]; exact h6 a b q1 (by omega)
  · rw [fa i hi]
    by_cases cb : b = n
    · rw [cb, fn]; omega
    · rw [fa b (by omega)]; exact h7 hi b (by omega)
  · rw [f2 a (by omega)] at q3 ⊢
    have := h8 a w q1 (by omega) q3
    rw [nn _ w this.1, nn _ _ (h5.1 a (by omega))]; exact this
  · rw [f2 i hi] at k3 q2 q3 ⊢
    rw [nn _ _ di]
    by_cases ck : k = j + 1
    · subst ck
      rw [hpe, hw] at q3
      rw [← q3, e1]; omega
    · have := h9 hi k w k1 (by omega) k3 q2 q3 q4
      rw [nn _ w this.1]; exact this
  · by_cases c : w = w0
    · refine ⟨F i, ?_, j + 1, ⟨by omega, hj⟩, by rw [hpe]; exact hp, by rw [hpe, hw, c], by rw [c]; exact hx⟩
      rw [c, e1, nn _ _ di]; omega
    · rw [e2 _ w c] at q ⊢
      obtain ⟨u, u1, u2⟩ := h10 w q
      exact ⟨u, by rw [nn _ u (by omega)]; exact u1, u2⟩
theorem QI.keep {s : hs} {x : Int} {G : Nat → Prop} {i j n : Nat} {D : Nat → Int} {F : Nat → Nat} (h : QI s x G i j n D F) (hk : s 1 (F i + (j + 1)) ≠ -1 → (sWh s (s 1 (F i + (j + 1))) : Int) ≠ x → D (sWh s (s 1 (F i + (j + 1)))) ≠ -1) : QI s x G i (j + 1) n D F := by
  obtain ⟨h1, h2, h3, h4, h5, h6, h7, h8, h9, h10⟩ := h
  refine ⟨h1, h2, h3, h4, h5, h6, h7, h8, fun hi k w k1 k2 k3 q2 q3 q4 => ?_, h10⟩
  by_cases ck : k = j + 1
  · subst ck
    rw [← q3]
    have a := hk q2 (by rw [q3]; exact q4)
    obtain ⟨b, b1, b2⟩ := h5.2.1 _ a
    rw [← b2]
    exact ⟨h5.1 b b1, h7 hi b b1⟩
  · exact h9 hi k w k1 (by omega) k3 q2 q3 q4
theorem QI.next {s : hs} {x : Int} {G : Nat → Prop} {i j n : Nat} {D : Nat → Int} {F : Nat → Nat} (h : QI s x G i j n D F) (hi : i < n) (hj : s 1 (F i) - 1000 ≤ j) : QI s x G (i + 1) 0 n D F := by
  obtain ⟨h1, h2, h3, h4, h5, h6, h7, h8, h9, h10⟩ := h
  refine ⟨h1, h2, h3, h4, h5, h6, fun q b q2 => ?_, fun a w q1 q2 q3 => ?_, fun _ k w k1 k2 => by omega, h10⟩
  · have a := h7 hi b q2
    have b := h6 i (i + 1) (by omega) q
    omega
  · by_cases c : a = i
    · subst c
      obtain ⟨k, k1, k2, k3, k4⟩ := q3
      exact h9 hi k w k1.1 (by omega) k1.2 k2 k3 k4
    · exact h8 a w (by omega) q2 q3
