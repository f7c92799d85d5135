/-! pages are freed; one is moved; moving ends -/
def sFP (s : hs) (p : Nat) : hs := sWr (up2 (up2 (up2 (sClr s (8 * p) 8) 5 p 0) 6 p 0) 7 p 0) 3 p
theorem sClr_upk {s : hs} {a n k i : Nat} {v : Int} (h1 : k ≠ 1) (h3 : k ≠ 3) : sClr (up2 s k i v) a n = up2 (sClr s a n) k i v := by
  funext q j
  rw [up2_ap]
  unfold sClr
  rw [up2_ap]
  by_cases c : q = k ∧ j = i
  · rw [if_pos c, if_neg (fun y => h1 (by rw [← c.1, y.1])), if_neg (fun y => h3 (by rw [← c.1, y.1])), if_pos c]
  · rw [if_neg c, if_neg c]
theorem Ok_clr {s : hs} (o : Ok s) {a n : Nat} : Ok (sClr s a n) := by
  refine ⟨fun k i hd => ?_, ?_, fun j hj => ?_⟩
  · unfold sClr
    split
    · rename_i q; rw [q.1]; exact ⟨by omega, by omega⟩
    · split
      · rename_i q; rw [q.1]; exact ⟨by omega, by omega⟩
      · exact o.1 k i hd
  · rw [sClr_k 0 (by decide) (by decide)]; exact o.2.1
  · rw [sClr_k 0 (by decide) (by decide)] at hj
    rw [sClr_k _ (by decide) (by decide), sClr_k _ (by decide) (by decide), sClr_k _ (by decide) (by decide)]
    exact o.2.2 j hj
theorem Ok_FP0 {s : hs} (o : Ok s) {p : Nat} : Ok (up2 (up2 (up2 (sClr s (8 * p) 8) 5 p 0) 6 p 0) 7 p 0) := by
  refine Ok.up ?_ (by decide) ⟨by omega, by omega⟩
  refine Ok.up ?_ (by decide) ⟨by omega, by omega⟩
  exact Ok.up (Ok_clr o) (by decide) ⟨by omega, by omega⟩
theorem Ok_FP {s : hs} (o : Ok s) {p : Nat} (hp : p < 8) : Ok (sFP s p) := Ok_wr (Ok_FP0 o) (by omega) (by omega)
theorem x_freePage {u : Nat} {M : xm} {s : hs} (h : RX u M s) (o : Ok s) {a : Int32} {p : Nat} (ha : a.toInt = (p : Int)) (hp : p < 8) : ∃ M', f_X1_freePage u M a = some M' ∧ RX u M' (sFP s p) ∧ frX u M M' := by
  obtain ⟨M1, k1, k2, k3⟩ := x_clearWords h (a := a * 8) (b := (a + 1) * 8) (x := 8 * p) (n := 8) (by rw [i_mul ha (b := 8) rfl (by omega) (by omega)]; omega) (by rw [i_mul (i_add ha (y := 1) (b := 1) rfl (by omega) (by omega)) (y := 8) (b := 8) rfl (by omega) (by omega)]; omega) (by omega)
  have h2 : RX u (up2 (up2 (up2 M1 (u + 5) p 0) (u + 6) p 0) (u + 7) p 0) (up2 (up2 (up2 (sClr s (8 * p) 8) 5 p 0) 6 p 0) 7 p 0) := ((k2.up (by decide) rfl).up (by decide) rfl).up (by decide) rfl
  obtain ⟨M2, c1, c2, c3⟩ := x_write h2 (Ok_FP0 o) (z := (up2 (up2 (up2 M1 (u + 5) p 0) (u + 6) p 0) (u + 7) p 0) u 17) (a := 3) (b := a) (kd := 3) h2.clock rfl ha
  unfold f_X1_freePage
  rw [f_isPage_1 ha hp, if_neg n10, k1, xb1_some, if_pos (i_in ha hp), i_ix ha]
  simp only [xlet_eq]
  rw [c1, xb1_some]
  exact ⟨M2, rfl, c2, frX.tr (frX.tr (frX.tr (frX.tr k3 (frX.up (by decide))) (frX.up (by decide))) (frX.up (by decide))) c3⟩
theorem y_free_loop {a : Int32} {p : Nat} (s : hs) (ha : a.toInt = (p : Int)) (hp : p < 8) : ∀ (d j f : Nat), j + d = 8 → d < f → ∀ (M : xm) (x : Int32), RY M (sClr s (8 * p) j) → x.toInt = ((8 * p + j : Nat) : Int) → ∃ M', g_X10_freePage_25 a f M x = some M' ∧ RY M' (sClr s (8 * p) 8) ∧ frY M M' := by
  have lim : ((8 : Int32) * a + 8).toInt = ((8 * p + 8 : Nat) : Int) := by
    rw [i_add (i_mul (x := 8) (a := 8) rfl ha (by omega) (by omega)) (b := 8) rfl (by omega) (by omega)]; omega
  intro d
  induction d with
  | zero =>
    intro j f hj hf M x h hx
    obtain ⟨f, rfl⟩ : ∃ q, f = q + 1 := ⟨f - 1, by omega⟩
    unfold g_X10_freePage_25
    rw [if_pos (by rw [i_le, lim, hx]; omega)]
    exact ⟨M, rfl, by rw [show j = 8 by omega] at h; exact h, frY.rfl⟩
  | succ d ih =>
    intro j f hj hf M x h hx
    obtain ⟨f, rfl⟩ : ∃ q, f = q + 1 := ⟨f - 1, by omega⟩
    have e := yx 41 (b := 41) rfl hx (by omega)
    have e' := yx 169 (b := 169) rfl hx (by omega)
    unfold g_X10_freePage_25
    rw [if_neg (by rw [i_le, lim, hx]; omega), if_pos e.1, e.2, xlet_eq, if_pos e'.1, e'.2, xlet_eq, xlet_eq]
    have h1 : RY (up2 M 1 (41 + (8 * p + j)) (-2)) (up2 (sClr s (8 * p) j) 1 (8 * p + j) (-2)) := RY.up h (k := 1) (i := 8 * p + j) (yd_i (show 8 * p + j < 64 by omega) (by decide) (by decide)) (by decide) rfl
    have h2 : RY (up2 (up2 M 1 (41 + (8 * p + j)) (-2)) 1 (169 + (8 * p + j)) 0) (up2 (up2 (sClr s (8 * p) j) 1 (8 * p + j) (-2)) 3 (8 * p + j) 0) := RY.up h1 (k := 3) (i := 8 * p + j) (yd_i (show 8 * p + j < 64 by omega) (by decide) (by decide)) (by decide) rfl
    rw [sClr_up] at h2
    obtain ⟨M', k1, k2, k3⟩ := ih (j + 1) f (by omega) (by omega) _ (x + 1) h2 (by rw [i_add hx (b := 1) rfl (by omega) (by omega)]; omega)
    exact ⟨M', k1, k2, frY.tr (frY.tr (frY.up (by omega)) (frY.up (by omega))) k3⟩
theorem y_freePage {M : xm} {s : hs} (h : RY M s) (o : Ok s) {a : Int32} {p : Nat} (ha : a.toInt = (p : Int)) (hp : p < 8) : ∃ M', f_X10_freePage M a = some M' ∧ RY M' (sFP s p) ∧ frY M M' := by
  have e := yx 13 (b := 13) rfl ha (by omega)
  have e' := yx 21 (b := 21) rfl ha (by omega)
  have h1 : RY (up2 M 1 (13 + p) 0) (up2 s 7 p 0) := RY.up h (k := 7) (i := p) (yd_i hp (by decide) (by decide)) (by decide) rfl
  have h2 : RY (up2 (up2 M 1 (13 + p) 0) 1 (21 + p) 0) (up2 (up2 s 7 p 0) 6 p 0) := RY.up h1 (k := 6) (i := p) (yd_i hp (by decide) (by decide)) (by decide) rfl
  obtain ⟨M1, k1, k2, k3⟩ := y_free_loop (up2 (up2 s 7 p 0) 6 p 0) ha hp 8 0 xfuel (by omega) (by unfold xfuel; omega) _ (8 * a) (by rw [sClr_0]; exact h2) (by rw [i_mul (x := 8) (a := 8) rfl ha (by omega) (by omega)]; omega)
  have k4 := RYr.up5 (i := p) (z := 0) k2
  have eq : up2 (sClr (up2 (up2 s 7 p 0) 6 p 0) (8 * p) 8) 5 p 0 = up2 (up2 (up2 (sClr s (8 * p) 8) 5 p 0) 6 p 0) 7 p 0 := by
    rw [sClr_upk (by decide) (by decide), sClr_upk (by decide) (by decide), up2_comm (k := 6) (k' := 5) (by decide), up2_comm (k := 7) (k' := 5) (by decide), up2_comm (k := 7) (k' := 6) (by decide)]
  rw [eq] at k4
  obtain ⟨M2, c1, c2, c3⟩ := y_write k4 (Ok_FP0 o) (a := 3) (b := a) (kd := 3) rfl ha (by omega) (by omega)
  unfold f_X10_freePage
  rw [if_pos e.1, e.2, xlet_eq, if_pos e'.1, e'.2, xlet_eq, xlet_eq, k1, xb1_some, c1, xb1_some]
  exact ⟨M2, rfl, c2, frY.tr (frY.tr (frY.tr (frY.up (by omega)) (frY.up (by omega))) k3) c3⟩
/-- some pages are freed, by number -/
def sFS (s : hs) (Q : Nat → Bool) : Nat → Nat → hs
  | 0, _ => s
  | d + 1, p => sFS (if Q p = true then sFP s p else s) Q d (p + 1)
def inQ (Q : Nat → Bool) (p d q : Nat) : Prop := p ≤ q ∧ q < p + d ∧ Q q = true
theorem sFP_at {s : hs} {p k : Nat} (i : Nat) (hk : k ≠ 13) : sFP s p k i = if k = 1 ∧ i / 8 = p then -2 else if k = 3 ∧ i / 8 = p then 0 else if (k = 5 ∨ k = 6 ∨ k = 7) ∧ i = p then 0 else s k i := by
  unfold sFP
  rw [sWr_k i hk]
  simp only [up2_ap]
  unfold sClr
  by_cases k1 : k = 1
  · subst k1
    simp only [show ¬ (1 = 7 ∧ i = p) by omega, show ¬ (1 = 6 ∧ i = p) by omega, show ¬ (1 = 5 ∧ i = p) by omega, if_false]
    by_cases q : i / 8 = p
    · rw [if_pos ⟨trivial, by omega⟩, if_pos ⟨trivial, q⟩]
    · rw [if_neg (by omega), if_neg (by omega), if_neg (by omega), if_neg (by omega), if_neg (by omega)]
  · by_cases k3 : k = 3
    · subst k3
      simp only [show ¬ (3 = 7 ∧ i = p) by omega, show ¬ (3 = 6 ∧ i = p) by omega, show ¬ (3 = 5 ∧ i = p) by omega, if_false]
      by_cases q : i / 8 = p
      · rw [if_neg (by omega), if_pos ⟨trivial, by omega⟩, if_neg (by omega), if_pos ⟨trivial, q⟩]
      · rw [if_neg (by omega), if_neg (by omega), if_neg (by omega), if_neg (by omega), if_neg (by omega)]
    · rw [if_neg (c := k = 1 ∧ 8 * p ≤ i ∧ i < 8 * p + 8) (fun z => k1 z.1), if_neg (c := k = 3 ∧ 8 * p ≤ i ∧ i < 8 * p + 8) (fun z => k3 z.1), if_neg (c := k = 1 ∧ i / 8 = p) (fun z => k1 z.1), if_neg (c := k = 3 ∧ i / 8 = p) (fun z => k3 z.1)]
      by_cases q : (k = 5 ∨ k = 6 ∨ k = 7) ∧ i = p
      · rw [if_pos q]
        by_cases k7 : k = 7
        · rw [if_pos ⟨k7, q.2⟩]
        · rw [if_neg (fun z => k7 z.1)]
          by_cases k6 : k = 6
          · rw [if_pos ⟨k6, q.2⟩]
          · rw [if_neg (fun z => k6 z.1), if_pos (by omega)]
      · rw [if_neg q, if_neg (by omega), if_neg (by omega), if_neg (by omega)]
theorem sFS_at {Q : Nat → Bool} : ∀ (d p : Nat) (s : hs) {k : Nat} (i : Nat), k ≠ 13 → (k = 1 ∨ k = 3 → inQ Q p d (i / 8) → sFS s Q d p k i = if k = 1 then -2 else 0) ∧ (k = 5 ∨ k = 6 ∨ k = 7 → inQ Q p d i → sFS s Q d p k i = 0) ∧ (¬ ((k = 1 ∨ k = 3) ∧ inQ Q p d (i / 8)) → ¬ ((k = 5 ∨ k = 6 ∨ k = 7) ∧ inQ Q p d i) → sFS s Q d p k i = s k i) := by
  intro d
  induction d with
  | zero =>
    intro p s k i hk
    refine ⟨fun _ q => ?_, fun _ q => ?_, fun _ _ => rfl⟩
    · have := q.1; have := q.2.1; omega
    · have := q.1; have := q.2.1; omega
  | succ d ih =>
    intro p s k i hk
    unfold sFS
    have h := ih (p + 1) (if Q p = true then sFP s p else s) (k := k) i hk
    refine ⟨fun c q => ?_, fun c q => ?_, fun c c2 => ?_⟩
    · by_cases z : i / 8 = p
      · have nq : ¬ inQ Q (p + 1) d (i / 8) := fun y => by have := y.1; omega
        have qp : Q p = true := by rw [← z]; exact q.2.2
        rw [h.2.2 (fun y => nq y.2) (fun y => by omega), if_pos qp, sFP_at i hk]
        by_cases k1 : k = 1
        · rw [if_pos ⟨k1, z⟩, if_pos k1]
        · rw [if_neg (fun y => k1 y.1), if_pos ⟨by omega, z⟩, if_neg k1]
      · exact h.1 c ⟨by have := q.1; omega, by have := q.2.1; omega, q.2.2⟩
    · by_cases z : i = p
      · have nq : ¬ inQ Q (p + 1) d i := fun y => by have := y.1; omega
        have qp : Q p = true := by rw [← z]; exact q.2.2
        rw [h.2.2 (fun y => by omega) (fun y => nq y.2), if_pos qp, sFP_at i hk, if_neg (by omega), if_neg (by omega), if_pos ⟨c, z⟩]
      · exact h.2.1 c ⟨by have := q.1; omega, by have := q.2.1; omega, q.2.2⟩
    · rw [h.2.2 (fun y => c ⟨y.1, by have := y.2.1; omega, by have := y.2.2.1; omega, y.2.2.2⟩) (fun y => c2 ⟨y.1, by have := y.2.1; omega, by have := y.2.2.1; omega, y.2.2.2⟩)]
      by_cases qp : Q p = true
      · rw [if_pos qp, sFP_at i hk, if_neg (fun y => c ⟨Or.inl y.1, by omega, by omega, by rw [y.2]; exact qp⟩), if_neg (fun y => c ⟨Or.inr y.1, by omega, by omega, by rw [y.2]; exact qp⟩), if_neg (fun y => c2 ⟨y.1, by omega, by omega, by rw [y.2]; exact qp⟩)]
      · rw [if_neg qp]
theorem Ok_FS {Q : Nat → Bool} : ∀ (d p : Nat) (s : hs), p + d ≤ 8 → Ok s → Ok (sFS s Q d p) := by
  intro d
  induction d with
  | zero => intro p s _ o; exact o
  | succ d ih =>
    intro p s hp o
    unfold sFS
    refine ih (p + 1) _ (by omega) ?_
    split
    · exact Ok_FP o (by omega)
    · exact o
/-- what the freed pages leave -/
theorem FS_facts {s : hs} {Q : Nat → Bool} : (∀ w, w < 64 → Q (w / 8) = true → sFS s Q 8 0 1 w = -2 ∧ sFS s Q 8 0 3 w = 0) ∧ (∀ w, w < 64 → ¬ Q (w / 8) = true → sFS s Q 8 0 1 w = s 1 w ∧ sFS s Q 8 0 3 w = s 3 w) ∧ (∀ p, p < 8 → Q p = true → sFS s Q 8 0 5 p = 0 ∧ sFS s Q 8 0 6 p = 0 ∧ sFS s Q 8 0 7 p = 0) ∧ (∀ p, ¬ Q p = true → sFS s Q 8 0 5 p = s 5 p ∧ sFS s Q 8 0 6 p = s 6 p ∧ sFS s Q 8 0 7 p = s 7 p) ∧ (∀ k i, k ≠ 1 → k ≠ 3 → k ≠ 5 → k ≠ 6 → k ≠ 7 → k ≠ 13 → sFS s Q 8 0 k i = s k i) := by
  refine ⟨fun w hw hq => ?_, fun w hw hq => ?_, fun p hp hq => ?_, fun p hq => ?_, fun k i k1 k3 k5 k6 k7 k13 => ?_⟩
  · have y : inQ Q 0 8 (w / 8) := ⟨by omega, by omega, hq⟩
    exact ⟨((sFS_at 8 0 s w (by decide)).1 (Or.inl rfl) y).trans (if_pos rfl), ((sFS_at 8 0 s w (by decide)).1 (Or.inr rfl) y).trans (if_neg (by decide))⟩
  · have y : ¬ inQ Q 0 8 (w / 8) := fun z => hq z.2.2
    exact ⟨(sFS_at 8 0 s w (by decide)).2.2 (fun z => y z.2) (fun z => by omega), (sFS_at 8 0 s w (by decide)).2.2 (fun z => y z.2) (fun z => by omega)⟩
  · have y : inQ Q 0 8 p := ⟨by omega, by omega, hq⟩
    exact ⟨(sFS_at 8 0 s p (by decide)).2.1 (by decide) y, (sFS_at 8 0 s p (by decide)).2.1 (by decide) y, (sFS_at 8 0 s p (by decide)).2.1 (by decide) y⟩
  · have y : ¬ inQ Q 0 8 p := fun z => hq z.2.2
    exact ⟨(sFS_at 8 0 s p (by decide)).2.2 (fun z => by omega) (fun z => y z.2), (sFS_at 8 0 s p (by decide)).2.2 (fun z => by omega) (fun z => y z.2), (sFS_at 8 0 s p (by decide)).2.2 (fun z => by omega) (fun z => y z.2)⟩
  · exact (sFS_at 8 0 s i k13).2.2 (fun z => by omega) (fun z => by omega)
/-- layout stays, if no page in hand is freed -/
theorem Lay_FS {s : hs} (o : Ok s) (l : Lay s) {Q : Nat → Bool} (h9 : ∀ u, u < 2 → s 9 u ≠ -1 → ¬ Q (s 9 u).toNat = true) : Lay (sFS s Q 8 0) := by
  obtain ⟨F1, F2', F3, F4, F5⟩ := FS_facts (s := s) (Q := Q)
  have lay := l
  obtain ⟨l1, l2, l3, l4, l5, l6, l7⟩ := l
  refine ⟨fun w hw hh => ?_, fun w hw hh j j1 j2 => ?_, fun w hw hu => ?_, fun w hw hm => ?_, fun p hp h0 => ?_, fun u hu h => ?_, fun p hp => ?_⟩
  · by_cases q : Q (w / 8) = true
    · rw [(F1 w hw q).1] at hh; omega
    · rw [(F2' w hw q).1] at hh ⊢
      rw [(F4 _ q).2.1]
      exact l1 w hw hh
  · by_cases q : Q (w / 8) = true
    · rw [(F1 w hw q).1] at hh; omega
    · rw [(F2' w hw q).1] at hh j2
      obtain ⟨n, hn, m1, m2, m3, m4⟩ := head_n o lay hw hh
      have e8 : (w + j) / 8 = w / 8 := by omega
      rw [(F2' (w + j) (by omega) (by rw [e8]; exact q)).1]
      exact l2 w hw hh j j1 j2
  · by_cases q : Q (w / 8) = true
    · exact F1 w hw q
    · rw [(F4 _ q).2.1] at hu
      rw [(F2' w hw q).1, (F2' w hw q).2]
      exact l3 w hw hu
  · by_cases q : Q (w / 8) = true
    · rw [(F1 w hw q).2] at hm; omega
    · rw [(F2' w hw q).2] at hm
      rw [(F2' w hw q).1]
      exact l4 w hw hm
  · by_cases q : Q p = true
    · exact (F3 p hp q).2.1
    · rw [(F4 p q).2.2] at h0
      rw [(F4 p q).2.1]
      exact l5 p hp h0
  · rw [F5 9 u (by decide) (by decide) (by decide) (by decide) (by decide) (by decide)] at h ⊢
    rw [(F4 _ (h9 u hu h)).2.2]
    exact l6 u hu h
  · by_cases q : Q p = true
    · rw [(F3 p hp q).1]
      unfold sLive
      have : sLv (sFS s Q 8 0) 8 (8 * p) = sLv (fun _ _ => 0) 8 (8 * p) := sLv_eq 8 _ (fun i i1 i2 => by
        have e8 : i / 8 = p := by omega
        rw [(F1 i (by omega) (by rw [e8]; exact q)).2]
        exact ⟨by omega, by omega⟩)
      rw [this]
      simp [sLv]
    · rw [(F4 p q).1, l7 p hp]
      unfold sLive
      refine sLv_eq 8 _ (fun i i1 i2 => ?_)
      have e8 : i / 8 = p := by omega
      have y := F2' i (by omega) (by rw [e8]; exact q)
      rw [y.1, y.2]
      exact ⟨Iff.rfl, fun _ => rfl⟩
def qCh (s : hs) (p : Nat) : Bool := decide (s 7 p = 2)
def sEnd (s : hs) : hs := up2 (sFS s (qCh s) 8 0) 0 14 0
def sNx (s : hs) : Nat → Nat → Nat
  | 0, w => w
  | d + 1, w => if s 3 w = 1 ∧ sMust s w then w else sNx s d (w + 1)
def sNext (s : hs) : Nat := sNx s 64 0
theorem sNx_le {s : hs} : ∀ (d p : Nat), p ≤ sNx s d p ∧ sNx s d p ≤ p + d ∧ (sNx s d p < p + d → s 3 (sNx s d p) = 1 ∧ sMust s (sNx s d p)) ∧ (∀ q, p ≤ q → q < sNx s d p → ¬ (s 3 q = 1 ∧ sMust s q)) := by
  intro d
  induction d with
  | zero => intro p; unfold sNx; exact ⟨by omega, by omega, fun q => by omega, fun q a b => by omega⟩
  | succ d ih =>
    intro p
    unfold sNx
    split
    · rename_i c; exact ⟨Nat.le_refl _, by omega, fun _ => c, fun q a b => by omega⟩
    · rename_i c
      have := ih (p + 1)
      refine ⟨by omega, by omega, fun q => this.2.2.1 (by omega), fun q a b => ?_⟩
      by_cases e : q = p
      · rw [e]; exact c
      · exact this.2.2.2 q (by omega) b
theorem In.end {s : hs} {G : Nat → Prop} (h : In s G no 6) (h2 : s 0 14 = 2) (ht : s 10 0 = -1 ∧ s 10 1 = -1) (hn : ¬ sNext s < 64) : Inv (sEnd s) := by
  have hin := h
  obtain ⟨o, l, f2, ⟨g1, g2, g3, g4, g5, g6, g7, g8, g9, g10, g11, g12, g13, g14, g15⟩, rg⟩ := h
  obtain ⟨F1, F2', F3, F4, F5⟩ := FS_facts (s := s) (Q := qCh s)
  have thr : ∀ t, t < 2 → s 10 t = -1 := fun t h2 => by
    by_cases q : t = 0
    · rw [q]; exact ht.1
    · rw [show t = 1 by omega]; exact ht.2
  have none : ∀ w, w < 64 → ¬ (s 3 w = 1 ∧ sMust s w) := fun w hw => (sNx_le 64 0).2.2.2 w (by omega) (by unfold sNext at hn; omega)
  have gq : ∀ w, G w → ¬ qCh s (w / 8) = true := fun w hw q => by
    have a := g11 h2 w hw
    exact none w (g1 w hw).1 ⟨a.1, h2, of_decide_eq_true q, a.2⟩
  have l' := Lay_FS o l (Q := qCh s) (fun u hu h9 q => by
    have a := l.2.2.2.2.2.1 u hu h9
    have b : s 7 (s 9 u).toNat = 2 := of_decide_eq_true q
    omega)
  have ok1 := Ok_FS (Q := qCh s) 8 0 s (by omega) o
  have ok2 : Ok (sEnd s) := ok1.up (by decide) ⟨fun q => absurd q (by decide), fun _ => ⟨by omega, by omega⟩, fun q => absurd q (by decide), fun q => absurd q (by decide), fun q => absurd q (by decide), fun q => absurd q (by decide)⟩
  have e0 : ∀ i, i ≠ 14 → sEnd s 0 i = s 0 i := fun i hi => by
    unfold sEnd; rw [up2_ap, if_neg (fun z => hi z.2)]
    exact F5 0 i (by decide) (by decide) (by decide) (by decide) (by decide) (by decide)
  have ek : ∀ k i, k ≠ 0 → sEnd s k i = sFS s (qCh s) 8 0 k i := fun k i hk => by
    unfold sEnd; rw [up2_ap, if_neg (fun z => hk z.1)]
  have e14 : sEnd s 0 14 = 0 := rfl
  have d : ∀ k i, k ≠ 0 → k ≠ 1 → k ≠ 3 → k ≠ 5 → k ≠ 6 → k ≠ 7 → k ≠ 13 → sEnd s k i = s k i := fun k i k0 k1 k3 k5 k6 k7 k13 => by
    rw [ek k i k0]; exact F5 k i k1 k3 k5 k6 k7 k13
  have f2' : sEnd s 2 = s 2 := funext (fun i => d 2 i (by decide) (by decide) (by decide) (by decide) (by decide) (by decide) (by decide))
  have ew : ∀ p, sWh (sEnd s) p = sWh s p := fun p => sWh_eq (e0 15 (by decide)) (fun i => by rw [f2']) p
  have pp : ∀ p, ptr s G p → ptr (sEnd s) G p := fun p hp => by
    rcases hp with q | ⟨hc, hg⟩
    · exact Or.inl q
    · refine Or.inr ⟨⟨hc.1, fun _ => ?_, fun q => ?_, fun q => ?_⟩, by rw [ew]; exact hg⟩
      · rw [e0 16 (by decide)]; exact hc.2.1 (by omega)
      · rw [e14] at q; omega
      · rw [e14] at q; omega
  have h1 : ∀ w, G w → sEnd s 1 w = s 1 w := fun w hw => by
    rw [ek 1 w (by decide)]; exact (F2' w (g1 w hw).1 (gq w hw)).1
  refine ⟨G, ok2, l', fun q => ?_, ⟨?_, ?_, ?_, ?_, ?_, ?_, ?_, fun q => ?_, fun q => ?_, fun q => ?_, fun q => ?_, fun q => ?_, fun q => ?_, ?_, ?_⟩, ?_⟩
  · rw [e14] at q; omega
  · intro w hw
    have a := g1 w hw
    refine ⟨a.1, by rw [h1 w hw]; exact a.2.1, ?_⟩
    rw [ek 7 _ (by decide), (F4 _ (gq w hw)).2.2]
    exact a.2.2
  · intro r hr
    rw [d 8 r (by decide) (by decide) (by decide) (by decide) (by decide) (by decide) (by decide)]
    exact pp _ (g2 r hr)
  · intro w hw j j1 j2
    have a := g1 w hw
    rw [h1 w hw] at j2
    obtain ⟨n, hn, m1, m2, m3, m4⟩ := head_n o l a.1 a.2.1
    have e8 : (w + j) / 8 = w / 8 := by omega
    rw [ek 1 (w + j) (by decide), (F2' (w + j) (by omega) (by rw [e8]; exact gq w hw)).1]
    exact pp _ (g3 w hw j j1 j2)
  · intro t ht' h10
    rw [d 10 t (by decide) (by decide) (by decide) (by decide) (by decide) (by decide) (by decide)] at h10
    exact absurd (thr t ht') h10
  · intro t ht' h10
    rw [d 10 t (by decide) (by decide) (by decide) (by decide) (by decide) (by decide) (by decide)] at h10
    exact absurd (thr t ht') h10
  · intro a
    rw [d 10 0 (by decide) (by decide) (by decide) (by decide) (by decide) (by decide) (by decide)] at a
    exact absurd ht.1 a
  · intro t ht' h10
    rw [d 10 t (by decide) (by decide) (by decide) (by decide) (by decide) (by decide) (by decide)] at h10
    exact absurd (thr t ht') h10
  · rw [e14] at q; omega
  · rw [e14] at q; omega
  · rw [e14] at q; omega
  · rw [e14] at q; omega
  · rw [e14] at q; omega
  · rw [e14] at q; omega
  · refine ⟨fun q => by rw [e14] at q; omega, fun _ => ?_⟩
    rw [e0 15 (by decide)]; exact g14.2 (by omega)
  · intro _ p hp q
    rw [ek 7 p (by decide)] at q
    by_cases c : qCh s p = true
    · rw [(F3 p hp c).2.2] at q; omega
    · rw [(F4 p c).2.2] at q; exact c (decide_eq_true q)
  · intro r hr
    rw [d 8 r (by decide) (by decide) (by decide) (by decide) (by decide) (by decide) (by decide)]
    have := rg r hr
    show _ ∨ _
    rw [e0 15 (by decide)]; exact this
