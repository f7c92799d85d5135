/-! the reference's heap against the specification -/
theorem yd_i {k i : Nat} (h : i < xl k) (h0 : k ≠ 0) (h5 : k ≠ 5) : yd k i = true := by
  rw [yd, Bool.and_eq_true, decide_eq_true_eq]
  exact ⟨decide_eq_true ⟨h, fun c => absurd c h0⟩, h5⟩
theorem xd_i {k i : Nat} (h : i < xl k) (h0 : k ≠ 0) : xd k i = true := decide_eq_true ⟨h, fun c => absurd c h0⟩
theorem RYr.w {a : Nat → Int32} {s : hs} (h : RYr a s) {i : Nat} (hi : i < 64) : (a (41 + i)).toInt = s 1 i := h.1 1 i (yd_i hi (by decide) (by decide)) (by omega)
theorem RYr.f {a : Nat → Int32} {s : hs} (h : RYr a s) {i : Nat} (hi : i < 64) : (a (105 + i)).toInt = s 2 i := h.1 2 i (yd_i hi (by decide) (by decide)) (by omega)
theorem RYr.m {a : Nat → Int32} {s : hs} (h : RYr a s) {i : Nat} (hi : i < 64) : (a (169 + i)).toInt = s 3 i := h.1 3 i (yd_i hi (by decide) (by decide)) (by omega)
theorem RYr.k {a : Nat → Int32} {s : hs} (h : RYr a s) {i : Nat} (hi : i < 64) : (a (233 + i)).toInt = s 4 i := h.1 4 i (yd_i hi (by decide) (by decide)) (by omega)
theorem RYr.u {a : Nat → Int32} {s : hs} (h : RYr a s) {i : Nat} (hi : i < 8) : (a (21 + i)).toInt = s 6 i := h.1 6 i (yd_i hi (by decide) (by decide)) (by omega)
theorem RYr.h {a : Nat → Int32} {s : hs} (h : RYr a s) {i : Nat} (hi : i < 8) : (a (13 + i)).toInt = s 7 i := h.1 7 i (yd_i hi (by decide) (by decide)) (by omega)
theorem RYr.r {a : Nat → Int32} {s : hs} (h : RYr a s) {i : Nat} (hi : i < 6) : (a (29 + i)).toInt = s 8 i := h.1 8 i (yd_i hi (by decide) (by decide)) (by omega)
theorem RYr.g {a : Nat → Int32} {s : hs} (h : RYr a s) {i : Nat} (hi : i < 2) : (a (9 + i)).toInt = s 9 i := h.1 9 i (yd_i hi (by decide) (by decide)) (by omega)
theorem RYr.t {a : Nat → Int32} {s : hs} (h : RYr a s) {i : Nat} (hi : i < 2) : (a (35 + i)).toInt = s 10 i := h.1 10 i (yd_i hi (by decide) (by decide)) (by omega)
theorem RYr.p {a : Nat → Int32} {s : hs} (h : RYr a s) {i : Nat} (hi : i < 2) (hb : s 10 i ≠ -1) : (a (37 + i)).toInt = s 11 i := h.1 11 i (yd_i hi (by decide) (by decide)) (fun _ => hb)
theorem RYr.c {a : Nat → Int32} {s : hs} (h : RYr a s) {i : Nat} (hi : i < 2) (hb : s 10 i ≠ -1) : (a (39 + i)).toInt = s 12 i := h.1 12 i (yd_i hi (by decide) (by decide)) (fun _ => hb)
theorem RYr.stacked {a : Nat → Int32} {s : hs} (h : RYr a s) : (a 8).toInt = s 0 13 := h.1 0 13 (by decide) (by omega)
theorem RYr.phase {a : Nat → Int32} {s : hs} (h : RYr a s) : (a 6).toInt = s 0 14 := h.1 0 14 (by decide) (by omega)
theorem RYr.good {a : Nat → Int32} {s : hs} (h : RYr a s) : (a 7).toInt = s 0 15 := h.1 0 15 (by decide) (by omega)
theorem RYr.latest {a : Nat → Int32} {s : hs} (h : RYr a s) : (a 11).toInt = s 0 16 := h.1 0 16 (by decide) (by omega)
theorem RYr.clock {a : Nat → Int32} {s : hs} (h : RYr a s) : (a 4).toInt = s 0 17 := h.1 0 17 (by decide) (by omega)
theorem RYr.x {a : Nat → Int32} {s : hs} (h : RYr a s) : (a 5).toInt = s 0 18 := h.1 0 18 (by decide) (by omega)
/-- ranges -/
def rgP : Nat → Nat → Int → Prop
  | 0, i, v => (i = 13 → 0 ≤ v ∧ v ≤ 64) ∧ (i = 14 → 0 ≤ v ∧ v ≤ 2) ∧ (i = 15 → 0 ≤ v ∧ v ≤ 2) ∧ (i = 16 → 0 ≤ v ∧ v ≤ 1) ∧ (i = 17 → 0 ≤ v ∧ v ≤ 10500) ∧ (i = 18 → 0 ≤ v ∧ v ≤ 31062)
  | 1, _, v => -2 ≤ v ∧ v ≤ 1003
  | 2, _, v => -1 ≤ v ∧ v ≤ 63
  | 3, _, v => 0 ≤ v ∧ v ≤ 1
  | 4, _, v => 0 ≤ v ∧ v ≤ 63
  | 5, _, v => 0 ≤ v ∧ v ≤ 100
  | 6, _, v => 0 ≤ v ∧ v ≤ 8
  | 7, _, v => 0 ≤ v ∧ v ≤ 2
  | 8, _, v => -1 ≤ v ∧ v ≤ 191
  | 9, _, v => -1 ≤ v ∧ v ≤ 7
  | 10, _, v => -1 ≤ v ∧ v ≤ 63
  | 11, _, v => -1 ≤ v ∧ v ≤ 191
  | 12, _, v => -1 ≤ v ∧ v ≤ 63
  | _, _, _ => True
def Okb (s : hs) : Prop := (0 ≤ s 13 0 ∧ s 13 0 ≤ 25) ∧ ∀ i : Nat, (i : Int) < s 13 0 → (0 ≤ s 13 (1 + 3 * i) ∧ s 13 (1 + 3 * i) ≤ 10500) ∧ (0 ≤ s 13 (2 + 3 * i) ∧ s 13 (2 + 3 * i) ≤ 5) ∧ (0 ≤ s 13 (3 + 3 * i) ∧ s 13 (3 + 3 * i) ≤ 255)
def Ok (s : hs) : Prop := (∀ k i, xd k i = true → rgP k i (s k i)) ∧ Okb s
theorem Ok.w {s : hs} (h : Ok s) {i : Nat} (hi : i < 64) : -2 ≤ s 1 i ∧ s 1 i ≤ 1003 := h.1 1 i (xd_i hi (by decide))
theorem Ok.f {s : hs} (h : Ok s) {i : Nat} (hi : i < 64) : -1 ≤ s 2 i ∧ s 2 i ≤ 63 := h.1 2 i (xd_i hi (by decide))
theorem Ok.m {s : hs} (h : Ok s) {i : Nat} (hi : i < 64) : 0 ≤ s 3 i ∧ s 3 i ≤ 1 := h.1 3 i (xd_i hi (by decide))
theorem Ok.k {s : hs} (h : Ok s) {i : Nat} (hi : i < 64) : 0 ≤ s 4 i ∧ s 4 i ≤ 63 := h.1 4 i (xd_i hi (by decide))
theorem Ok.l {s : hs} (h : Ok s) {i : Nat} (hi : i < 8) : 0 ≤ s 5 i ∧ s 5 i ≤ 100 := h.1 5 i (xd_i hi (by decide))
theorem Ok.u {s : hs} (h : Ok s) {i : Nat} (hi : i < 8) : 0 ≤ s 6 i ∧ s 6 i ≤ 8 := h.1 6 i (xd_i hi (by decide))
theorem Ok.h {s : hs} (h : Ok s) {i : Nat} (hi : i < 8) : 0 ≤ s 7 i ∧ s 7 i ≤ 2 := h.1 7 i (xd_i hi (by decide))
theorem Ok.r {s : hs} (h : Ok s) {i : Nat} (hi : i < 6) : -1 ≤ s 8 i ∧ s 8 i ≤ 191 := h.1 8 i (xd_i hi (by decide))
theorem Ok.g {s : hs} (h : Ok s) {i : Nat} (hi : i < 2) : -1 ≤ s 9 i ∧ s 9 i ≤ 7 := h.1 9 i (xd_i hi (by decide))
theorem Ok.t {s : hs} (h : Ok s) {i : Nat} (hi : i < 2) : -1 ≤ s 10 i ∧ s 10 i ≤ 63 := h.1 10 i (xd_i hi (by decide))
theorem Ok.p {s : hs} (h : Ok s) {i : Nat} (hi : i < 2) : -1 ≤ s 11 i ∧ s 11 i ≤ 191 := h.1 11 i (xd_i hi (by decide))
theorem Ok.c {s : hs} (h : Ok s) {i : Nat} (hi : i < 2) : -1 ≤ s 12 i ∧ s 12 i ≤ 63 := h.1 12 i (xd_i hi (by decide))
theorem Ok.stacked {s : hs} (h : Ok s) : 0 ≤ s 0 13 ∧ s 0 13 ≤ 64 := (h.1 0 13 (by decide)).1 rfl
theorem Ok.phase {s : hs} (h : Ok s) : 0 ≤ s 0 14 ∧ s 0 14 ≤ 2 := (h.1 0 14 (by decide)).2.1 rfl
theorem Ok.good {s : hs} (h : Ok s) : 0 ≤ s 0 15 ∧ s 0 15 ≤ 2 := (h.1 0 15 (by decide)).2.2.1 rfl
theorem Ok.latest {s : hs} (h : Ok s) : 0 ≤ s 0 16 ∧ s 0 16 ≤ 1 := (h.1 0 16 (by decide)).2.2.2.1 rfl
theorem Ok.clock {s : hs} (h : Ok s) : 0 ≤ s 0 17 ∧ s 0 17 ≤ 10500 := (h.1 0 17 (by decide)).2.2.2.2.1 rfl
theorem Ok.x {s : hs} (h : Ok s) : 0 ≤ s 0 18 ∧ s 0 18 ≤ 31062 := (h.1 0 18 (by decide)).2.2.2.2.2 rfl
theorem Ok.n {s : hs} (h : Ok s) : 0 ≤ s 13 0 ∧ s 13 0 ≤ 25 := h.2.1
theorem Ok.b {s : hs} (h : Ok s) {i : Nat} (hi : (i : Int) < s 13 0) : (0 ≤ s 13 (1 + 3 * i) ∧ s 13 (1 + 3 * i) ≤ 10500) ∧ (0 ≤ s 13 (2 + 3 * i) ∧ s 13 (2 + 3 * i) ≤ 5) ∧ (0 ≤ s 13 (3 + 3 * i) ∧ s 13 (3 + 3 * i) ≤ 255) := h.2.2 i hi
theorem Ok.up {s : hs} (h : Ok s) {k i : Nat} {v : Int} (hk : k ≠ 13) (hv : rgP k i v) : Ok (up2 s k i v) := by
  refine ⟨fun k' i' hd => ?_, ?_⟩
  · rw [up2_ap]
    by_cases e : k' = k ∧ i' = i
    · rw [if_pos e, e.1, e.2]; exact hv
    · rw [if_neg e]; exact h.1 k' i' hd
  · have c : ∀ j : Nat, up2 s k i v 13 j = s 13 j := fun j => by rw [up2_ap, if_neg (fun c => hk c.1.symm)]
    refine ⟨by rw [c]; exact h.2.1, fun j hj => ?_⟩
    rw [c] at hj
    rw [c, c, c]
    exact h.2.2 j hj
/-- a slot of the row behind a base -/
theorem yx (k : Nat) {b x : Int32} {w : Nat} (hb : b.toInt = (k : Int)) (hx : x.toInt = (w : Int)) (h : k + w < 9878) : xin (b + x) 9878 = true ∧ (b + x).toNatClampNeg = k + w :=
  ⟨i_in (i_bx k hb hx (by omega)) h, i_ix (i_bx k hb hx (by omega))⟩
theorem y_fieldsOf {M : xm} {s : hs} (h : RY M s) (o : Ok s) {a : Int32} {w : Nat} (ha : a.toInt = (w : Int)) (hw : w < 64) : ∃ r, f_X10_fieldsOf M a = some r ∧ r.toInt = s 1 w - 1000 := by
  have e := yx 41 (b := 41) rfl ha (by omega)
  have b := o.w hw
  unfold f_X10_fieldsOf
  rw [if_pos e.1, e.2]
  exact ⟨_, rfl, i_sub (h.w hw) rfl (by omega) (by omega)⟩
theorem y_sizeOf {M : xm} {s : hs} (h : RY M s) (o : Ok s) {a : Int32} {w : Nat} (ha : a.toInt = (w : Int)) (hw : w < 64) : ∃ r, f_X10_sizeOf M a = some r ∧ r.toInt = s 1 w - 999 := by
  obtain ⟨r, h1, h2⟩ := y_fieldsOf h o ha hw
  have b := o.w hw
  unfold f_X10_sizeOf
  rw [h1, xb1_some]
  refine ⟨_, rfl, ?_⟩
  rw [i_add h2 (b := 1) rfl (by omega) (by omega)]
  omega
theorem y_isMarked {M : xm} {s : hs} (h : RY M s) {a : Int32} {w : Nat} (ha : a.toInt = (w : Int)) (hw : w < 64) : f_X10_isMarked M a = some (if s 3 w = 1 then 1 else 0) := by
  have e := yx 169 (b := 169) rfl ha (by omega)
  unfold f_X10_isMarked
  rw [if_pos e.1, e.2]
  simp only [i_eq, h.m hw, Int32.reduceToInt]
  split <;> rfl
theorem y_isBegun {M : xm} {s : hs} (h : RY M s) {a : Int32} {w : Nat} (ha : a.toInt = (w : Int)) (hw : w < 2) : f_X10_isBegun M a = some (if s 10 w = -1 then 0 else 1) := by
  have e := yx 35 (b := 35) rfl ha (by omega)
  unfold f_X10_isBegun
  rw [if_pos e.1, e.2]
  simp only [i_eq, h.t hw, Int32.reduceToInt]
  split <;> rfl
theorem y_areThreads {M : xm} {s : hs} (h : RY M s) : f_X10_areThreadsBegun M = some (if s 10 0 = -1 ∧ s 10 1 = -1 then 0 else 1) := by
  unfold f_X10_areThreadsBegun
  rw [y_isBegun h (a := 0) (w := 0) rfl (by omega), y_isBegun h (a := 1) (w := 1) rfl (by omega)]
  by_cases h0 : s 10 0 = -1 <;> by_cases h1 : s 10 1 = -1 <;> simp [h0, h1, xb1]
theorem y_isGood {M : xm} {s : hs} (h : RY M s) {a : Int32} {p : Int} (ha : a.toInt = p) (hp : -1 ≤ p ∧ p ≤ 191) : f_X10_isGood M a = if sGood s p then 1 else 0 := by
  unfold f_X10_isGood f_X10_colourOf
  by_cases c : p = -1
  · rw [if_pos (by rw [i_eq, ha, c]; rfl), if_pos (Or.inl c)]
  · rw [if_neg (by rw [i_eq, ha]; exact c)]
    have e := i_div (x := a) (y := 64) (b := 64) ha rfl (by omega) (by omega) (by omega)
    by_cases c2 : p / 64 = s 0 15
    · rw [if_pos (by rw [i_eq, e, h.good]; exact c2), if_pos (Or.inr c2)]
    · rw [if_neg (by rw [i_eq, e, h.good]; exact c2), if_neg (fun q => q.elim c c2)]
theorem y_whereOf {M : xm} {s : hs} (h : RY M s) (o : Ok s) {a : Int32} {p : Int} (ha : a.toInt = p) (hp : 0 ≤ p ∧ p ≤ 191) : ∃ r, f_X10_whereOf M a = some r ∧ r.toInt = (sWh s p : Int) := by
  have e1 := i_div (x := a) (y := 64) (b := 64) ha rfl (by omega) (by omega) (by omega)
  have e2 := i_rem (x := a) (y := 64) (b := 64) ha rfl (by omega) (by omega) (by omega)
  have hm : (p % 64).toNat < 64 := by omega
  have e3 : (xrem a 64).toInt = ((p % 64).toNat : Int) := by rw [e2]; omega
  have e := yx 105 (b := 105) rfl e3 (by omega)
  have b := o.f hm
  unfold f_X10_whereOf f_X10_colourOf
  simp only [xlet_eq, if_pos e.1, e.2]
  simp only [i_eq, e1, h.good, h.f hm, Int32.reduceToInt]
  unfold sWh
  by_cases c1 : p / 64 = s 0 15
  · exact ⟨_, by rw [if_pos c1], by rw [e3, if_pos (Or.inl c1)]⟩
  · by_cases c2 : p / 64 = 2
    · exact ⟨_, by rw [if_neg c1, if_pos c2], by rw [e3, if_pos (Or.inr (Or.inl c2))]⟩
    · by_cases c3 : s 2 (p % 64).toNat = -1
      · exact ⟨_, by rw [if_neg c1, if_neg c2, if_pos c3], by rw [e3, if_pos (Or.inr (Or.inr c3))]⟩
      · exact ⟨_, by rw [if_neg c1, if_neg c2, if_neg c3], by rw [h.f hm, if_neg (fun q => q.elim c1 (fun q => q.elim c2 c3))]; omega⟩
theorem sWh_lt {s : hs} (o : Ok s) {p : Int} (hp : 0 ≤ p ∧ p ≤ 191) : sWh s p < 64 := by
  unfold sWh
  have hm : (p % 64).toNat < 64 := by omega
  have b := o.f hm
  split <;> omega
theorem y_needsMove {M : xm} {s : hs} (h : RY M s) (o : Ok s) {a : Int32} {p : Int} (ha : a.toInt = p) (hp : -1 ≤ p ∧ p ≤ 191) : f_X10_needsMove M a = some (if sNeed s p then 1 else 0) := by
  unfold f_X10_needsMove
  rw [y_isGood h ha hp]
  by_cases c1 : s 0 14 = 2
  · rw [if_pos (by rw [i_eq, h.phase]; exact c1)]
    by_cases c2 : sGood s p
    · rw [if_pos c2, if_neg (by decide), if_neg (fun q => q.1 c2)]
    · rw [if_neg c2, if_pos rfl]
      have hp' : 0 ≤ p ∧ p ≤ 191 := ⟨by
        have : p ≠ -1 := fun q => c2 (Or.inl q)
        omega, hp.2⟩
      obtain ⟨r, h1, h2⟩ := y_whereOf h o ha hp'
      have hl := sWh_lt o hp'
      have e8 := i_div (x := r) (y := 8) (b := 8) h2 rfl (by omega) (by omega) (by omega)
      have e8' : (r / 8).toInt = ((sWh s p / 8 : Nat) : Int) := by rw [e8]; omega
      have e := yx 13 (b := 13) rfl e8' (by omega)
      have e' := yx 105 (b := 105) rfl h2 (by omega)
      rw [h1, xb1_some]
      simp only [if_pos e.1, if_pos e'.1, e.2, e'.2]
      simp only [i_eq, h.h (show sWh s p / 8 < 8 by omega), h.f hl, Int32.reduceToInt]
      by_cases c3 : s 7 (sWh s p / 8) = 2
      · by_cases c4 : s 2 (sWh s p) = -1
        · rw [if_pos c3, if_pos c4, if_pos ⟨c2, c1, c3, c4⟩]
        · rw [if_pos c3, if_neg c4, if_neg (fun q => c4 q.2.2.2)]
      · rw [if_neg c3, if_neg (fun q => c3 q.2.2.1)]
  · rw [if_neg (by rw [i_eq, h.phase]; exact c1), if_neg (fun q => c1 q.2.1)]
theorem sFr_le {s : hs} : ∀ (d p : Nat), p ≤ sFr s d p ∧ sFr s d p ≤ p + d ∧ (sFr s d p < p + d → s 7 (sFr s d p) = 0) := by
  intro d
  induction d with
  | zero => intro p; unfold sFr; omega
  | succ d ih =>
    intro p
    unfold sFr
    split
    · rename_i c; exact ⟨Nat.le_refl _, by omega, fun _ => c⟩
    · have := ih (p + 1)
      exact ⟨by omega, by omega, fun q => this.2.2 (by omega)⟩
theorem sFree_le (s : hs) : sFree s ≤ 8 := by have := (sFr_le (s := s) 8 0).2.1; unfold sFree; omega
theorem sFree_0 {s : hs} (h : sFree s < 8) : s 7 (sFree s) = 0 := (sFr_le (s := s) 8 0).2.2 (by unfold sFree at h; omega)
theorem y_lowestFree {M : xm} {s : hs} (h : RY M s) : ∃ r, f_X10_lowestFree M = some r ∧ r.toInt = if sFree s < 8 then (sFree s : Int) else -1 := by
  have key : ∀ (d p n : Nat), p + d = 8 → d < n → ∀ x : Int32, x.toInt = (p : Int) → g_X10_lowestFree_2 M n x = some (if sFr s d p < 8 then Sum.inl (nI (sFr s d p)) else Sum.inr ()) := by
    intro d
    induction d with
    | zero =>
      intro p n hp hn x hx
      obtain ⟨n, rfl⟩ : ∃ k, n = k + 1 := ⟨n - 1, by omega⟩
      unfold g_X10_lowestFree_2 sFr
      rw [if_pos (by rw [i_le, hx]; simp only [Int32.reduceToInt]; omega), if_neg (by omega)]
    | succ d ih =>
      intro p n hp hn x hx
      obtain ⟨n, rfl⟩ : ∃ k, n = k + 1 := ⟨n - 1, by omega⟩
      have e := yx 13 (b := 13) rfl hx (by omega)
      unfold g_X10_lowestFree_2 sFr
      rw [if_neg (by rw [i_le, hx]; simp only [Int32.reduceToInt]; omega), if_pos e.1, e.2, xlet_eq]
      by_cases c : s 7 p = 0
      · rw [if_pos (by rw [i_eq, h.h (show p < 8 by omega)]; exact c), if_pos c, if_pos (by omega)]
        have : x = nI p := by rw [i_eq, hx, nI_toInt (by omega)]
        rw [this]
      · rw [if_neg (by rw [i_eq, h.h (show p < 8 by omega)]; exact c), if_neg c]
        exact ih (p + 1) n (by omega) (by omega) _ (by rw [i_add hx (b := 1) rfl (by omega) (by omega)]; omega)
  have k0 := key 8 0 xfuel (by omega) (by unfold xfuel; omega) 0 rfl
  unfold f_X10_lowestFree
  rw [k0]
  have : sFr s 8 0 = sFree s := rfl
  rw [this]
  by_cases c : sFree s < 8
  · rw [if_pos c]
    exact ⟨_, rfl, by rw [if_pos c, nI_toInt (by omega)]⟩
  · rw [if_neg c]
    exact ⟨_, rfl, by rw [if_neg c]; rfl⟩
theorem y_hasRoom {M : xm} {s : hs} (h : RY M s) (o : Ok s) {a b : Int32} {n u : Nat} (ha : a.toInt = (n : Int)) (hn : n ≤ 8) (hb : b.toInt = ((9 + u : Nat) : Int)) (hu : u < 2) : f_X10_hasRoom M a b = some (if sRoom s u n then 1 else 0) := by
  have r := o.g hu
  unfold f_X10_hasRoom
  rw [if_pos (i_in hb (by omega)), i_ix hb]
  obtain ⟨f, hf, hf'⟩ := y_lowestFree h
  have k : (xb1 (f_X10_lowestFree M) (fun v4 => (if v4 = (-1 : Int32) then some (0 : Int32) else some (1 : Int32)))) = some (if sFree s < 8 then 1 else 0) := by
    rw [hf, xb1_some]
    simp only [i_eq, hf', Int32.reduceToInt]
    by_cases c : sFree s < 8
    · rw [if_pos c, if_neg (by omega), if_pos c]
    · rw [if_neg c, if_pos rfl, if_neg c]
  rw [k, xlet_eq]
  by_cases c1 : s 9 u = -1
  · rw [if_pos (by rw [i_eq, h.g hu, c1]; rfl)]
    by_cases c : sFree s < 8
    · rw [if_pos c, if_pos (Or.inr c)]
    · rw [if_neg c, if_neg (fun q => q.elim (fun q => q.1 c1) c)]
  · rw [if_neg (by rw [i_eq, h.g hu]; exact c1)]
    have hg : (M 1 (9 + u)).toInt = ((s 9 u).toNat : Int) := by rw [h.g hu]; omega
    have e := yx 21 (b := 21) rfl hg (by omega)
    have hp : (s 9 u).toNat < 8 := by omega
    have b2 := o.u hp
    rw [if_pos e.1, e.2]
    have e2 := i_add (h.u hp) ha (by omega) (by omega)
    simp only [i_le, e2, Int32.reduceToInt]
    by_cases c2 : s 6 (s 9 u).toNat + n ≤ 8
    · rw [if_pos c2, if_pos (Or.inl ⟨c1, c2⟩)]
    · rw [if_neg c2]
      by_cases c : sFree s < 8
      · rw [if_pos c, if_pos (Or.inr c)]
      · rw [if_neg c, if_neg (fun q => q.elim (fun q => c2 q.2) c)]
theorem y_given {M : xm} {s : hs} (h : RY M s) (o : Ok s) {a b : Int32} {n u : Nat} (ha : a.toInt = (n : Int)) (hn : n ≤ 8) (hb : b.toInt = ((9 + u : Nat) : Int)) (hu : u < 2) (hr : sRoom s u n) : ∃ r M', f_X10_given M a b = some (r, M') ∧ r.toInt = (sAt s u n : Int) ∧ RY M' (sGive s u n) ∧ frY M M' := by
  have r := o.g hu
  unfold f_X10_given
  rw [if_pos (i_in hb (by omega)), i_ix hb, xlet_eq, xlet_eq]
  -- the last part, on any memory that has the page
  have tail : ∀ (M2 : xm) (t : hs) (p : Nat), RY M2 t → (t 9 u = (p : Int)) → p < 8 → 0 ≤ t 6 p → t 6 p ≤ 8 → ∃ r M', (if xin ((21 : Int32) + (M2 1 (9 + u))) 9878 = true then xlet (((8 : Int32) * (M2 1 (9 + u))) + (M2 1 (Int32.toNatClampNeg ((21 : Int32) + (M2 1 (9 + u)))))) (fun v5 => xlet (up2 M2 1 (Int32.toNatClampNeg ((21 : Int32) + (M2 1 (9 + u)))) ((M2 1 (Int32.toNatClampNeg ((21 : Int32) + (M2 1 (9 + u))))) + a)) (fun M6 => some (v5, M6))) else none) = some (r, M') ∧ r.toInt = ((8 * p + (t 6 p).toNat : Nat) : Int) ∧ RY M' (up2 t 6 p (t 6 p + n)) ∧ frY M2 M' := by
    intro M2 t p h2 hp hp8 hl hh
    have hg : (M2 1 (9 + u)).toInt = (p : Int) := by rw [h2.g hu, hp]
    have e := yx 21 (b := 21) rfl hg (by omega)
    rw [if_pos e.1, e.2, xlet_eq, xlet_eq]
    refine ⟨_, _, rfl, ?_, RY.up h2 (k := 6) (i := p) (yd_i hp8 (by decide) (by decide)) (by decide) (i_add (h2.u hp8) ha (by omega) (by omega)), frY.up (by omega)⟩
    have m8 := i_mul (x := 8) (y := M2 1 (9 + u)) (a := 8) rfl hg (by omega) (by omega)
    rw [i_add m8 (h2.u hp8) (by omega) (by omega)]
    omega
  by_cases c : sFits s u n
  · have hp : (s 9 u).toNat < 8 := by have := c.1; omega
    have hg : (M 1 (9 + u)).toInt = ((s 9 u).toNat : Int) := by rw [h.g hu]; have := c.1; omega
    have e := yx 21 (b := 21) rfl hg (by omega)
    have b2 := o.u hp
    rw [if_neg (by rw [i_eq, h.g hu]; exact c.1), if_pos e.1, if_pos (by rw [e.2, i_le, i_add (h.u hp) ha (by omega) (by omega)]; exact c.2)]
    obtain ⟨r, M', k1, k2, k3, k4⟩ := tail M s (s 9 u).toNat h (by have := c.1; omega) hp b2.1 b2.2
    refine ⟨r, M', k1, ?_, ?_, k4⟩
    · rw [k2]; unfold sAt sPg; rw [if_pos c]
    · unfold sGive; rw [if_pos c]; exact k3
  · have hf : sFree s < 8 := hr.elim (fun q => absurd q c) id
    obtain ⟨f, hf1, hf2⟩ := y_lowestFree h
    rw [if_pos hf] at hf2
    have b2 := o.u hf
    have goal2 : ∃ r M', (xb1 (f_X10_lowestFree M) fun v9 => xlet (up2 M 1 (9 + u) v9) fun M11 => if xin ((13 : Int32) + M11 1 (9 + u)) 9878 = true then xlet (up2 M11 1 (Int32.toNatClampNeg ((13 : Int32) + M11 1 (9 + u))) (1 : Int32)) fun M13 => if xin ((21 : Int32) + (M13 1 (9 + u))) 9878 = true then xlet (((8 : Int32) * (M13 1 (9 + u))) + (M13 1 (Int32.toNatClampNeg ((21 : Int32) + (M13 1 (9 + u)))))) (fun v5 => xlet (up2 M13 1 (Int32.toNatClampNeg ((21 : Int32) + (M13 1 (9 + u)))) ((M13 1 (Int32.toNatClampNeg ((21 : Int32) + (M13 1 (9 + u))))) + a)) (fun M6 => some (v5, M6))) else none else none) = some (r, M') ∧ r.toInt = (sAt s u n : Int) ∧ RY M' (sGive s u n) ∧ frY M M' := by
      rw [hf1, xb1_some, xlet_eq]
      have h1 : RY (up2 M 1 (9 + u) f) (up2 s 9 u (sFree s)) := RY.up h (k := 9) (i := u) (yd_i hu (by decide) (by decide)) (by decide) hf2
      have hg : ((up2 M 1 (9 + u) f) 1 (9 + u)).toInt = (sFree s : Int) := by rw [up2_same]; exact hf2
      have e := yx 13 (b := 13) rfl hg (by omega)
      rw [if_pos e.1, e.2, xlet_eq]
      have h2 : RY (up2 (up2 M 1 (9 + u) f) 1 (13 + sFree s) 1) (up2 (up2 s 9 u (sFree s)) 7 (sFree s) 1) := RY.up h1 (k := 7) (i := sFree s) (yd_i hf (by decide) (by decide)) (by decide) rfl
      obtain ⟨r, M', k1, k2, k3, k4⟩ := tail _ _ (sFree s) h2 (by simp [up2_ap]) hf (by simp [up2_ap]; exact b2.1) (by simp [up2_ap]; exact b2.2)
      refine ⟨r, M', k1, ?_, ?_, frY.tr (frY.tr (frY.up (by omega)) (frY.up (by omega))) k4⟩
      · rw [k2]; unfold sAt sPg; rw [if_neg c]; simp [up2_ap]
      · unfold sGive; rw [if_neg c]
        have : up2 (up2 (up2 s 9 u (sFree s : Int)) 7 (sFree s) 1) 6 (sFree s) ((up2 (up2 s 9 u (sFree s : Int)) 7 (sFree s) 1) 6 (sFree s) + n) = up2 (up2 (up2 s 7 (sFree s) 1) 9 u (sFree s : Int)) 6 (sFree s) (s 6 (sFree s) + n) := by
          funext k i
          simp only [up2_ap]
          by_cases k6 : k = 6
          · subst k6; simp
          · by_cases k9 : k = 9
            · subst k9; simp
            · simp [k6, k9]
        rw [this] at k3
        exact k3
    by_cases c1 : s 9 u = -1
    · rw [if_pos (by rw [i_eq, h.g hu, c1]; rfl)]
      exact goal2
    · have hp : (s 9 u).toNat < 8 := by omega
      have hg : (M 1 (9 + u)).toInt = ((s 9 u).toNat : Int) := by rw [h.g hu]; omega
      have e := yx 21 (b := 21) rfl hg (by omega)
      have b3 := o.u hp
      rw [if_neg (by rw [i_eq, h.g hu]; exact c1), if_pos e.1, if_neg (by rw [e.2, i_le, i_add (h.u hp) ha (by omega) (by omega)]; exact fun q => c ⟨c1, q⟩)]
      exact goal2
