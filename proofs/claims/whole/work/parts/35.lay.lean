/-! layout: what lies where -/
def sLv (s : hs) : Nat → Nat → Int
  | 0, _ => 0
  | d + 1, w => (if s 3 w = 1 ∧ 1000 ≤ s 1 w then s 1 w - 999 else 0) + sLv s d (w + 1)
def sLive (s : hs) (p : Nat) : Int := sLv s 8 (8 * p)
def La1 (s : hs) : Prop := ∀ w, w < 64 → 1000 ≤ s 1 w → ((w % 8 : Nat) : Int) + (s 1 w - 999) ≤ s 6 (w / 8)
def La2 (s : hs) : Prop := ∀ w, w < 64 → 1000 ≤ s 1 w → ∀ j : Nat, 1 ≤ j → (j : Int) ≤ s 1 w - 1000 → -1 ≤ s 1 (w + j) ∧ s 1 (w + j) ≤ 191
def La3 (s : hs) : Prop := ∀ w, w < 64 → s 6 (w / 8) ≤ ((w % 8 : Nat) : Int) → s 1 w = -2 ∧ s 3 w = 0
def La4 (s : hs) : Prop := ∀ w, w < 64 → s 3 w = 1 → 1000 ≤ s 1 w
def La5 (s : hs) : Prop := ∀ p, p < 8 → s 7 p = 0 → s 6 p = 0
def La6 (s : hs) : Prop := ∀ u, u < 2 → s 9 u ≠ -1 → s 7 (s 9 u).toNat = 1
def La7 (s : hs) : Prop := ∀ p, p < 8 → s 5 p = sLive s p
def Lay (s : hs) : Prop := La1 s ∧ La2 s ∧ La3 s ∧ La4 s ∧ La5 s ∧ La6 s ∧ La7 s
theorem sLv_nn (s : hs) : ∀ (d w : Nat), 0 ≤ sLv s d w := by
  intro d
  induction d with
  | zero => intro w; exact Int.le_refl _
  | succ d ih =>
    intro w
    have := ih (w + 1)
    unfold sLv
    split <;> omega
/-- what lives in a page's last words is no more than they are -/
theorem sLv_le {s : hs} (o : Ok s) (l1 : La1 s) (l2 : La2 s) {p : Nat} (hp : p < 8) : ∀ (d j : Nat), j + d = 8 → sLv s d (8 * p + j) ≤ d := by
  intro d
  induction d using Nat.strongRecOn with
  | ind d ih =>
    intro j hj
    match d, ih, hj with
    | 0, _, _ => exact Int.le_refl _
    | d + 1, ih, hj =>
      by_cases c : s 3 (8 * p + j) = 1 ∧ 1000 ≤ s 1 (8 * p + j)
      · have b := o.w (show 8 * p + j < 64 by omega)
        obtain ⟨n, hn⟩ : ∃ n : Nat, s 1 (8 * p + j) = 1000 + n := ⟨(s 1 (8 * p + j) - 1000).toNat, by omega⟩
        have h1 := l1 (8 * p + j) (by omega) c.2
        have u := o.u hp
        have e8 : (8 * p + j) / 8 = p := by omega
        rw [e8] at h1
        have h2 := l2 (8 * p + j) (by omega) c.2
        -- the words behind its head have no head
        have skip : ∀ (m q : Nat), m + q = n → sLv s (d - q) (8 * p + j + 1 + q) = sLv s (d - n) (8 * p + j + 1 + n) := by
          intro m
          induction m with
          | zero => intro q hq; rw [show q = n by omega]
          | succ m im =>
            intro q hq
            rw [← im (q + 1) (by omega)]
            have h3 := h2 (q + 1) (by omega) (by omega)
            rw [show d - q = (d - (q + 1)) + 1 by omega, sLv]
            rw [if_neg (by rw [show 8 * p + j + 1 + q = 8 * p + j + (q + 1) by omega]; omega)]
            rw [show 8 * p + j + 1 + q + 1 = 8 * p + j + 1 + (q + 1) by omega]
            omega
        have h4 := skip n 0 (by omega)
        have h5 := ih (d - n) (by omega) (j + 1 + n) (by omega)
        rw [sLv, if_pos c]
        rw [show 8 * p + j + 1 = 8 * p + j + 1 + 0 by omega, show d = d - 0 by omega, h4]
        rw [show 8 * p + (j + 1 + n) = 8 * p + j + 1 + n by omega] at h5
        omega
      · have h5 := ih d (by omega) (j + 1) (by omega)
        rw [sLv, if_neg c]
        rw [show 8 * p + j + 1 = 8 * p + (j + 1) by omega]
        omega
theorem Lay.live8 {s : hs} (o : Ok s) (l : Lay s) {p : Nat} (hp : p < 8) : 0 ≤ s 5 p ∧ s 5 p ≤ 8 := by
  rw [l.2.2.2.2.2.2 p hp]
  exact ⟨sLv_nn s 8 _, by have := sLv_le o l.1 l.2.1 hp 8 0 (by omega); exact this⟩
/-- sums look at words and marks alone -/
theorem sLv_eq {s t : hs} : ∀ (d w : Nat), (∀ i, w ≤ i → i < w + d → (s 3 i = 1 ∧ 1000 ≤ s 1 i ↔ t 3 i = 1 ∧ 1000 ≤ t 1 i) ∧ (s 3 i = 1 ∧ 1000 ≤ s 1 i → s 1 i = t 1 i)) → sLv s d w = sLv t d w := by
  intro d
  induction d with
  | zero => intro w _; rfl
  | succ d ih =>
    intro w h
    have h0 := h w (by omega) (by omega)
    rw [sLv, sLv, ih (w + 1) (fun i h1 h2 => h i (by omega) (by omega))]
    by_cases c : s 3 w = 1 ∧ 1000 ≤ s 1 w
    · rw [if_pos c, if_pos (h0.1.mp c), h0.2 c]
    · rw [if_neg c, if_neg (fun q => c (h0.1.mpr q))]
/-- one head more is marked -/
theorem sLv_up {s t : hs} {b : Nat} {z : Int} (hb : ¬ (s 3 b = 1 ∧ 1000 ≤ s 1 b)) (hb' : t 3 b = 1 ∧ 1000 ≤ t 1 b) (hz : t 1 b - 999 = z) (h : ∀ i, i ≠ b → (s 3 i = t 3 i ∧ s 1 i = t 1 i)) : ∀ (d w : Nat), sLv t d w = sLv s d w + if w ≤ b ∧ b < w + d then z else 0 := by
  intro d
  induction d with
  | zero => intro w; rw [if_neg (by omega)]; rfl
  | succ d ih =>
    intro w
    rw [sLv, sLv, ih (w + 1)]
    by_cases c : w = b
    · subst c
      rw [if_neg hb, if_pos hb', if_neg (by omega), if_pos (by omega), hz]
      omega
    · have := h w c
      rw [this.1, this.2]
      by_cases c2 : w + 1 ≤ b ∧ b < w + 1 + d
      · rw [if_pos c2, if_pos (show w ≤ b ∧ b < w + (d + 1) by omega)]; omega
      · rw [if_neg c2, if_neg (show ¬ (w ≤ b ∧ b < w + (d + 1)) by omega)]; omega
/-- what is given out is fresh -/
theorem give_facts {s : hs} (o : Ok s) (l : Lay s) {u n : Nat} (hu : u < 2) (hn : 1 ≤ n ∧ n ≤ 4) (hr : sRoom s u n) : sPg s u n < 8 ∧ sAt s u n = 8 * sPg s u n + (s 6 (sPg s u n)).toNat ∧ s 6 (sPg s u n) + n ≤ 8 ∧ (sFits s u n → s 7 (sPg s u n) = 1 ∧ s 9 u = sPg s u n) ∧ (¬ sFits s u n → s 7 (sPg s u n) = 0 ∧ s 6 (sPg s u n) = 0) ∧ sAt s u n + n ≤ 64 ∧ sAt s u n / 8 = sPg s u n ∧ ((sAt s u n % 8 : Nat) : Int) = s 6 (sPg s u n) := by
  have g := o.g hu
  have key : sPg s u n < 8 ∧ s 6 (sPg s u n) + n ≤ 8 ∧ (sFits s u n → s 7 (sPg s u n) = 1 ∧ s 9 u = sPg s u n) ∧ (¬ sFits s u n → s 7 (sPg s u n) = 0 ∧ s 6 (sPg s u n) = 0) := by
    unfold sPg
    by_cases c : sFits s u n
    · rw [if_pos c]
      have := c.1
      exact ⟨by omega, c.2, fun _ => ⟨l.2.2.2.2.2.1 u hu c.1, by omega⟩, fun q => absurd c q⟩
    · rw [if_neg c]
      have hf : sFree s < 8 := hr.elim (fun q => absurd q c) id
      have h0 := sFree_0 hf
      have h6 := l.2.2.2.2.1 _ hf h0
      exact ⟨hf, by omega, fun q => absurd q c, fun _ => ⟨h0, h6⟩⟩
  have u6 := o.u key.1
  refine ⟨key.1, rfl, key.2.1, key.2.2.1, key.2.2.2, ?_, ?_, ?_⟩
  · unfold sAt; omega
  · unfold sAt; omega
  · unfold sAt; omega
theorem give_fresh {s : hs} (o : Ok s) (l : Lay s) {u n : Nat} (hu : u < 2) (hn : 1 ≤ n ∧ n ≤ 4) (hr : sRoom s u n) {i : Nat} (h1 : sAt s u n ≤ i) (h2 : i < 8 * sPg s u n + 8) : s 1 i = -2 ∧ s 3 i = 0 := by
  obtain ⟨a, b, c, _, _, _, e, f⟩ := give_facts o l hu hn hr
  have e8 : i / 8 = sPg s u n := by omega
  refine l.2.2.1 i (by omega) ?_
  rw [e8]
  omega
/-- an object lies elsewhere -/
theorem give_apart {s : hs} (o : Ok s) (l : Lay s) {u n : Nat} (hu : u < 2) (hn : 1 ≤ n ∧ n ≤ 4) (hr : sRoom s u n) {a m : Nat} (ha : a < 64) (hh : s 1 a = 999 + m) (hm : 1 ≤ m) : a + m ≤ sAt s u n ∨ sAt s u n + n ≤ a := by
  obtain ⟨p8, b, c, _, _, _, e, f⟩ := give_facts o l hu hn hr
  have h1 := l.1 a ha (by omega)
  have u6 := o.u (show a / 8 < 8 by omega)
  by_cases q : a / 8 = sPg s u n
  · rw [q] at h1 u6
    left
    omega
  · omega
theorem sGive_k {s : hs} {u n k : Nat} (i : Nat) (h6 : k ≠ 6) (h7 : k ≠ 7) (h9 : k ≠ 9) : sGive s u n k i = s k i := by
  unfold sGive
  split <;> simp [up2_ap, h6, h7, h9]
theorem Ok_give {s : hs} (o : Ok s) (l : Lay s) {u n : Nat} (hu : u < 2) (hn : 1 ≤ n ∧ n ≤ 4) (hr : sRoom s u n) : Ok (sGive s u n) := by
  obtain ⟨p8, b, c, d1, d2, _, e, f⟩ := give_facts o l hu hn hr
  have u6 := o.u p8
  unfold sGive
  by_cases q : sFits s u n
  · rw [if_pos q]
    have : sPg s u n = (s 9 u).toNat := by unfold sPg; rw [if_pos q]
    rw [this] at u6 c
    exact o.up (by decide) ⟨by omega, by omega⟩
  · rw [if_neg q]
    have : sPg s u n = sFree s := by unfold sPg; rw [if_neg q]
    rw [this] at u6 c p8
    refine Ok.up ?_ (by decide) ⟨by omega, by omega⟩
    refine Ok.up ?_ (by decide) ⟨by omega, by omega⟩
    exact Ok.up o (by decide) ⟨by omega, by omega⟩
theorem Ok_copy {s : hs} (o : Ok s) {a b n : Nat} (ha : a + n ≤ 64) (hb : b + n ≤ 64) : Ok (sCopy s a b n) := by
  refine ⟨fun k i hd => ?_, ?_⟩
  · unfold sCopy
    split
    · rename_i c
      rw [c.1]
      exact o.w (show a + (i - b) < 64 by omega)
    · exact o.1 k i hd
  · have c : ∀ j : Nat, sCopy s a b n 13 j = s 13 j := fun j => by unfold sCopy; rw [if_neg (by omega)]
    refine ⟨by rw [c]; exact o.2.1, fun j hj => ?_⟩
    rw [c] at hj
    rw [c, c, c]
    exact o.2.2 j hj
theorem Ok_mark {s : hs} (o : Ok s) {w : Nat} (hw : w < 64) (h5 : s 5 (w / 8) ≤ 8) : Ok (sMark s w) := by
  unfold sMark
  split
  · rename_i c
    have b := o.w hw
    have b5 := o.l (show w / 8 < 8 by omega)
    refine Ok.up ?_ (by decide) ⟨by omega, by omega⟩
    exact Ok.up o (by decide) ⟨by omega, by omega⟩
  · exact o
theorem Ok_wr {s : hs} (o : Ok s) {kd v : Int} (hk : 0 ≤ kd ∧ kd ≤ 5) (hv : 0 ≤ v ∧ v ≤ 255) : Ok (sWr s kd v) := by
  have on := o.n
  have oc := o.clock
  refine ⟨fun k i hd => ?_, ?_, fun i hi => ?_⟩
  · rw [sWr_k i (by have := (xd_lt hd).1; omega)]
    exact o.1 k i hd
  · unfold sWr
    rw [if_pos rfl]
    split
    · simp
    · simp; omega
  · unfold sWr at hi ⊢
    rw [if_pos rfl] at hi
    rw [if_pos rfl, if_pos rfl, if_pos rfl]
    by_cases c : s 13 0 = 25
    · rw [if_pos c, if_pos rfl] at hi
      rw [if_pos c, if_pos c, if_pos c]
      by_cases c2 : i = 24
      · subst c2; simp; omega
      · have := o.b (i := i + 1) (by omega)
        rw [if_neg (by omega), if_neg (by omega), if_neg (by omega), if_neg (by omega), if_neg (by omega), if_neg (by omega), if_neg (by omega), if_neg (by omega), if_neg (by omega), if_neg (by omega), if_neg (by omega), if_neg (by omega)]
        exact this
    · rw [if_neg c, if_pos rfl] at hi
      rw [if_neg c, if_neg c, if_neg c]
      by_cases c2 : (i : Int) = s 13 0
      · have c3 : i = (s 13 0).toNat := by omega
        rw [if_neg (by omega), if_pos (by omega), if_neg (by omega), if_neg (by omega), if_pos (by omega), if_neg (by omega), if_neg (by omega), if_neg (by omega), if_pos (by omega)]
        omega
      · have := o.b (i := i) (by omega)
        rw [if_neg (by omega), if_neg (by omega), if_neg (by omega), if_neg (by omega), if_neg (by omega), if_neg (by omega), if_neg (by omega), if_neg (by omega), if_neg (by omega), if_neg (by omega), if_neg (by omega), if_neg (by omega)]
        exact this
