/-! the class's heap against the specification -/
theorem RX.w {u : Nat} {M : xm} {s : hs} (h : RX u M s) {i : Nat} (hi : i < 64) : (M (u + 1) i).toInt = s 1 i := h.1 1 i (xd_i hi (by decide))
theorem RX.f {u : Nat} {M : xm} {s : hs} (h : RX u M s) {i : Nat} (hi : i < 64) : (M (u + 2) i).toInt = s 2 i := h.1 2 i (xd_i hi (by decide))
theorem RX.m {u : Nat} {M : xm} {s : hs} (h : RX u M s) {i : Nat} (hi : i < 64) : (M (u + 3) i).toInt = s 3 i := h.1 3 i (xd_i hi (by decide))
theorem RX.k {u : Nat} {M : xm} {s : hs} (h : RX u M s) {i : Nat} (hi : i < 64) : (M (u + 4) i).toInt = s 4 i := h.1 4 i (xd_i hi (by decide))
theorem RX.l {u : Nat} {M : xm} {s : hs} (h : RX u M s) {i : Nat} (hi : i < 8) : (M (u + 5) i).toInt = s 5 i := h.1 5 i (xd_i hi (by decide))
theorem RX.u {u : Nat} {M : xm} {s : hs} (h : RX u M s) {i : Nat} (hi : i < 8) : (M (u + 6) i).toInt = s 6 i := h.1 6 i (xd_i hi (by decide))
theorem RX.h {u : Nat} {M : xm} {s : hs} (h : RX u M s) {i : Nat} (hi : i < 8) : (M (u + 7) i).toInt = s 7 i := h.1 7 i (xd_i hi (by decide))
theorem RX.r {u : Nat} {M : xm} {s : hs} (h : RX u M s) {i : Nat} (hi : i < 6) : (M (u + 8) i).toInt = s 8 i := h.1 8 i (xd_i hi (by decide))
theorem RX.g {u : Nat} {M : xm} {s : hs} (h : RX u M s) {i : Nat} (hi : i < 2) : (M (u + 9) i).toInt = s 9 i := h.1 9 i (xd_i hi (by decide))
theorem RX.t {u : Nat} {M : xm} {s : hs} (h : RX u M s) {i : Nat} (hi : i < 2) : (M (u + 10) i).toInt = s 10 i := h.1 10 i (xd_i hi (by decide))
theorem RX.p {u : Nat} {M : xm} {s : hs} (h : RX u M s) {i : Nat} (hi : i < 2) : (M (u + 11) i).toInt = s 11 i := h.1 11 i (xd_i hi (by decide))
theorem RX.c {u : Nat} {M : xm} {s : hs} (h : RX u M s) {i : Nat} (hi : i < 2) : (M (u + 12) i).toInt = s 12 i := h.1 12 i (xd_i hi (by decide))
theorem RX.stacked {u : Nat} {M : xm} {s : hs} (h : RX u M s) : (M u 13).toInt = s 0 13 := h.1 0 13 (by decide)
theorem RX.phase {u : Nat} {M : xm} {s : hs} (h : RX u M s) : (M u 14).toInt = s 0 14 := h.1 0 14 (by decide)
theorem RX.good {u : Nat} {M : xm} {s : hs} (h : RX u M s) : (M u 15).toInt = s 0 15 := h.1 0 15 (by decide)
theorem RX.latest {u : Nat} {M : xm} {s : hs} (h : RX u M s) : (M u 16).toInt = s 0 16 := h.1 0 16 (by decide)
theorem RX.clock {u : Nat} {M : xm} {s : hs} (h : RX u M s) : (M u 17).toInt = s 0 17 := h.1 0 17 (by decide)
theorem RX.x {u : Nat} {M : xm} {s : hs} (h : RX u M s) : (M u 18).toInt = s 0 18 := h.1 0 18 (by decide)
theorem f_isAddress_eq (x : Int32) : f_X9_isAddress x = if 0 ≤ x.toInt ∧ x.toInt < 64 then 1 else 0 := by
  unfold f_X9_isAddress
  simp only [i_lt, i_le, Int32.reduceToInt]
  by_cases h1 : x.toInt < 0
  · rw [if_pos h1, if_neg (by omega)]
  · rw [if_neg h1]
    by_cases h2 : 64 ≤ x.toInt
    · rw [if_pos h2, if_neg (by omega)]
    · rw [if_neg h2, if_pos (by omega)]
theorem f_isPage_eq (x : Int32) : f_X9_isPage x = if 0 ≤ x.toInt ∧ x.toInt < 8 then 1 else 0 := by
  unfold f_X9_isPage
  simp only [i_lt, i_le, Int32.reduceToInt]
  by_cases h1 : x.toInt < 0
  · rw [if_pos h1, if_neg (by omega)]
  · rw [if_neg h1]
    by_cases h2 : 8 ≤ x.toInt
    · rw [if_pos h2, if_neg (by omega)]
    · rw [if_neg h2, if_pos (by omega)]
theorem f_isAddress_1 {x : Int32} {w : Nat} (hx : x.toInt = (w : Int)) (hw : w < 64) : f_X9_isAddress x = 1 := by
  rw [f_isAddress_eq, if_pos (by omega)]
theorem f_isAddress_0 {x : Int32} (hx : ¬ (0 ≤ x.toInt ∧ x.toInt < 64)) : f_X9_isAddress x = 0 := by
  rw [f_isAddress_eq, if_neg hx]
theorem f_isPage_1 {x : Int32} {w : Nat} (hx : x.toInt = (w : Int)) (hw : w < 8) : f_X9_isPage x = 1 := by
  rw [f_isPage_eq, if_pos (by omega)]
theorem f_isPage_0 {x : Int32} (hx : ¬ (0 ≤ x.toInt ∧ x.toInt < 8)) : f_X9_isPage x = 0 := by
  rw [f_isPage_eq, if_neg hx]
theorem f_isRoot_1 {x : Int32} {w : Nat} (hx : x.toInt = (w : Int)) (hw : w < 6) : f_X9_isRoot x = 1 := by
  rw [f_isRoot_eq, if_pos (by omega)]
theorem f_isRoot_0 {x : Int32} (hx : ¬ (0 ≤ x.toInt ∧ x.toInt < 6)) : f_X9_isRoot x = 0 := by
  rw [f_isRoot_eq, if_neg hx]
theorem n10 : ¬ ((1 : Int32) = 0) := by decide
theorem x_sizeAt {u : Nat} {M : xm} {s : hs} (h : RX u M s) (o : Ok s) {a : Int32} {w : Nat} (ha : a.toInt = (w : Int)) (hw : w < 64) : ∃ r, f_X1_sizeAt u M a = some r ∧ r.toInt = (sSz s w : Int) := by
  have b := o.w hw
  unfold f_X1_sizeAt
  rw [f_isAddress_1 ha hw, if_neg n10, if_pos (i_in ha hw), i_ix ha]
  unfold sSz
  by_cases c : 1000 ≤ s 1 w
  · rw [if_neg (by rw [i_lt, h.w hw]; simp only [Int32.reduceToInt]; omega), if_pos c]
    refine ⟨_, rfl, ?_⟩
    rw [i_add (i_sub (h.w hw) (b := 1000) rfl (by omega) (by omega)) (b := 1) rfl (by omega) (by omega)]
    omega
  · rw [if_pos (by rw [i_lt, h.w hw]; simp only [Int32.reduceToInt]; omega), if_neg c]
    exact ⟨_, rfl, rfl⟩
theorem x_sizeAt0 {u : Nat} {M : xm} {a : Int32} (ha : ¬ (0 ≤ a.toInt ∧ a.toInt < 64)) : f_X1_sizeAt u M a = some 0 := by
  unfold f_X1_sizeAt
  rw [f_isAddress_0 ha, if_pos rfl]
theorem x_leadsTo {u : Nat} {M : xm} {s : hs} (h : RX u M s) (o : Ok s) {a : Int32} {p : Int} (ha : a.toInt = p) (hp : 0 ≤ p ∧ p ≤ 191) : ∃ r, f_X1_leadsTo u M a = some r ∧ r.toInt = (sWh s p : Int) := by
  have e1 := i_div (x := a) (y := 64) (b := 64) ha rfl (by omega) (by omega) (by omega)
  have e2 := i_rem (x := a) (y := 64) (b := 64) ha rfl (by omega) (by omega) (by omega)
  have hm : (p % 64).toNat < 64 := by omega
  have e3 : (xrem a 64).toInt = ((p % 64).toNat : Int) := by rw [e2]; omega
  have b := o.f hm
  unfold f_X1_leadsTo
  rw [if_neg (by rw [i_lt, ha]; simp only [Int32.reduceToInt]; omega), if_pos (by rw [i_lt, ha]; simp only [Int32.reduceToInt]; omega)]
  simp only [xlet_eq, if_pos (i_in e3 hm), i_ix e3, if_neg n10, if_true]
  simp only [i_eq, e1, h.good, h.f hm, Int32.reduceToInt]
  unfold sWh
  by_cases c1 : p / 64 = s 0 15
  · exact ⟨_, by rw [if_pos c1], by rw [e3, if_pos (Or.inl c1)]⟩
  · by_cases c2 : p / 64 = 2
    · exact ⟨_, by rw [if_neg c1, if_pos c2], by rw [e3, if_pos (Or.inr (Or.inl c2))]⟩
    · by_cases c3 : s 2 (p % 64).toNat = -1
      · exact ⟨_, by rw [if_neg c1, if_neg c2, if_pos c3], by rw [e3, if_pos (Or.inr (Or.inr c3))]⟩
      · exact ⟨_, by rw [if_neg c1, if_neg c2, if_neg c3], by rw [h.f hm, if_neg (fun q => q.elim c1 (fun q => q.elim c2 c3))]; omega⟩
theorem x_leadsTo0 {u : Nat} {M : xm} {a : Int32} (ha : ¬ (0 ≤ a.toInt ∧ a.toInt ≤ 191)) : f_X1_leadsTo u M a = some (-1) := by
  unfold f_X1_leadsTo
  by_cases c : a.toInt < 0
  · rw [if_pos (by rw [i_lt]; exact c)]
  · rw [if_neg (by rw [i_lt]; exact c), if_neg (by rw [i_lt]; simp only [Int32.reduceToInt]; omega)]
theorem x_mustMove {u : Nat} {M : xm} {s : hs} (h : RX u M s) {a : Int32} {w : Nat} (ha : a.toInt = (w : Int)) (hw : w < 64) : f_X1_mustMove u M a = some (if sMust s w then 1 else 0) := by
  unfold f_X1_mustMove
  by_cases c1 : s 0 14 = 2
  · have e8 := i_div (x := a) (y := 8) (b := 8) ha rfl (by omega) (by omega) (by omega)
    have e8' : (a / 8).toInt = ((w / 8 : Nat) : Int) := by rw [e8]; omega
    rw [if_pos (by rw [i_eq, h.phase, c1]; rfl), f_isAddress_1 ha hw, if_neg n10, if_pos (i_in e8' (by omega)), i_ix e8', if_pos (i_in ha hw), i_ix ha]
    simp only [i_eq, h.h (show w / 8 < 8 by omega), h.f hw, Int32.reduceToInt]
    by_cases c3 : s 7 (w / 8) = 2
    · by_cases c4 : s 2 w = -1
      · rw [if_pos c3, if_pos c4, if_pos ⟨c1, c3, c4⟩]
      · rw [if_pos c3, if_neg c4, if_neg (fun q => c4 q.2.2)]
    · rw [if_neg c3, if_neg (fun q => c3 q.2.1)]
  · rw [if_neg (by rw [i_eq, h.phase]; exact c1), if_neg (fun q => c1 q.1)]
theorem x_free_loop {u : Nat} {M : xm} {s : hs} (h : RX u M s) (a b : Int32) : ∀ (d p n : Nat), p + d = 8 → d < n → ∀ x : Int32, x.toInt = (p : Int) → ∃ r, g_X1_giveOut_29 u M a b n x = some r ∧ r.toInt = (sFr s d p : Int) := by
  intro d
  induction d with
  | zero =>
    intro p n hp hn x hx
    obtain ⟨n, rfl⟩ : ∃ k, n = k + 1 := ⟨n - 1, by omega⟩
    unfold g_X1_giveOut_29 sFr
    rw [if_pos (by rw [i_le, hx]; simp only [Int32.reduceToInt]; omega)]
    exact ⟨x, rfl, hx⟩
  | succ d ih =>
    intro p n hp hn x hx
    obtain ⟨n, rfl⟩ : ∃ k, n = k + 1 := ⟨n - 1, by omega⟩
    unfold g_X1_giveOut_29 sFr
    rw [if_neg (by rw [i_le, hx]; simp only [Int32.reduceToInt]; omega), if_pos (i_in hx (by omega)), i_ix hx, xlet_eq]
    by_cases c : s 7 p = 0
    · rw [if_pos (by rw [i_eq, h.h (show p < 8 by omega)]; exact c), if_pos c]
      exact ⟨x, rfl, hx⟩
    · rw [if_neg (by rw [i_eq, h.h (show p < 8 by omega)]; exact c), if_neg c]
      exact ih (p + 1) n (by omega) (by omega) _ (by rw [i_add hx (b := 1) rfl (by omega) (by omega)]; omega)
theorem x_giveOut {u : Nat} {M : xm} {s : hs} (h : RX u M s) (o : Ok s) {a b : Int32} {n t : Nat} (ha : a.toInt = (t : Int)) (ht : t < 2) (hb : b.toInt = (n : Int)) (hn : n ≤ 8) : (sRoom s t n → ∃ r M', f_X1_giveOut u M a b = some (r, M') ∧ r.toInt = (sAt s t n : Int) ∧ RX u M' (sGive s t n) ∧ frX u M M') ∧ (¬ sRoom s t n → f_X1_giveOut u M a b = some (-1, M)) := by
  have g := o.g ht
  unfold f_X1_giveOut
  rw [if_pos (i_in ha ht), i_ix ha]
  simp only [xlet_eq]
  obtain ⟨f, f1, f2⟩ := x_free_loop h a b 8 0 xfuel (by omega) (by unfold xfuel; omega) 0 rfl
  have f2 : f.toInt = (sFree s : Int) := f2
  have fl := sFree_le s
  rw [f1, xb1_some]
  by_cases c : sFits s t n
  · have c1 := c.1
    have hp : (s 9 t).toNat < 8 := by omega
    have hg : (M (u + 9) t).toInt = ((s 9 t).toNat : Int) := by rw [h.g ht]; omega
    have b2 := o.u hp
    have sum := i_add (h.u hp) hb (by omega) (by omega)
    refine ⟨fun _ => ?_, fun q => absurd (Or.inl c) q⟩
    rw [f_isPage_1 hg hp, if_neg n10, if_pos (i_in hg hp), i_ix hg, if_pos (by rw [i_le, sum]; exact c.2), if_pos (i_in hg hp)]
    refine ⟨_, _, rfl, ?_, ?_, frX.up (by decide)⟩
    · rw [i_add (i_mul hg (y := 8) (b := 8) rfl (by omega) (by omega)) (h.u hp) (by omega) (by omega)]
      unfold sAt sPg; rw [if_pos c]; omega
    · unfold sGive; rw [if_pos c]
      exact h.up (by decide) sum
  · have go : ∀ X : Option (Int32 × xm), (if f_X9_isPage (M (u + 9) t) = 0 then X else if xin (M (u + 9) t) 8 = true then (if (M (u + 6) (M (u + 9) t).toNatClampNeg + b) ≤ (8 : Int32) then (if xin (M (u + 9) t) 8 = true then some (((M (u + 9) t) * (8 : Int32)) + (M (u + 6) (M (u + 9) t).toNatClampNeg), up2 M (u + 6) (M (u + 9) t).toNatClampNeg ((M (u + 6) (M (u + 9) t).toNatClampNeg) + b)) else none) else X) else none) = X := by
      intro X
      by_cases c1 : s 9 t = -1
      · rw [f_isPage_0 (by rw [h.g ht]; omega), if_pos rfl]
      · have hp : (s 9 t).toNat < 8 := by omega
        have hg : (M (u + 9) t).toInt = ((s 9 t).toNat : Int) := by rw [h.g ht]; omega
        have b2 := o.u hp
        have sum := i_add (h.u hp) hb (by omega) (by omega)
        rw [f_isPage_1 hg hp, if_neg n10, if_pos (i_in hg hp), i_ix hg, if_neg (by rw [i_le, sum]; exact fun q => c ⟨c1, q⟩)]
    rw [go]
    refine ⟨fun q => ?_, fun q => ?_⟩
    · have hf : sFree s < 8 := q.elim (fun q => absurd q c) id
      have b2 := o.u hf
      have e7 : up2 (up2 M (u + 7) (sFree s) 1) (u + 9) t f (u + 6) (sFree s) = M (u + 6) (sFree s) := by
        rw [up2_ap, if_neg (by omega), up2_ap, if_neg (by omega)]
      have sum := i_add (h.u hf) hb (by omega) (by omega)
      rw [if_neg (by rw [i_le, f2]; simp only [Int32.reduceToInt]; omega), if_pos (by rw [i_le, hb]; simp only [Int32.reduceToInt]; omega), if_pos (i_in f2 hf), if_pos (i_in f2 hf), i_ix f2]
      refine ⟨_, _, rfl, ?_, ?_, frX.tr (frX.tr (frX.up (by decide)) (frX.up (by decide))) (frX.up (by decide))⟩
      · rw [e7, i_add (i_mul f2 (y := 8) (b := 8) rfl (by omega) (by omega)) (h.u hf) (by omega) (by omega)]
        unfold sAt sPg; rw [if_neg c]; omega
      · unfold sGive; rw [if_neg c]
        have r1 := (h.up (k := 7) (i := sFree s) (v := 1) (by decide) rfl).up (k := 9) (i := t) (by decide) f2
        exact r1.up (by decide) (by rw [e7]; exact sum)
    · rw [if_pos (by rw [i_le, f2]; simp only [Int32.reduceToInt]; have : ¬ sFree s < 8 := fun z => q (Or.inr z); omega)]
