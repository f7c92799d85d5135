/-! sets of pages as bits -/
def popc (b : Nat) : Nat := b % 2 + b / 2 % 2 + b / 4 % 2 + b / 8 % 2 + b / 16 % 2 + b / 32 % 2 + b / 64 % 2 + b / 128 % 2
theorem bit_or : ∀ b, b < 256 → ∀ p, p < 8 → nI b ||| ((1 : Int32) <<< (nI p &&& 31)) = nI (b ||| 2 ^ p) := by decide +kernel
theorem bit_lt : ∀ b, b < 256 → ∀ p, p < 8 → b ||| 2 ^ p < 256 := by decide +kernel
theorem bit_has : ∀ b, b < 256 → ∀ p, p < 8 → f_X10_has (nI b) (nI p) = if b.testBit p = true then 1 else 0 := by decide +kernel
theorem bit_or0 : ∀ b, b < 256 → nI b ||| (0 : Int32) = nI b := by decide +kernel
theorem bit_count : ∀ b, b < 256 → f_J6_bitCount_0f7a4 (nI b) = nI (popc b) := by decide +kernel
theorem bits9 : ∀ b, b < 256 → g_X10_bits_4 9 0 (nI b) = some (nI (popc b)) := by decide +kernel
theorem popc_le : ∀ b, b < 256 → popc b ≤ 8 := by decide +kernel
theorem bits_more : ∀ (n : Nat) (a b r : Int32), g_X10_bits_4 n a b = some r → g_X10_bits_4 (n + 1) a b = some r := by
  intro n
  induction n with
  | zero => intro a b r h; simp [g_X10_bits_4] at h
  | succ n ih =>
    intro a b r h
    rw [g_X10_bits_4] at h ⊢
    by_cases c : b = 0
    · rw [if_pos c] at h ⊢; exact h
    · rw [if_neg c] at h ⊢
      simp only [xlet_eq] at h ⊢
      exact ih _ _ _ h
theorem y_bits {b : Nat} (hb : b < 256) : f_X10_bits (nI b) = some (nI (popc b)) := by
  have key : ∀ k, g_X10_bits_4 (9 + k) 0 (nI b) = some (nI (popc b)) := by
    intro k
    induction k with
    | zero => exact bits9 b hb
    | succ k ih => exact bits_more _ _ _ _ ih
  unfold f_X10_bits
  have := key (xfuel - 9)
  rw [show 9 + (xfuel - 9) = xfuel by unfold xfuel; omega] at this
  rw [this, xb1_some]
/-- the free pages -/
def sFb (s : hs) : Nat → Nat → Nat → Nat
  | 0, _, b => b
  | d + 1, p, b => sFb s d (p + 1) (if s 7 p = 0 then b ||| 2 ^ p else b)
def sFB (s : hs) : Nat := sFb s 8 0 0
theorem sFb_lt {s : hs} : ∀ (d p b : Nat), p + d = 8 → b < 256 → sFb s d p b < 256 := by
  intro d
  induction d with
  | zero => intro p b _ hb; exact hb
  | succ d ih =>
    intro p b hp hb
    unfold sFb
    refine ih (p + 1) _ (by omega) ?_
    split
    · exact bit_lt b hb p (by omega)
    · exact hb
theorem sFB_lt (s : hs) : sFB s < 256 := sFb_lt 8 0 0 (by omega) (by omega)
theorem sFb_congr {s t : hs} (h : ∀ i, s 7 i = 0 ↔ t 7 i = 0) : ∀ (d p b : Nat), sFb s d p b = sFb t d p b := by
  intro d
  induction d with
  | zero => intro p b; rfl
  | succ d ih =>
    intro p b
    unfold sFb
    by_cases c : s 7 p = 0
    · rw [if_pos c, if_pos ((h p).mp c)]; exact ih _ _
    · rw [if_neg c, if_neg (fun q => c ((h p).mpr q))]; exact ih _ _
def fbb (b0 b1 b2 b3 b4 b5 b6 b7 : Bool) : Nat := [(b0, 1), (b1, 2), (b2, 4), (b3, 8), (b4, 16), (b5, 32), (b6, 64), (b7, 128)].foldl (fun a q => if q.1 = true then a ||| q.2 else a) 0
theorem fbb_popc : ∀ b0 b1 b2 b3 b4 b5 b6 b7 : Bool, popc (fbb b0 b1 b2 b3 b4 b5 b6 b7) = b0.toNat + b1.toNat + b2.toNat + b3.toNat + b4.toNat + b5.toNat + b6.toNat + b7.toNat := by decide +kernel
theorem sFB_eq (s : hs) : sFB s = fbb (decide (s 7 0 = 0)) (decide (s 7 1 = 0)) (decide (s 7 2 = 0)) (decide (s 7 3 = 0)) (decide (s 7 4 = 0)) (decide (s 7 5 = 0)) (decide (s 7 6 = 0)) (decide (s 7 7 = 0)) := by
  unfold sFB fbb
  simp only [sFb, List.foldl, decide_eq_true_eq]
theorem popc_free (s : hs) : (popc (sFB s) : Int) = sm (fun p => if s 7 p = 0 then 1 else 0) 8 := by
  rw [sFB_eq, fbb_popc]
  have e : ∀ p, (((decide (s 7 p = 0)).toNat : Nat) : Int) = if s 7 p = 0 then 1 else 0 := fun p => by
    by_cases c : s 7 p = 0
    · rw [if_pos c, decide_eq_true c]; rfl
    · rw [if_neg c, decide_eq_false c]; rfl
  simp only [sm, ← e]
  omega
theorem y_free_bits {M : xm} {s : hs} (h : RY M s) : ∀ (d p n b : Nat) (x y : Int32), p + d = 8 → d < n → b < 256 → x = nI b → y = nI p → g_X10_freePages_4 M n x y = some (nI (sFb s d p b)) := by
  intro d
  induction d with
  | zero =>
    intro p n b x y hp hn hb hx hy
    obtain ⟨n, rfl⟩ : ∃ q, n = q + 1 := ⟨n - 1, by omega⟩
    have hy' : y.toInt = (p : Int) := by rw [hy, nI_toInt (by omega)]
    unfold g_X10_freePages_4
    rw [if_pos (by rw [i_le, hy']; simp only [Int32.reduceToInt]; omega), hx]
    rfl
  | succ d ih =>
    intro p n b x y hp hn hb hx hy
    obtain ⟨n, rfl⟩ : ∃ q, n = q + 1 := ⟨n - 1, by omega⟩
    have hy' : y.toInt = (p : Int) := by rw [hy, nI_toInt (by omega)]
    have e := yx 13 (b := 13) rfl hy' (by omega)
    unfold g_X10_freePages_4 sFb
    rw [if_neg (by rw [i_le, hy']; simp only [Int32.reduceToInt]; omega), if_pos e.1, e.2]
    simp only [xlet_eq]
    by_cases c : s 7 p = 0
    · rw [if_pos (by rw [i_eq, h.h (show p < 8 by omega), c]; rfl), if_pos c]
      exact ih (p + 1) n _ _ _ (by omega) (by omega) (bit_lt b hb p (by omega)) (by rw [hx, hy]; exact bit_or b hb p (by omega)) (by rw [hy]; exact nI_1 p)
    · rw [if_neg (by rw [i_eq, h.h (show p < 8 by omega)]; exact c), if_neg c]
      exact ih (p + 1) n _ _ _ (by omega) (by omega) hb (by rw [hx]; exact bit_or0 b hb) (by rw [hy]; exact nI_1 p)
theorem y_freePages {M : xm} {s : hs} (h : RY M s) : f_X10_freePages M = some (nI (sFB s)) := by
  unfold f_X10_freePages
  rw [y_free_bits h 8 0 xfuel 0 0 0 (by omega) (by unfold xfuel; omega) (by omega) rfl rfl, xb1_some]
  rfl
theorem x_free_bits {u : Nat} {M : xm} {s : hs} (h : RX u M s) : ∀ (d p n b : Nat) (x y : Int32), p + d = 8 → d < n → b < 256 → x = nI b → y = nI p → g_X1_freePages_4 u M n x y = some (nI (sFb s d p b)) := by
  intro d
  induction d with
  | zero =>
    intro p n b x y hp hn hb hx hy
    obtain ⟨n, rfl⟩ : ∃ q, n = q + 1 := ⟨n - 1, by omega⟩
    have hy' : y.toInt = (p : Int) := by rw [hy, nI_toInt (by omega)]
    unfold g_X1_freePages_4
    rw [if_pos (by rw [i_le, hy']; simp only [Int32.reduceToInt]; omega), hx]
    rfl
  | succ d ih =>
    intro p n b x y hp hn hb hx hy
    obtain ⟨n, rfl⟩ : ∃ q, n = q + 1 := ⟨n - 1, by omega⟩
    have hy' : y.toInt = (p : Int) := by rw [hy, nI_toInt (by omega)]
    unfold g_X1_freePages_4 sFb
    rw [if_neg (by rw [i_le, hy']; simp only [Int32.reduceToInt]; omega), if_pos (i_in hy' (by omega)), i_ix hy']
    simp only [xlet_eq]
    by_cases c : s 7 p = 0
    · rw [if_pos (by rw [i_eq, h.h (show p < 8 by omega), c]; rfl), if_pos c]
      exact ih (p + 1) n _ _ _ (by omega) (by omega) (bit_lt b hb p (by omega)) (by rw [hx, hy]; exact bit_or b hb p (by omega)) (by rw [hy]; exact nI_1 p)
    · rw [if_neg (by rw [i_eq, h.h (show p < 8 by omega)]; exact c), if_neg c]
      exact ih (p + 1) n _ _ _ (by omega) (by omega) hb hx (by rw [hy]; exact nI_1 p)
theorem x_freePages {u : Nat} {M : xm} {s : hs} (h : RX u M s) : f_X1_freePages u M = some (nI (sFB s)) := by
  unfold f_X1_freePages
  rw [x_free_bits h 8 0 xfuel 0 0 0 (by omega) (by unfold xfuel; omega) (by omega) rfl rfl, xb1_some]
  rfl
/-- what lives in a page, counted by the reference -/
theorem y_live_loop {M : xm} {s : hs} (h : RY M s) (o : Ok s) {a : Int32} {p : Nat} (ha : a.toInt = (p : Int)) (hp : p < 8) : ∀ (d j n : Nat) (x y : Int32) (z : Int), j + d = 8 → d < n → x.toInt = z → 0 ≤ z → z + 4 * d ≤ 100 → y.toInt = ((8 * p + j : Nat) : Int) → ∃ r, g_X10_liveOf_7 M a n x y = some r ∧ r.toInt = z + sLv s d (8 * p + j) := by
  have lim : ((8 : Int32) * a + 8).toInt = ((8 * p + 8 : Nat) : Int) := by
    rw [i_add (i_mul (x := 8) (a := 8) rfl ha (by omega) (by omega)) (b := 8) rfl (by omega) (by omega)]; omega
  intro d
  induction d with
  | zero =>
    intro j n x y z hj hn hx hz hz2 hy
    obtain ⟨n, rfl⟩ : ∃ q, n = q + 1 := ⟨n - 1, by omega⟩
    unfold g_X10_liveOf_7
    rw [if_pos (by rw [i_le, lim, hy]; omega)]
    exact ⟨x, rfl, by rw [hx]; unfold sLv; omega⟩
  | succ d ih =>
    intro j n x y z hj hn hx hz hz2 hy
    obtain ⟨n, rfl⟩ : ∃ q, n = q + 1 := ⟨n - 1, by omega⟩
    have w64 : 8 * p + j < 64 := by omega
    have ow := o.w w64
    have ny : (y + 1).toInt = ((8 * p + (j + 1) : Nat) : Int) := by rw [i_add hy (b := 1) rfl (by omega) (by omega)]; omega
    have x0 : (x + 0).toInt = z := by rw [i_add hx (b := 0) rfl (by omega) (by omega)]; omega
    have go0 := ih (j + 1) n (x + 0) (y + 1) z (by omega) (by omega) x0 hz (by omega) ny
    unfold g_X10_liveOf_7
    rw [if_neg (by rw [i_le, lim, hy]; omega), y_isHead h hy w64, xb1_some]
    simp only [xlet_eq]
    rw [sLv]
    by_cases c1 : 1000 ≤ s 1 (8 * p + j)
    · rw [if_pos c1, if_neg n10, y_isMarked h hy w64, xb1_some]
      by_cases c3 : s 3 (8 * p + j) = 1
      · obtain ⟨q, q1, q2⟩ := y_sizeOf h o hy w64
        rw [if_pos c3, if_neg n10, q1, xb1_some, if_pos (c := s 3 (8 * p + j) = 1 ∧ 1000 ≤ s 1 (8 * p + j)) ⟨c3, c1⟩]
        obtain ⟨r, r1, r2⟩ := ih (j + 1) n (x + q) (y + 1) (z + (s 1 (8 * p + j) - 999)) (by omega) (by omega) (i_add hx q2 (by omega) (by omega)) (by omega) (by omega) ny
        exact ⟨r, r1, by rw [r2, show 8 * p + (j + 1) = 8 * p + j + 1 by omega]; omega⟩
      · rw [if_neg c3, if_pos rfl, if_neg (c := s 3 (8 * p + j) = 1 ∧ 1000 ≤ s 1 (8 * p + j)) (fun q => c3 q.1)]
        obtain ⟨r, r1, r2⟩ := go0
        exact ⟨r, r1, by rw [r2, show 8 * p + (j + 1) = 8 * p + j + 1 by omega]; omega⟩
    · rw [if_neg c1, if_pos rfl, if_neg (c := s 3 (8 * p + j) = 1 ∧ 1000 ≤ s 1 (8 * p + j)) (fun q => c1 q.2)]
      obtain ⟨r, r1, r2⟩ := go0
      exact ⟨r, r1, by rw [r2, show 8 * p + (j + 1) = 8 * p + j + 1 by omega]; omega⟩
theorem y_liveOf {M : xm} {s : hs} (h : RY M s) (o : Ok s) (l7 : La7 s) {a : Int32} {p : Nat} (ha : a.toInt = (p : Int)) (hp : p < 8) : ∃ r, f_X10_liveOf M a = some r ∧ r.toInt = s 5 p := by
  obtain ⟨r, r1, r2⟩ := y_live_loop h o ha hp 8 0 xfuel 0 (8 * a) 0 (by omega) (by unfold xfuel; omega) rfl (by omega) (by omega) (by rw [i_mul (x := 8) (a := 8) rfl ha (by omega) (by omega)]; omega)
  unfold f_X10_liveOf
  rw [xlet_eq, r1, xb1_some]
  exact ⟨r, rfl, by rw [r2, l7 p hp]; unfold sLive; simp⟩
