/-! the reference: copies, the book, moving, mending -/
theorem sCopy_0 (s : hs) (a b : Nat) : sCopy s a b 0 = s := by
  funext k i
  unfold sCopy
  rw [if_neg (by omega)]
theorem sCopy_step (s : hs) {a b n k : Nat} (hd : a + n ≤ b ∨ b + n ≤ a) (hk : k < n) : sCopy (up2 s 1 (b + k) (s 1 (a + k))) a b k = sCopy s a b (k + 1) := by
  funext q i
  unfold sCopy
  simp only [up2_ap]
  by_cases h1 : q = 1
  · subst h1
    by_cases h2 : b ≤ i ∧ i < b + k
    · rw [if_pos ⟨rfl, h2⟩, if_neg (by omega), if_pos ⟨rfl, by omega⟩]
    · rw [if_neg (by omega)]
      by_cases h3 : i = b + k
      · subst h3
        rw [if_pos ⟨rfl, rfl⟩, if_pos ⟨rfl, by omega⟩, show b + k - b = k by omega]
      · rw [if_neg (by omega), if_neg (by omega)]
  · rw [if_neg (fun c => h1 c.1), if_neg (fun c => h1 c.1), if_neg (fun c => h1 c.1)]
theorem y_copy_loop {a b : Int32} {x y n : Nat} (ha : a.toInt = (x : Int)) (hb : b.toInt = (y : Int)) (hx : x + n ≤ 64) (hy : y + n ≤ 64) (hd : x + n ≤ y ∨ y + n ≤ x) : ∀ (k f : Nat), k ≤ n → k < f → ∀ (M : xm) (s : hs) (c : Int32), RY M s → c.toInt = (k : Int) - 1 → ∃ M', g_X10_copyWords_8 a b f M c = some M' ∧ RY M' (sCopy s x y k) ∧ frY M M' := by
  intro k
  induction k with
  | zero =>
    intro f _ hf M s c h hc
    obtain ⟨f, rfl⟩ : ∃ q, f = q + 1 := ⟨f - 1, by omega⟩
    unfold g_X10_copyWords_8
    rw [if_pos (by rw [i_lt, hc]; simp only [Int32.reduceToInt]; omega)]
    exact ⟨M, rfl, by rw [sCopy_0]; exact h, frY.rfl⟩
  | succ k ih =>
    intro f hk hf M s c h hc
    obtain ⟨f, rfl⟩ : ∃ q, f = q + 1 := ⟨f - 1, by omega⟩
    have hc' : c.toInt = (k : Int) := by rw [hc]; omega
    have ea := i_bx 41 (b := 41) rfl ha (by omega)
    have eb := i_bx 41 (b := 41) rfl hb (by omega)
    have ea' := yx _ ea hc' (by omega)
    have eb' := yx _ eb hc' (by omega)
    unfold g_X10_copyWords_8
    rw [if_neg (by rw [i_lt, hc']; simp only [Int32.reduceToInt]; omega), if_pos ea'.1, if_pos eb'.1, ea'.2, eb'.2, xlet_eq, xlet_eq]
    have h1 : RY (up2 M 1 (41 + (y + k)) (M 1 (41 + (x + k)))) (up2 s 1 (y + k) (s 1 (x + k))) := RY.up h (k := 1) (i := y + k) (yd_i (show y + k < 64 by omega) (by decide) (by decide)) (by decide) (h.w (show x + k < 64 by omega))
    have q1 : 41 + y + k = 41 + (y + k) := by omega
    have q2 : 41 + x + k = 41 + (x + k) := by omega
    rw [q1, q2]
    obtain ⟨M', k1, k2, k3⟩ := ih f (by omega) (by omega) _ _ (c + (-1)) h1 (by rw [i_add hc' (b := -1) rfl (by omega) (by omega)]; omega)
    exact ⟨M', k1, by rw [sCopy_step s hd (by omega)] at k2; exact k2, frY.tr (frY.up (by omega)) k3⟩
theorem y_copyWords {M : xm} {s : hs} (h : RY M s) (o : Ok s) {a b : Int32} {x y n : Nat} (ha : a.toInt = (x : Int)) (hb : b.toInt = (y : Int)) (hn : s 1 x = 999 + n) (hx : x + n ≤ 64) (hx0 : x < 64) (hy : y + n ≤ 64) (hd : x + n ≤ y ∨ y + n ≤ x) : ∃ M', f_X10_copyWords M a b = some M' ∧ RY M' (sCopy s x y n) ∧ frY M M' := by
  obtain ⟨r, h1, h2⟩ := y_sizeOf h o ha hx0
  unfold f_X10_copyWords
  have hr : (r - 1).toInt = (n : Int) - 1 := by rw [i_sub h2 (b := 1) rfl (by omega) (by omega)]; omega
  obtain ⟨M', k1, k2, k3⟩ := y_copy_loop ha hb hx hy hd n xfuel (Nat.le_refl _) (by unfold xfuel; omega) M s (r - 1) h hr
  rw [h1, xb1_some, xlet_eq, k1, xb1_some]
  exact ⟨M', rfl, k2, k3⟩
theorem y_shift_loop {b c : Int32} : ∀ (d i n : Nat), i + d = 25 → 1 ≤ i → d < n → ∀ (M : xm) (x : Int32), x.toInt = (i : Int) → ∃ M', g_X10_write_14 b c n M x = some M' ∧ (∀ q, q ≠ 1 → M' q = M q) ∧ ∀ j, M' 1 j = if 296 + i ≤ j ∧ j < 321 then M 1 (j + 1) else M 1 j := by
  intro d
  induction d with
  | zero =>
    intro i n hi h1 hn M x hx
    obtain ⟨n, rfl⟩ : ∃ q, n = q + 1 := ⟨n - 1, by omega⟩
    unfold g_X10_write_14
    rw [if_pos (by rw [i_le, hx]; simp only [Int32.reduceToInt]; omega)]
    exact ⟨M, rfl, fun _ _ => rfl, fun j => by rw [if_neg (by omega)]⟩
  | succ d ih =>
    intro i n hi h1 hn M x hx
    obtain ⟨n, rfl⟩ : ∃ q, n = q + 1 := ⟨n - 1, by omega⟩
    have e := i_bx 297 (b := 297) rfl hx (by omega)
    have e2 : ((297 : Int32) + x - 1).toInt = ((296 + i : Nat) : Int) := by rw [i_sub e (b := 1) rfl (by omega) (by omega)]; omega
    unfold g_X10_write_14
    rw [if_neg (by rw [i_le, hx]; simp only [Int32.reduceToInt]; omega), if_pos (i_in e (by omega)), if_pos (i_in e2 (by omega)), i_ix e, i_ix e2, xlet_eq, xlet_eq]
    obtain ⟨M', k1, k2, k3⟩ := ih (i + 1) n (by omega) (by omega) (by omega) (up2 M 1 (296 + i) (M 1 (297 + i))) (x + 1) (by rw [i_add hx (b := 1) rfl (by omega) (by omega)]; omega)
    refine ⟨M', k1, fun q hq => ?_, fun j => ?_⟩
    · rw [k2 q hq]; funext z; rw [up2_ap, if_neg (fun c => hq c.1)]
    · rw [k3 j]
      by_cases c1 : 296 + (i + 1) ≤ j ∧ j < 321
      · rw [if_pos c1, up2_row, if_neg (by omega), if_pos (by omega)]
      · rw [if_neg c1, up2_row]
        by_cases c2 : j = 296 + i
        · rw [if_pos c2, if_pos (by omega), c2]; rw [show 296 + i + 1 = 297 + i by omega]
        · rw [if_neg c2, if_neg (by omega)]
theorem sWr_k {s : hs} {kd v : Int} {k : Nat} (i : Nat) (hk : k ≠ 13) : sWr s kd v k i = s k i := by
  unfold sWr; rw [if_neg hk]
/-- the row's first part is untouched, the book is told: then the book's line is written -/
theorem RY.book {M M' : xm} {s t : hs} (h : RY M s) (h1 : ∀ j, j < 297 → j ≠ 12 → M' 1 j = M 1 j) (h2 : ∀ k i, k ≠ 13 → t k i = s k i) (h3 : RYb (M' 1) t) : RY M' t := by
  refine ⟨fun k i hd hc => ?_, h3⟩
  have hx := xd_lt (yd_x hd).1
  have hy := (yinv_all k hx.1 i hx.2 hd).2
  rw [h1 _ hy.2.1 hy.1, h2 k i (by omega)]
  exact h.1 k i hd (fun c => by rw [← h2 10 i (by decide)]; exact hc c)
theorem y_write {M : xm} {s : hs} (h : RY M s) (o : Ok s) {a b : Int32} {kd v : Int} (ha : a.toInt = kd) (hb : b.toInt = v) (hk : 0 ≤ kd ∧ kd ≤ 5) (hv : 0 ≤ v ∧ v ≤ 255) : ∃ M', f_X10_write M a b = some M' ∧ RY M' (sWr s kd v) ∧ frY M M' := by
  have on := o.n
  have oc := o.clock
  unfold f_X10_write
  rw [xlet_eq]
  have tail : ∀ (M1 : xm) (n : Nat), n ≤ 24 → (M1 1 12).toInt = (n : Int) → (M1 1 4).toInt = s 0 17 → ∃ M', (if xin ((297 : Int32) + M1 1 12) 9878 = true then xlet (up2 M1 1 (Int32.toNatClampNeg ((297 : Int32) + M1 1 12)) (((((M1 1 4) * (6 : Int32)) + a) * (256 : Int32)) + b)) fun M4 => xlet (up2 M4 1 12 ((M4 1 12) + (1 : Int32))) fun M5 => some M5 else none) = some M' ∧ (∀ q, q ≠ 1 → M' q = M1 q) ∧ (∀ j, j ≠ 12 → j ≠ 297 + n → M' 1 j = M1 1 j) ∧ (M' 1 12).toInt = (n : Int) + 1 ∧ (M' 1 (297 + n)).toInt = (s 0 17 * 6 + kd) * 256 + v := by
    intro M1 n hn e12 e4
    have e := yx 297 (b := 297) rfl e12 (by omega)
    rw [if_pos e.1, e.2, xlet_eq, xlet_eq]
    have v1 := i_mul e4 (y := 6) (b := 6) rfl (by omega) (by omega)
    have v2 := i_add v1 ha (by omega) (by omega)
    have v3 := i_mul v2 (y := 256) (b := 256) rfl (by omega) (by omega)
    have v4 := i_add v3 hb (by omega) (by omega)
    refine ⟨_, rfl, fun q hq => ?_, fun j j1 j2 => ?_, ?_, ?_⟩
    · funext z; rw [up2_ap, if_neg (fun c => hq c.1), up2_ap, if_neg (fun c => hq c.1)]
    · rw [up2_row, if_neg j1, up2_row, if_neg j2]
    · rw [up2_row, if_pos rfl, up2_row, if_neg (by omega)]
      exact i_add e12 (b := 1) rfl (by omega) (by omega)
    · rw [up2_row, if_neg (by omega), up2_row, if_pos rfl]
      exact v4
  have h12 : (M 1 12).toInt = s 13 0 := h.2.1
  have hl := h.2.2
  by_cases c : s 13 0 = 25
  · rw [if_pos (by rw [i_eq, h12, c]; rfl)]
    obtain ⟨M1, k1, k2, k3⟩ := y_shift_loop (b := a) (c := b) 24 1 xfuel (by omega) (by omega) (by unfold xfuel; omega) M 1 rfl
    rw [k1, xb1_some, xlet_eq]
    have e12 : (M1 1 12) = M 1 12 := by rw [k3, if_neg (by omega)]
    obtain ⟨M', t1, t2, t3, t4, t5⟩ := tail (up2 M1 1 12 ((M1 1 12) - (1 : Int32))) 24 (by omega) (by rw [up2_row, if_pos rfl, e12, i_sub h12 (b := 1) rfl (by omega) (by omega), c]; rfl) (by rw [up2_row, if_neg (by omega), k3, if_neg (by omega)]; exact h.clock)
    refine ⟨M', t1, RY.book h (fun j j1 j2 => ?_) (fun k i hk => sWr_k i hk) ⟨?_, fun i hi => ?_⟩, fun q hq => ?_, fun j hj => ?_⟩
    · rw [t3 j j2 (by omega), up2_row, if_neg j2, k3, if_neg (by omega)]
    · rw [t4]; unfold sWr; rw [if_pos rfl, if_pos c, if_pos rfl]; rfl
    · have hi : i < 25 := by
        have q : sWr s kd v 13 0 = 25 := by unfold sWr; rw [if_pos rfl, if_pos c, if_pos rfl]
        rw [q] at hi; omega
      by_cases c2 : i = 24
      · subst c2
        have t5 : (M' 1 (297 + 24)).toInt = (s 0 17 * 6 + kd) * 256 + v := t5
        rw [t5]
        simp [sWr, c]
      · rw [t3 (297 + i) (by omega) (by omega), up2_row, if_neg (by omega), k3, if_pos (by omega)]
        have := hl (i + 1) (by omega)
        rw [show 297 + i + 1 = 297 + (i + 1) by omega, this]
        have w1 : sWr s kd v 13 (1 + 3 * i) = s 13 (1 + 3 * (i + 1)) := by
          unfold sWr; rw [if_pos rfl, if_pos c, if_neg (by omega), if_neg (by omega), if_neg (by omega), if_neg (by omega)]; rfl
        have w2 : sWr s kd v 13 (2 + 3 * i) = s 13 (2 + 3 * (i + 1)) := by
          unfold sWr; rw [if_pos rfl, if_pos c, if_neg (by omega), if_neg (by omega), if_neg (by omega), if_neg (by omega)]; rfl
        have w3 : sWr s kd v 13 (3 + 3 * i) = s 13 (3 + 3 * (i + 1)) := by
          unfold sWr; rw [if_pos rfl, if_pos c, if_neg (by omega), if_neg (by omega), if_neg (by omega), if_neg (by omega)]; rfl
        rw [w1, w2, w3]
    · rw [t2 q hq]; funext z; rw [up2_ap, if_neg (fun c => hq c.1), k2 q hq]
    · rw [t3 j (by omega) (by omega), up2_row, if_neg (by omega), k3, if_neg (by omega)]
  · rw [if_neg (by rw [i_eq, h12]; exact c)]
    obtain ⟨n, hn⟩ : ∃ n : Nat, s 13 0 = n := ⟨(s 13 0).toNat, by omega⟩
    obtain ⟨M', t1, t2, t3, t4, t5⟩ := tail M n (by omega) (by rw [h12, hn]) h.clock
    have hn' : (s 13 0).toNat = n := by omega
    refine ⟨M', t1, RY.book h (fun j j1 j2 => t3 j j2 (by omega)) (fun k i hk => sWr_k i hk) ⟨?_, fun i hi => ?_⟩, fun q hq => t2 q hq, fun j hj => t3 j (by omega) (by omega)⟩
    · rw [t4]; unfold sWr; rw [if_pos rfl, if_neg c, if_pos rfl, hn]
    · have hi : i < n + 1 := by
        have q : sWr s kd v 13 0 = s 13 0 + 1 := by unfold sWr; rw [if_pos rfl, if_neg c, if_pos rfl]
        rw [q] at hi; omega
      by_cases c2 : i = n
      · subst c2
        rw [t5]
        have w1 : sWr s kd v 13 (1 + 3 * i) = s 0 17 := by
          unfold sWr; rw [if_pos rfl, if_neg c, if_neg (by omega), hn', if_pos rfl]
        have w2 : sWr s kd v 13 (2 + 3 * i) = kd := by
          unfold sWr; rw [if_pos rfl, if_neg c, if_neg (by omega), hn', if_neg (by omega), if_pos rfl]
        have w3 : sWr s kd v 13 (3 + 3 * i) = v := by
          unfold sWr; rw [if_pos rfl, if_neg c, if_neg (by omega), hn', if_neg (by omega), if_neg (by omega), if_pos rfl]
        rw [w1, w2, w3]
      · rw [t3 (297 + i) (by omega) (by omega), hl i (by omega)]
        have w1 : sWr s kd v 13 (1 + 3 * i) = s 13 (1 + 3 * i) := by
          unfold sWr; rw [if_pos rfl, if_neg c, if_neg (by omega), hn', if_neg (by omega), if_neg (by omega), if_neg (by omega)]
        have w2 : sWr s kd v 13 (2 + 3 * i) = s 13 (2 + 3 * i) := by
          unfold sWr; rw [if_pos rfl, if_neg c, if_neg (by omega), hn', if_neg (by omega), if_neg (by omega), if_neg (by omega)]
        have w3 : sWr s kd v 13 (3 + 3 * i) = s 13 (3 + 3 * i) := by
          unfold sWr; rw [if_pos rfl, if_neg c, if_neg (by omega), hn', if_neg (by omega), if_neg (by omega), if_neg (by omega)]
        rw [w1, w2, w3]
