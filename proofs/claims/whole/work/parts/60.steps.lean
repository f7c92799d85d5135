/-! steps that can be taken back -/
def rwX (b f i : Nat) : Nat := b + 2 + 15 * ((f + i) % 31)
def StX (b : Nat) (M : xm) (St : Nat → hs) (n : Nat) : Prop := n ≤ 30 ∧ (M b 2).toInt = n ∧ (0 ≤ (M b 1).toInt ∧ (M b 1).toInt < 31) ∧ ∀ i, i < n → RX (rwX b (M b 1).toInt.toNat i) M (St i)
def PrX (b : Nat) (M : xm) (St : Nat → hs) (n : Nat) (s : hs) : Prop := StX b M St n ∧ RX (rwX b (M b 1).toInt.toNat n) M s
def kSt (St : Nat → hs) (n : Nat) (s : hs) : Nat → hs := if n = 30 then (fun i => if i < 29 then St (i + 1) else s) else (fun i => if i = n then s else St i)
def kN (n : Nat) : Nat := if n = 30 then 30 else n + 1
theorem rwX_in (b f i : Nat) : b + 2 ≤ rwX b f i ∧ rwX b f i + 15 ≤ b + 467 := by
  unfold rwX; omega
theorem StX.fr {b n : Nat} {M M' : xm} {St : Nat → hs} (h : StX b M St n) (hf : ∀ q, b ≤ q → q < b + 467 → M' q = M q) : StX b M' St n := by
  obtain ⟨h1, h2, h3, h4⟩ := h
  have e := hf b (by omega) (by omega)
  refine ⟨h1, by rw [e]; exact h2, by rw [e]; exact h3, fun i hi => ?_⟩
  rw [e]
  have := rwX_in b (M b 1).toInt.toNat i
  exact (h4 i hi).fr (fun q a c => hf q (by omega) (by omega))
theorem PrX.fr {b n : Nat} {M M' : xm} {St : Nat → hs} {s : hs} (h : PrX b M St n s) (hf : ∀ q, b ≤ q → q < b + 467 → M' q = M q) : PrX b M' St n s := by
  refine ⟨h.1.fr hf, ?_⟩
  rw [hf b (by omega) (by omega)]
  have := rwX_in b (M b 1).toInt.toNat n
  exact h.2.fr (fun q a c => hf q (by omega) (by omega))
theorem x_row {b : Nat} {M : xm} {f i : Nat} (hf : (M b 1).toInt = (f : Int)) (hf2 : f < 31) {a : Int32} (ha : a.toInt = (i : Int)) (hi : i ≤ 31) : f_X5_row b M a = some (some (rwX b f i)) := by
  have e1 := i_add hf ha (by omega) (by omega)
  have e2 := i_rem e1 (y := 31) (b := 31) rfl (by omega) (by omega) (by omega)
  have e3 : (xrem (M b 1 + a) 31).toInt = (((f + i) % 31 : Nat) : Int) := by rw [e2]; omega
  unfold f_X5_row
  rw [xlet_eq, if_neg (by rw [i_lt, e3]; simp only [Int32.reduceToInt]; omega), if_pos (i_in e3 (by omega)), i_ix e3]
  unfold rwX
  congr 2
  omega
theorem x_prepare {b u n : Nat} (hu : u + 15 ≤ b ∨ b + 467 ≤ u) {M : xm} {St : Nat → hs} {s : hs} (h : RX u M s) (o : Ok s) (hs : StX b M St n) : ∃ M', f_X5_prepare b u M = some M' ∧ RX u M' s ∧ PrX b M' St n s ∧ ∀ q, (q < b ∨ b + 467 ≤ q) → M' q = M q := by
  obtain ⟨h1, h2, h3, h4⟩ := hs
  obtain ⟨f, hf⟩ : ∃ f : Nat, (M b 1).toInt = f := ⟨(M b 1).toInt.toNat, by omega⟩
  have f31 : f < 31 := by omega
  have hrow := x_row hf f31 h2 (by omega)
  have hin := rwX_in b f n
  obtain ⟨M', k1, k2, k3⟩ := x_takeOver (u0 := rwX b f n) (u1 := u) (by omega) h o
  unfold f_X5_prepare
  rw [hrow, xb1_some]
  have eb : M' b = M b := k3 b (by omega)
  refine ⟨M', by simp only [xopt]; rw [k1, xb1_some], h.fr (fun q a c => k3 q (by omega)), ⟨⟨h1, by rw [eb]; exact h2, by rw [eb]; exact h3, fun i hi => ?_⟩, by rw [eb, hf, Int.toNat_natCast]; exact k2⟩, fun q hq => k3 q (by omega)⟩
  rw [eb, hf, Int.toNat_natCast]
  have := h4 i hi
  rw [hf, Int.toNat_natCast] at this
  have ne : (f + i) % 31 ≠ (f + n) % 31 := by omega
  refine this.fr (fun q a c => k3 q ?_)
  unfold rwX at a c ⊢
  omega
theorem x_keep {b n : Nat} {M : xm} {St : Nat → hs} {s : hs} (h : PrX b M St n s) : ∃ M', f_X5_keep b M = some M' ∧ StX b M' (kSt St n s) (kN n) ∧ ∀ q, q ≠ b → M' q = M q := by
  obtain ⟨⟨h1, h2, h3, h4⟩, h5⟩ := h
  obtain ⟨f, hf⟩ : ∃ f : Nat, (M b 1).toInt = f := ⟨(M b 1).toInt.toNat, by omega⟩
  have f31 : f < 31 := by omega
  unfold f_X5_keep kSt kN
  by_cases c : n = 30
  · have g := i_rem (i_add hf (y := 1) (b := 1) rfl (by omega) (by omega)) (y := 31) (b := 31) rfl (by omega) (by omega) (by omega)
    rw [if_pos (by rw [i_le, h2]; simp only [Int32.reduceToInt]; omega), xlet_eq, if_pos c, if_pos c]
    have fe : (up2 M b 1 (xrem (M b 1 + 1) 31) b 1).toInt.toNat = (f + 1) % 31 := by
      rw [up2_same, g]; omega
    refine ⟨_, rfl, ⟨by omega, by rw [up2_ne (by omega), h2]; omega, by rw [up2_same, g]; omega, fun i hi => ?_⟩, fun q hq => up2_cell hq⟩
    rw [fe]
    have rb := rwX_in b ((f + 1) % 31) i
    show RX _ _ (if i < 29 then St (i + 1) else s)
    by_cases c2 : i < 29
    · rw [if_pos c2]
      have := h4 (i + 1) (by omega)
      rw [hf, Int.toNat_natCast] at this
      have e : rwX b ((f + 1) % 31) i = rwX b f (i + 1) := by unfold rwX; omega
      rw [e] at rb ⊢
      exact this.fr (fun q a c => up2_cell (by omega))
    · rw [if_neg c2]
      rw [hf, Int.toNat_natCast] at h5
      have e : rwX b ((f + 1) % 31) i = rwX b f n := by unfold rwX; omega
      rw [e] at rb ⊢
      exact h5.fr (fun q a c => up2_cell (by omega))
  · rw [if_neg (by rw [i_le, h2]; simp only [Int32.reduceToInt]; omega), xlet_eq, if_neg c, if_neg c]
    refine ⟨_, rfl, ⟨by omega, by rw [up2_same, i_add h2 (b := 1) rfl (by omega) (by omega)]; omega, by rw [up2_ne (by omega)]; exact h3, fun i hi => ?_⟩, fun q hq => up2_cell hq⟩
    rw [up2_ne (by omega)]
    have rb := rwX_in b (M b 1).toInt.toNat i
    show RX _ _ (if i = n then s else St i)
    by_cases c2 : i = n
    · rw [if_pos c2]
      subst c2
      exact h5.fr (fun q a c => up2_cell (by omega))
    · rw [if_neg c2]
      exact (h4 i (by omega)).fr (fun q a c => up2_cell (by omega))
theorem x_takeBack {b u n : Nat} (hu : u + 15 ≤ b ∨ b + 467 ≤ u) {M : xm} {St : Nat → hs} (hs : StX b M St n) (hn : 1 ≤ n) (o : Ok (St (n - 1))) : ∃ M', f_X5_takeBack b u M = some M' ∧ RX u M' (St (n - 1)) ∧ StX b M' St (n - 1) ∧ ∀ q, (q < u ∨ u + 15 ≤ q) → q ≠ b → M' q = M q := by
  obtain ⟨h1, h2, h3, h4⟩ := hs
  obtain ⟨f, hf⟩ : ∃ f : Nat, (M b 1).toInt = f := ⟨(M b 1).toInt.toNat, by omega⟩
  have f31 : f < 31 := by omega
  have n1 : (M b 2 - 1).toInt = ((n - 1 : Nat) : Int) := by rw [i_sub h2 (b := 1) rfl (by omega) (by omega)]; omega
  have e2 : ((up2 M b 2 (M b 2 - 1)) b 2).toInt = ((n - 1 : Nat) : Int) := by rw [up2_same]; exact n1
  have e1 : ((up2 M b 2 (M b 2 - 1)) b 1).toInt = (f : Int) := by rw [up2_ne (by omega)]; exact hf
  have hrow := x_row e1 f31 e2 (by omega)
  have hin := rwX_in b f (n - 1)
  have src := h4 (n - 1) (by omega)
  rw [hf, Int.toNat_natCast] at src
  have src' : RX (rwX b f (n - 1)) (up2 M b 2 (M b 2 - 1)) (St (n - 1)) := src.fr (fun q a c => up2_cell (by omega))
  obtain ⟨M', k1, k2, k3⟩ := x_takeOver (u0 := u) (u1 := rwX b f (n - 1)) (by omega) src' o
  unfold f_X5_takeBack
  rw [if_pos (by rw [i_le, h2]; simp only [Int32.reduceToInt]; omega), xlet_eq, hrow, xb1_some]
  have eb : M' b = (up2 M b 2 (M b 2 - 1)) b := k3 b (by omega)
  refine ⟨M', by simp only [xopt]; rw [k1, xb1_some], k2, ⟨by omega, by rw [eb]; exact e2, by rw [eb, up2_ne (by omega)]; exact h3, fun i hi => ?_⟩, fun q hq hb => (k3 q hq).trans (up2_cell hb)⟩
  rw [eb, up2_ne (by omega), hf, Int.toNat_natCast]
  have := h4 i (by omega)
  rw [hf, Int.toNat_natCast] at this
  have hi' := rwX_in b f i
  exact this.fr (fun q a c => (k3 q (by omega)).trans (up2_cell (by omega)))
/-! the reference's steps -/
def rwY (a : Nat → Int32) (i : Nat) : Nat → Int32 := fun j => a (334 + 318 * i + j)
def StY (a : Nat → Int32) (St : Nat → hs) (n : Nat) : Prop := n ≤ 30 ∧ (a 2).toInt = n ∧ ∀ i, i < n → RYr (rwY a i) (St i)
theorem RYr.fr {a a' : Nat → Int32} {s : hs} (h : RYr a s) (o : Ok s) (hf : ∀ j, 4 ≤ j → j < 322 → a' j = a j) : RYr a' s := by
  have on := o.n
  refine ⟨fun k i hd hc => ?_, ?_, fun q hq => ?_⟩
  · have hx := xd_lt (yd_x hd).1
    have hy := (yinv_all k hx.1 i hx.2 hd).2
    rw [hf _ hy.2.2 (by omega)]
    exact h.1 k i hd hc
  · rw [hf 12 (by omega) (by omega)]; exact h.2.1
  · rw [hf _ (by omega) (by omega)]; exact h.2.2 q hq
theorem y_shift : ∀ (d i f : Nat), i + d = 9222 → d < f → ∀ (M : xm) (x : Int32), x.toInt = (i : Int) → ∃ M', g_X10_keep_13 f M x = some M' ∧ (∀ q, q ≠ 1 → M' q = M q) ∧ ∀ j, M' 1 j = if 338 + i ≤ j ∧ j < 9560 then M 1 (j + 318) else M 1 j := by
  intro d
  induction d with
  | zero =>
    intro i f hi hf M x hx
    obtain ⟨f, rfl⟩ : ∃ q, f = q + 1 := ⟨f - 1, by omega⟩
    unfold g_X10_keep_13
    rw [if_pos (by rw [i_le, hx]; simp only [Int32.reduceToInt]; omega)]
    exact ⟨M, rfl, fun _ _ => rfl, fun j => by rw [if_neg (by omega)]⟩
  | succ d ih =>
    intro i f hi hf M x hx
    obtain ⟨f, rfl⟩ : ∃ q, f = q + 1 := ⟨f - 1, by omega⟩
    have e := yx 656 (b := 656) rfl hx (by omega)
    have e' := yx 338 (b := 338) rfl hx (by omega)
    unfold g_X10_keep_13
    rw [if_neg (by rw [i_le, hx]; simp only [Int32.reduceToInt]; omega), if_pos e.1, if_pos e'.1, e.2, e'.2, xlet_eq, xlet_eq]
    obtain ⟨M', k1, k2, k3⟩ := ih (i + 1) f (by omega) (by omega) (up2 M 1 (338 + i) (M 1 (656 + i))) (x + 1) (by rw [i_add hx (b := 1) rfl (by omega) (by omega)]; omega)
    refine ⟨M', k1, fun q hq => (k2 q hq).trans (up2_cell hq), fun j => ?_⟩
    rw [k3 j]
    by_cases c1 : 338 + (i + 1) ≤ j ∧ j < 9560
    · rw [if_pos c1, up2_row, if_neg (by omega), if_pos (by omega)]
    · rw [if_neg c1, up2_row]
      by_cases c2 : j = 338 + i
      · rw [if_pos c2, if_pos (by omega), c2, show 338 + i + 318 = 656 + i by omega]
      · rw [if_neg c2, if_neg (by omega)]
theorem y_lay {n : Nat} (hn : n ≤ 29) : ∀ (d i f : Nat), i + d = 318 → d < f → ∀ (M : xm) (x : Int32), x.toInt = (i : Int) → (M 1 2).toInt = (n : Int) → ∃ M', g_X10_keep_58 f M x = some M' ∧ (∀ q, q ≠ 1 → M' q = M q) ∧ ∀ j, M' 1 j = if 338 + 318 * n + i ≤ j ∧ j < 338 + 318 * n + 318 then M 1 (j - (334 + 318 * n)) else M 1 j := by
  intro d
  induction d with
  | zero =>
    intro i f hi hf M x hx h2
    obtain ⟨f, rfl⟩ : ∃ q, f = q + 1 := ⟨f - 1, by omega⟩
    unfold g_X10_keep_58
    rw [if_pos (by rw [i_le, hx]; simp only [Int32.reduceToInt]; omega)]
    exact ⟨M, rfl, fun _ _ => rfl, fun j => by rw [if_neg (by omega)]⟩
  | succ d ih =>
    intro i f hi hf M x hx h2
    obtain ⟨f, rfl⟩ : ∃ q, f = q + 1 := ⟨f - 1, by omega⟩
    have e := yx 4 (b := 4) rfl hx (by omega)
    have m : ((338 : Int32) + 318 * M 1 2).toInt = ((338 + 318 * n : Nat) : Int) := by
      rw [i_add (x := 338) (a := 338) rfl (i_mul (x := 318) (a := 318) rfl h2 (by omega) (by omega)) (by omega) (by omega)]; omega
    have e' := yx _ m hx (by omega)
    unfold g_X10_keep_58
    rw [if_neg (by rw [i_le, hx]; simp only [Int32.reduceToInt]; omega), if_pos e.1, if_pos e'.1, e.2, e'.2, xlet_eq, xlet_eq]
    obtain ⟨M', k1, k2, k3⟩ := ih (i + 1) f (by omega) (by omega) (up2 M 1 (338 + 318 * n + i) (M 1 (4 + i))) (x + 1) (by rw [i_add hx (b := 1) rfl (by omega) (by omega)]; omega) (by rw [up2_row, if_neg (by omega)]; exact h2)
    refine ⟨M', k1, fun q hq => (k2 q hq).trans (up2_cell hq), fun j => ?_⟩
    rw [k3 j]
    by_cases c1 : 338 + 318 * n + (i + 1) ≤ j ∧ j < 338 + 318 * n + 318
    · rw [if_pos c1, up2_row, if_neg (by omega), if_pos (by omega)]
    · rw [if_neg c1, up2_row]
      by_cases c2 : j = 338 + 318 * n + i
      · rw [if_pos c2, if_pos (by omega), c2, show 338 + 318 * n + i - (334 + 318 * n) = 4 + i by omega]
      · rw [if_neg c2, if_neg (by omega)]
theorem y_keep {M : xm} {s : hs} {St : Nat → hs} {n : Nat} (h : RY M s) (o : Ok s) (hs : StY (M 1) St n) (os : ∀ i, i < n → Ok (St i)) : ∃ M', f_X10_keep M = some M' ∧ RY M' s ∧ StY (M' 1) (kSt St n s) (kN n) ∧ (∀ q, q ≠ 1 → M' q = M q) ∧ ∀ j, j < 338 → j ≠ 2 → M' 1 j = M 1 j := by
  obtain ⟨h1, h2, h3⟩ := hs
  unfold f_X10_keep
  rw [xlet_eq]
  have tail : ∀ (M1 : xm) (m : Nat), m ≤ 29 → (M1 1 2).toInt = (m : Int) → (∀ q, q ≠ 1 → M1 q = M q) → (∀ j, j < 338 → j ≠ 2 → M1 1 j = M 1 j) → ∃ M', (xb1 (g_X10_keep_58 xfuel M1 (0 : Int32)) fun M11 => xlet (up2 M11 1 2 (M11 1 2 + (1 : Int32))) fun M12 => some M12) = some M' ∧ (∀ q, q ≠ 1 → M' q = M q) ∧ (∀ j, j < 338 → j ≠ 2 → M' 1 j = M 1 j) ∧ (M' 1 2).toInt = ((m + 1 : Nat) : Int) ∧ (∀ j, 4 ≤ j → j < 322 → M' 1 (334 + 318 * m + j) = M 1 j) ∧ (∀ j, 338 ≤ j → j < 338 + 318 * m → M' 1 j = M1 1 j) := by
    intro M1 m hm e2 eq1 eq2
    obtain ⟨M2, k1, k2, k3⟩ := y_lay hm 318 0 xfuel (by omega) (by unfold xfuel; omega) M1 0 rfl e2
    rw [k1, xb1_some, xlet_eq]
    have m2 : M2 1 2 = M1 1 2 := by rw [k3, if_neg (by omega)]
    refine ⟨_, rfl, fun q hq => (up2_cell hq).trans ((k2 q hq).trans (eq1 q hq)), fun j j1 j2 => ?_, ?_, fun j j1 j2 => ?_, fun j j1 j2 => ?_⟩
    · rw [up2_row, if_neg j2, k3, if_neg (by omega)]; exact eq2 j j1 j2
    · rw [up2_row, if_pos rfl, m2, i_add e2 (b := 1) rfl (by omega) (by omega)]; omega
    · rw [up2_row, if_neg (by omega), k3, if_pos (by omega), show 334 + 318 * m + j - (334 + 318 * m) = j by omega]
      exact eq2 j (by omega) (by omega)
    · rw [up2_row, if_neg (by omega), k3, if_neg (by omega)]
  by_cases c : n = 30
  · rw [if_pos (by rw [i_eq, h2, c]; rfl)]
    obtain ⟨M1, k1, k2, k3⟩ := y_shift 9222 0 xfuel (by omega) (by unfold xfuel; omega) M 0 rfl
    have m2 : M1 1 2 = M 1 2 := by rw [k3, if_neg (by omega)]
    obtain ⟨M', t1, t2, t3, t4, t5, t6⟩ := tail (up2 M1 1 2 (M1 1 2 - 1)) 29 (by omega) (by rw [up2_row, if_pos rfl, m2, i_sub h2 (b := 1) rfl (by omega) (by omega)]; omega) (fun q hq => (up2_cell hq).trans (k2 q hq)) (fun j j1 j2 => by rw [up2_row, if_neg j2, k3, if_neg (by omega)])
    rw [k1, xb1_some, xlet_eq]
    refine ⟨M', t1, h.fr o (fun j j1 j2 => t3 j (by omega) (by omega)), ⟨by unfold kN; rw [if_pos c]; omega, by rw [t4]; unfold kN; rw [if_pos c], fun i hi => ?_⟩, t2, t3⟩
    unfold kN at hi
    rw [if_pos c] at hi
    unfold kSt
    rw [if_pos c]
    by_cases c2 : i < 29
    · show RYr (rwY (M' 1) i) (if i < 29 then St (i + 1) else s)
      rw [if_pos c2]
      refine (h3 (i + 1) (by omega)).fr (os (i + 1) (by omega)) (fun j j1 j2 => ?_)
      unfold rwY
      rw [t6 _ (by omega) (by omega), up2_row, if_neg (by omega), k3, if_pos (by omega), show 334 + 318 * i + j + 318 = 334 + 318 * (i + 1) + j by omega]
    · show RYr (rwY (M' 1) i) (if i < 29 then St (i + 1) else s)
      rw [if_neg c2]
      have i29 : i = 29 := by omega
      subst i29
      exact h.fr o (fun j j1 j2 => t5 j j1 j2)
  · rw [if_neg (by rw [i_eq, h2]; simp only [Int32.reduceToInt]; omega)]
    obtain ⟨M', t1, t2, t3, t4, t5, t6⟩ := tail M n (by omega) h2 (fun _ _ => rfl) (fun _ _ _ => rfl)
    refine ⟨M', t1, h.fr o (fun j j1 j2 => t3 j (by omega) (by omega)), ⟨by unfold kN; rw [if_neg c]; omega, by rw [t4]; unfold kN; rw [if_neg c], fun i hi => ?_⟩, t2, t3⟩
    unfold kN at hi
    rw [if_neg c] at hi
    unfold kSt
    rw [if_neg c]
    by_cases c2 : i = n
    · show RYr (rwY (M' 1) i) (if i = n then s else St i)
      rw [if_pos c2]
      subst c2
      exact h.fr o (fun j j1 j2 => t5 j j1 j2)
    · show RYr (rwY (M' 1) i) (if i = n then s else St i)
      rw [if_neg c2]
      refine (h3 i (by omega)).fr (os i (by omega)) (fun j j1 j2 => ?_)
      unfold rwY
      exact t6 _ (by omega) (by omega)
theorem y_unlay {n : Nat} (hn : n ≤ 29) : ∀ (d i f : Nat), i + d = 318 → d < f → ∀ (M : xm) (x : Int32), x.toInt = (i : Int) → (M 1 2).toInt = (n : Int) → ∃ M', g_X10_undo_23 f M x = some M' ∧ (∀ q, q ≠ 1 → M' q = M q) ∧ ∀ j, M' 1 j = if 4 + i ≤ j ∧ j < 322 then M 1 (334 + 318 * n + j) else M 1 j := by
  intro d
  induction d with
  | zero =>
    intro i f hi hf M x hx h2
    obtain ⟨f, rfl⟩ : ∃ q, f = q + 1 := ⟨f - 1, by omega⟩
    unfold g_X10_undo_23
    rw [if_pos (by rw [i_le, hx]; simp only [Int32.reduceToInt]; omega)]
    exact ⟨M, rfl, fun _ _ => rfl, fun j => by rw [if_neg (by omega)]⟩
  | succ d ih =>
    intro i f hi hf M x hx h2
    obtain ⟨f, rfl⟩ : ∃ q, f = q + 1 := ⟨f - 1, by omega⟩
    have e := yx 4 (b := 4) rfl hx (by omega)
    have m : ((338 : Int32) + 318 * M 1 2).toInt = ((338 + 318 * n : Nat) : Int) := by
      rw [i_add (x := 338) (a := 338) rfl (i_mul (x := 318) (a := 318) rfl h2 (by omega) (by omega)) (by omega) (by omega)]; omega
    have e' := yx _ m hx (by omega)
    unfold g_X10_undo_23
    rw [if_neg (by rw [i_le, hx]; simp only [Int32.reduceToInt]; omega), if_pos e'.1, if_pos e.1, e.2, e'.2, xlet_eq, xlet_eq]
    obtain ⟨M', k1, k2, k3⟩ := ih (i + 1) f (by omega) (by omega) (up2 M 1 (4 + i) (M 1 (338 + 318 * n + i))) (x + 1) (by rw [i_add hx (b := 1) rfl (by omega) (by omega)]; omega) (by rw [up2_row, if_neg (by omega)]; exact h2)
    refine ⟨M', k1, fun q hq => (k2 q hq).trans (up2_cell hq), fun j => ?_⟩
    rw [k3 j]
    by_cases c1 : 4 + (i + 1) ≤ j ∧ j < 322
    · rw [if_pos c1, up2_row, if_neg (by omega), if_pos (by omega)]
    · rw [if_neg c1, up2_row]
      by_cases c2 : j = 4 + i
      · rw [if_pos c2, if_pos (by omega), c2, show 334 + 318 * n + (4 + i) = 338 + 318 * n + i by omega]
      · rw [if_neg c2, if_neg (by omega)]
theorem y_undo {M : xm} {St : Nat → hs} {n : Nat} (hs : StY (M 1) St n) (os : ∀ i, i < n → Ok (St i)) : (n = 0 → f_X10_undo M = some (-1, M)) ∧ (1 ≤ n → ∃ v M', f_X10_undo M = some (v, M') ∧ v.toInt = ((n - 1 : Nat) : Int) ∧ RY M' (St (n - 1)) ∧ StY (M' 1) St (n - 1) ∧ (∀ q, q ≠ 1 → M' q = M q) ∧ ∀ j, (j < 4 ∨ 322 ≤ j) → j ≠ 2 → M' 1 j = M 1 j) := by
  obtain ⟨h1, h2, h3⟩ := hs
  unfold f_X10_undo
  refine ⟨fun c => ?_, fun c => ?_⟩
  · rw [if_pos (by rw [i_eq, h2, c]; rfl)]
  · rw [if_neg (by rw [i_eq, h2]; simp only [Int32.reduceToInt]; omega), xlet_eq]
    have e2 : ((up2 M 1 2 (M 1 2 - 1)) 1 2).toInt = ((n - 1 : Nat) : Int) := by rw [up2_same, i_sub h2 (b := 1) rfl (by omega) (by omega)]; omega
    obtain ⟨M', k1, k2, k3⟩ := y_unlay (n := n - 1) (by omega) 318 0 xfuel (by omega) (by unfold xfuel; omega) _ 0 rfl e2
    rw [k1, xb1_some]
    have r2 : M' 1 2 = (up2 M 1 2 (M 1 2 - 1)) 1 2 := by rw [k3, if_neg (by omega)]
    refine ⟨_, M', rfl, by rw [r2]; exact e2, ?_, ⟨by omega, by rw [r2]; exact e2, fun i hi => ?_⟩, fun q hq => (k2 q hq).trans (up2_cell hq), fun j hj j2 => by rw [k3, if_neg (by omega), up2_row, if_neg j2]⟩
    · refine (h3 (n - 1) (by omega)).fr (os (n - 1) (by omega)) (fun j j1 j2 => ?_)
      rw [k3, if_pos (by omega), up2_row, if_neg (by omega)]
      rfl
    · refine (h3 i (by omega)).fr (os i (by omega)) (fun j j1 j2 => ?_)
      unfold rwY
      rw [k3, if_neg (by omega), up2_row, if_neg (by omega)]
