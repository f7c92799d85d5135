/-! what is only thought of -/
theorem Rel.look {MX MY MX' MY' : xm} {LY LY' : xn} (h : Rel MX MY LY) (hx : ∀ q, (q < 971 ∨ q = 990 ∨ q = 991 ∨ 1006 ≤ q) → MX' q = MX q) (hy : ∀ q, q ≤ 4 → MY' q = MY q) : Rel MX' MY' LY' := by
  refine h.mk (fun nt h' => ?_) (fun q hq => hx q (by omega)) (fun q hq => hy q (by omega))
  rw [hy 1 (by omega)]
  exact h'.fr (fun q _ _ => hx q (by omega)) (fun q _ _ => hx q (by omega)) (fun q _ _ => hx q (by omega))
theorem y_aside_loop : ∀ (d i f : Nat), i + d = 318 → d < f → ∀ (M : xm) (x : Int32), x.toInt = (i : Int) → ∃ M', g_X10_putAside_2 f M x = some M' ∧ (∀ q, q ≠ 9 → M' q = M q) ∧ ∀ j, M' 9 j = if i ≤ j ∧ j < 318 then M 1 (4 + j) else M 9 j := by
  intro d
  induction d with
  | zero =>
    intro i f hi hf M x hx
    obtain ⟨f, rfl⟩ : ∃ q, f = q + 1 := ⟨f - 1, by omega⟩
    unfold g_X10_putAside_2
    rw [if_pos (by rw [i_le, hx]; simp only [Int32.reduceToInt]; omega)]
    exact ⟨M, rfl, fun _ _ => rfl, fun j => by rw [if_neg (by omega)]⟩
  | succ d ih =>
    intro i f hi hf M x hx
    obtain ⟨f, rfl⟩ : ∃ q, f = q + 1 := ⟨f - 1, by omega⟩
    have e := yx 4 (b := 4) rfl hx (by omega)
    unfold g_X10_putAside_2
    rw [if_neg (by rw [i_le, hx]; simp only [Int32.reduceToInt]; omega), if_pos e.1, if_pos (i_in hx (by omega)), e.2, i_ix hx, xlet_eq, xlet_eq]
    obtain ⟨M', k1, k2, k3⟩ := ih (i + 1) f (by omega) (by omega) (up2 M 9 i (M 1 (4 + i))) (x + 1) (by rw [i_add hx (b := 1) rfl (by omega) (by omega)]; omega)
    refine ⟨M', k1, fun q hq => (k2 q hq).trans (up2_cell hq), fun j => ?_⟩
    rw [k3 j]
    by_cases c1 : i + 1 ≤ j ∧ j < 318
    · rw [if_pos c1, up2_cell (by omega), if_pos (by omega)]
    · rw [if_neg c1, up2_row]
      by_cases c2 : j = i
      · rw [if_pos c2, if_pos (by omega), c2]
      · rw [if_neg c2, if_neg (by omega)]
theorem y_back_loop : ∀ (d i f : Nat), i + d = 318 → d < f → ∀ (M : xm) (x : Int32), x.toInt = (i : Int) → ∃ M', g_X10_bringBack_2 f M x = some M' ∧ (∀ q, q ≠ 1 → M' q = M q) ∧ ∀ j, M' 1 j = if 4 + i ≤ j ∧ j < 322 then M 9 (j - 4) else M 1 j := by
  intro d
  induction d with
  | zero =>
    intro i f hi hf M x hx
    obtain ⟨f, rfl⟩ : ∃ q, f = q + 1 := ⟨f - 1, by omega⟩
    unfold g_X10_bringBack_2
    rw [if_pos (by rw [i_le, hx]; simp only [Int32.reduceToInt]; omega)]
    exact ⟨M, rfl, fun _ _ => rfl, fun j => by rw [if_neg (by omega)]⟩
  | succ d ih =>
    intro i f hi hf M x hx
    obtain ⟨f, rfl⟩ : ∃ q, f = q + 1 := ⟨f - 1, by omega⟩
    have e := yx 4 (b := 4) rfl hx (by omega)
    unfold g_X10_bringBack_2
    rw [if_neg (by rw [i_le, hx]; simp only [Int32.reduceToInt]; omega), if_pos (i_in hx (by omega)), if_pos e.1, e.2, i_ix hx, xlet_eq, xlet_eq]
    obtain ⟨M', k1, k2, k3⟩ := ih (i + 1) f (by omega) (by omega) (up2 M 1 (4 + i) (M 9 i)) (x + 1) (by rw [i_add hx (b := 1) rfl (by omega) (by omega)]; omega)
    refine ⟨M', k1, fun q hq => (k2 q hq).trans (up2_cell hq), fun j => ?_⟩
    rw [k3 j]
    by_cases c1 : 4 + (i + 1) ≤ j ∧ j < 322
    · rw [if_pos c1, up2_cell (by omega), if_pos (by omega)]
    · rw [if_neg c1, up2_row]
      by_cases c2 : j = 4 + i
      · rw [if_pos c2, if_pos (by omega), c2, show 4 + i - 4 = i by omega]
      · rw [if_neg c2, if_neg (by omega)]
/-- put aside, and brought back whatever was done between -/
theorem y_aside (M : xm) : ∃ M1, f_X10_putAside M = some M1 ∧ (∀ q, q ≠ 9 → M1 q = M q) ∧ ∀ M2 : xm, (∀ q, q ≠ 1 → q ≠ 6 → q ≠ 8 → M2 q = M1 q) → (∀ j, (j < 4 ∨ 322 ≤ j) → M2 1 j = M1 1 j) → ∃ M3, f_X10_bringBack M2 = some M3 ∧ M3 1 = M 1 ∧ (∀ q, q ≠ 6 → q ≠ 8 → q ≠ 9 → M3 q = M q) := by
  obtain ⟨M1, k1, k2, k3⟩ := y_aside_loop 318 0 xfuel (by omega) (by unfold xfuel; omega) M 0 rfl
  refine ⟨M1, by unfold f_X10_putAside; rw [k1, xb1_some], k2, fun M2 h1 h2 => ?_⟩
  obtain ⟨M3, r1, r2, r3⟩ := y_back_loop 318 0 xfuel (by omega) (by unfold xfuel; omega) M2 0 rfl
  have row : M3 1 = M 1 := by
    funext j
    rw [r3]
    by_cases c : 4 + 0 ≤ j ∧ j < 322
    · rw [if_pos c, h1 9 (by decide) (by decide) (by decide), k3, if_pos (by omega), show 4 + (j - 4) = j by omega]
    · rw [if_neg c, h2 j (by omega), k2 1 (by decide)]
  refine ⟨M3, by unfold f_X10_bringBack; rw [r1, xb1_some], row, fun q a b c => ?_⟩
  by_cases q1 : q = 1
  · rw [q1]; exact row
  · rw [r2 q q1, h1 q q1 a b, k2 q c]
theorem x_fore_loop {MX0 MY0 : xm} {o : Option Nat} {π : hs → Nat → Bool} {κ : hs → Nat → Int} (E : Lnv MX0 MY0 o π κ) {a b : Int32} {N : Nat} (ha : a.toInt = (N : Int)) (hN : N ≤ 60) : ∀ (d i f : Nat) (M : xm) (s : hs) (x : Int32), i + d = N → d < f → RX 971 M s → HO s → sameX MX0 M → M 483 = MX0 483 → x.toInt = (i : Int) → ∃ M', g_X9_foretold_35 a b f M x = some M' ∧ RX 971 M' (sTs π d s) ∧ frL 971 M M' := by
  intro d
  induction d with
  | zero =>
    intro i f M s x hi hf h ho hs h483 hx
    obtain ⟨f, rfl⟩ : ∃ q, f = q + 1 := ⟨f - 1, by omega⟩
    unfold g_X9_foretold_35
    rw [if_pos (by rw [i_le, ha, hx]; omega)]
    exact ⟨M, rfl, h, frL.rfl⟩
  | succ d ih =>
    intro i f M s x hi hf h ho hs h483 hx
    obtain ⟨f, rfl⟩ : ∃ q, f = q + 1 := ⟨f - 1, by omega⟩
    unfold g_X9_foretold_35 sTs
    rw [if_neg (by rw [i_le, ha, hx]; omega)]
    by_cases c : s 0 17 < 9999
    · obtain ⟨G, hi'⟩ := ho.1
      obtain ⟨M1, k1, k2, k3, k4⟩ := x_tick (by omega) (sameX.s MX0) (E.2.2.2.1 971 (by omega)) E.2.1 h hi' (by omega) hs
      rw [if_neg (by rw [i_le, h.clock]; simp only [Int32.reduceToInt]; omega), h483, E.1, xb1_some, k1, xb1_some, xlet_eq, if_pos c]
      obtain ⟨M', r1, r2, r3⟩ := ih (i + 1) f M1 (sTick s π) (x + 1) (by omega) (by omega) k2 (ho.tick c π) k3 ((k4 483 (by omega) (by omega) (by omega)).trans h483) (by rw [i_add hx (b := 1) rfl (by omega) (by omega)]; omega)
      exact ⟨M', r1, r2, frL.tr k4 r3⟩
    · rw [if_pos (by rw [i_le, h.clock]; simp only [Int32.reduceToInt]; omega), if_neg c]
      exact ⟨M, rfl, h, frL.rfl⟩
theorem y_fore_loop {MX0 MY0 : xm} {o : Option Nat} {π : hs → Nat → Bool} {κ : hs → Nat → Int} (E : Lnv MX0 MY0 o π κ) {a b : Int32} {N : Nat} (ha : a.toInt = (N : Int)) (hN : N ≤ 60) : ∀ (d i f : Nat) (M : xm) (L : xn) (s : hs) (x : Int32), i + d = N → d < f → RY M s → HO s → TYr MY0 M → x.toInt = (i : Int) → ∃ M' L', g_X10_foretold_27 a b f M L x = some (M', L') ∧ RY M' (sTs π d s) ∧ frP M M' := by
  intro d
  induction d with
  | zero =>
    intro i f M L s x hi hf h ho hs hx
    obtain ⟨f, rfl⟩ : ∃ q, f = q + 1 := ⟨f - 1, by omega⟩
    unfold g_X10_foretold_27
    rw [if_pos (by rw [i_le, ha, hx]; omega)]
    exact ⟨M, L, rfl, h, frP.rfl⟩
  | succ d ih =>
    intro i f M L s x hi hf h ho hs hx
    obtain ⟨f, rfl⟩ : ∃ q, f = q + 1 := ⟨f - 1, by omega⟩
    have nx : (x + 1).toInt = ((i + 1 : Nat) : Int) := by rw [i_add hx (b := 1) rfl (by omega) (by omega)]; omega
    unfold g_X10_foretold_27 sTs
    rw [if_neg (by rw [i_le, ha, hx]; omega)]
    simp only [xlet_eq]
    by_cases c : s 0 17 < 9999
    · obtain ⟨G, hi'⟩ := ho.1
      obtain ⟨M1, L1, k1, k2, k3, k4⟩ := y_tick (TYr.s MY0) E.2.2.2.2.1 (L := L) h hi' (by omega) hs
      rw [if_neg (by rw [i_le, h.clock]; simp only [Int32.reduceToInt]; omega), k1, xb2_some, if_pos c]
      obtain ⟨M', L', r1, r2, r3⟩ := ih (i + 1) f M1 L1 (sTick s π) (x + 1) (by omega) (by omega) k2 (ho.tick c π) k3 nx
      exact ⟨M', L', r1, r2, frP.tr k4 r3⟩
    · rw [if_pos (by rw [i_le, h.clock]; simp only [Int32.reduceToInt]; omega), if_neg c]
      have := ih (i + 1) f M L s (x + 1) (by omega) (by omega) h ho hs nx
      rw [sTs_stop c] at this
      exact this
theorem s_foretold : sim_foretold Rel := by
  intro MX MY LY a0 b0 h
  have hr := h
  obtain ⟨nt, nti, ⟨s, St, n, ru, sd, sp, sk, hs⟩, _, _, _, lw⟩ := h
  have ⟨a1, a2, a3, a4, a5, a6, a7, a8, a9⟩ := hs
  obtain ⟨ot, π, κ, E⟩ := law_now a7 a8 a9 lw
  unfold f_X9_foretold f_X10_foretold
  rw [yIn, yIn]
  have z0 : (0 : Int32).toInt = 0 := rfl
  have z1 : (1 : Int32).toInt = 1 := rfl
  have z60 : (60 : Int32).toInt = 60 := rfl
  rw [z0, z1, z60]
  by_cases d : 1 ≤ a0.toInt ∧ a0.toInt ≤ 60
  · rw [if_neg (c := a0 < 1) (by rw [i_lt, z1]; omega), if_neg (c := 60 < a0) (by rw [i_lt, z60]; omega), if_pos d, if_neg n10]
    by_cases g : 0 ≤ b0.toInt ∧ b0.toInt ≤ 1
    · obtain ⟨N, hN⟩ : ∃ N : Nat, a0.toInt = N := ⟨a0.toInt.toNat, by omega⟩
      obtain ⟨M1, t1, t2, t3⟩ := x_takeOver (u0 := 971) (u1 := 1) (by omega) a1 a3.ok
      obtain ⟨M2, k1, k2, k3⟩ := x_fore_loop E (b := b0) hN (by omega) N 0 xfuel M1 s 0 (by omega) (by unfold xfuel; omega) t2 a3 (fun q hq => t3 q (by omega)) (t3 483 (by omega)) rfl
      obtain ⟨N1, p1, p2, p3⟩ := y_aside MY
      have hy1 : RY N1 s := by show RYr (N1 1) s; rw [p2 1 (by decide)]; exact a2
      obtain ⟨N2, L2, y1, y2, y3⟩ := y_fore_loop E (b := b0) hN (by omega) N 0 xfuel N1 LY s 0 (by omega) (by unfold xfuel; omega) hy1 a3 ⟨p2 3 (by decide), by rw [p2 1 (by decide)]⟩ rfl
      obtain ⟨N3, r1, r2, r3⟩ := p3 N2 y3.1 y3.2
      have rel : Rel M2 N3 L2 := hr.look (fun q hq => (k3 q (by omega) (by omega) (by omega)).trans (t3 q (by omega))) (fun q hq => r3 q (by omega) (by omega) (by omega))
      rw [if_neg (c := b0 < 0) (by rw [i_lt, z0]; omega), if_pos (c := b0 ≤ 1) (by rw [i_le, z1]; omega), if_pos g, if_neg n10, t1, xb1_some, k1, xb1_some, p1, xb1_some, y1, xb2_some]
      simp only [xlet_eq]
      by_cases c : b0 = 0
      · rw [if_pos c, if_pos c, r1, xb1_some, i_inj k2.phase y2.phase]
        exact ⟨_, M2, N3, L2, rfl, rfl, rel⟩
      · rw [if_neg c, if_neg c, x_freePages k2, xb1_some, y_freePages y2, xb1_some, r1, xb1_some]
        exact ⟨_, M2, N3, L2, rfl, rfl, rel⟩
    · rw [if_neg g, if_pos rfl]
      refine ⟨-1, MX, MY, LY, ?_, rfl, hr⟩
      by_cases c : b0.toInt < 0
      · rw [if_pos (by rw [i_lt]; exact c)]
      · rw [if_neg (by rw [i_lt]; exact c), if_neg (by rw [i_le, z1]; omega)]
  · rw [if_neg d, if_pos rfl]
    refine ⟨-1, MX, MY, LY, ?_, rfl, hr⟩
    by_cases c : a0.toInt < 1
    · rw [if_pos (by rw [i_lt, z1]; exact c)]
    · rw [if_neg (by rw [i_lt, z1]; exact c), if_pos (by rw [i_lt, z60]; omega)]
/-- until it is idle: how many ticks, 200 at most -/
def sTi (π : hs → Nat → Bool) : Nat → hs → hs
  | 0, s => s
  | d + 1, s => if s 0 14 = 0 then s else sTi π d (sTick s π)
def sTn (π : hs → Nat → Bool) : Nat → hs → Nat
  | 0, _ => 0
  | d + 1, s => if s 0 14 = 0 then 0 else sTn π d (sTick s π) + 1
theorem sTn_le {π : hs → Nat → Bool} : ∀ (d : Nat) (s : hs), sTn π d s ≤ d := by
  intro d
  induction d with
  | zero => intro s; exact Nat.le_refl _
  | succ d ih => intro s; unfold sTn; split
                 · omega
                 · have := ih (sTick s π); omega
theorem x_till_loop {MX0 MY0 : xm} {o : Option Nat} {π : hs → Nat → Bool} {κ : hs → Nat → Int} (E : Lnv MX0 MY0 o π κ) : ∀ (d i f : Nat) (M : xm) (s : hs) (x : Int32), i + d = 200 → d + 1 < f → RX 971 M s → Inv s → s 0 17 + d ≤ 10490 → sameX MX0 M → M 483 = MX0 483 → x.toInt = (i : Int) → ∃ M', g_X9_till_13 f M x = some (if sTi π d s 0 14 = 0 then Sum.inl (nI (i + sTn π d s), M') else Sum.inr M') ∧ frL 971 M M' := by
  intro d
  induction d with
  | zero =>
    intro i f M s x hi hf h ho hc hs h483 hx
    obtain ⟨f, rfl⟩ : ∃ q, f = q + 1 := ⟨f - 1, by omega⟩
    have hx' : x = nI i := by rw [i_eq, hx, nI_toInt (by omega)]
    unfold g_X9_till_13
    rw [if_neg (by rw [i_lt, hx]; simp only [Int32.reduceToInt]; omega)]
    show ∃ M', _ = some (if s 0 14 = 0 then Sum.inl (nI (i + 0), M') else Sum.inr M') ∧ _
    by_cases c : s 0 14 = 0
    · rw [if_pos (by rw [i_eq, h.phase, c]; rfl), hx']
      exact ⟨M, by rw [if_pos c]; rfl, frL.rfl⟩
    · obtain ⟨G, hi'⟩ := ho
      obtain ⟨M1, k1, k2, k3, k4⟩ := x_tick (by omega) (sameX.s MX0) (E.2.2.2.1 971 (by omega)) E.2.1 h hi' (by omega) hs
      obtain ⟨f, rfl⟩ : ∃ q, f = q + 1 := ⟨f - 1, by omega⟩
      rw [if_neg (by rw [i_eq, h.phase]; exact c), h483, E.1, xb1_some, k1, xb1_some, xlet_eq]
      unfold g_X9_till_13
      rw [if_pos (by rw [i_lt, i_add hx (y := 1) (b := 1) rfl (by omega) (by omega)]; simp only [Int32.reduceToInt]; omega)]
      exact ⟨M1, by rw [if_neg c], k4⟩
  | succ d ih =>
    intro i f M s x hi hf h ho hc hs h483 hx
    obtain ⟨f, rfl⟩ : ∃ q, f = q + 1 := ⟨f - 1, by omega⟩
    have hx' : x = nI i := by rw [i_eq, hx, nI_toInt (by omega)]
    unfold g_X9_till_13 sTi sTn
    rw [if_neg (by rw [i_lt, hx]; simp only [Int32.reduceToInt]; omega)]
    by_cases c : s 0 14 = 0
    · rw [if_pos (by rw [i_eq, h.phase, c]; rfl), if_pos c, if_pos c, hx']
      exact ⟨M, by rw [if_pos c]; rfl, frL.rfl⟩
    · obtain ⟨G, hi'⟩ := id ho
      obtain ⟨M1, k1, k2, k3, k4⟩ := x_tick (by omega) (sameX.s MX0) (E.2.2.2.1 971 (by omega)) E.2.1 h hi' (by omega) hs
      rw [if_neg (by rw [i_eq, h.phase]; exact c), h483, E.1, xb1_some, k1, xb1_some, xlet_eq, if_neg c, if_neg c]
      obtain ⟨M', r1, r2⟩ := ih (i + 1) f M1 (sTick s π) (x + 1) (by omega) (by omega) k2 (ho.tick (by omega) π) (by show s 0 17 + 1 + d ≤ 10490; omega) k3 ((k4 483 (by omega) (by omega) (by omega)).trans h483) (by rw [i_add hx (b := 1) rfl (by omega) (by omega)]; omega)
      rw [show i + 1 + sTn π d (sTick s π) = i + (sTn π d (sTick s π) + 1) by omega] at r1
      exact ⟨M', r1, frL.tr k4 r2⟩
theorem y_till_loop {MX0 MY0 : xm} {o : Option Nat} {π : hs → Nat → Bool} {κ : hs → Nat → Int} (E : Lnv MX0 MY0 o π κ) : ∀ (d i f : Nat) (M : xm) (L : xn) (s : hs) (x : Int32), i + d = 200 → d < f → RY M s → Inv s → s 0 17 + d ≤ 10490 → TYr MY0 M → x.toInt = (i : Int) → ∃ M' L', g_X10_till_6 f M L x = some (nI (i + sTn π d s), M', L') ∧ RY M' (sTi π d s) ∧ frP M M' := by
  intro d
  induction d with
  | zero =>
    intro i f M L s x hi hf h ho hc hs hx
    obtain ⟨f, rfl⟩ : ∃ q, f = q + 1 := ⟨f - 1, by omega⟩
    have hx' : x = nI i := by rw [i_eq, hx, nI_toInt (by omega)]
    unfold g_X10_till_6
    rw [if_pos (by rw [i_le, hx]; simp only [Int32.reduceToInt]; omega), hx']
    exact ⟨M, L, rfl, h, frP.rfl⟩
  | succ d ih =>
    intro i f M L s x hi hf h ho hc hs hx
    obtain ⟨f, rfl⟩ : ∃ q, f = q + 1 := ⟨f - 1, by omega⟩
    have hx' : x = nI i := by rw [i_eq, hx, nI_toInt (by omega)]
    unfold g_X10_till_6 sTi sTn
    rw [if_neg (by rw [i_le, hx]; simp only [Int32.reduceToInt]; omega)]
    by_cases c : s 0 14 = 0
    · rw [if_pos (by rw [i_eq, h.phase, c]; rfl), if_pos c, if_pos c, hx']
      exact ⟨M, L, rfl, h, frP.rfl⟩
    · obtain ⟨G, hi'⟩ := id ho
      obtain ⟨M1, L1, k1, k2, k3, k4⟩ := y_tick (TYr.s MY0) E.2.2.2.2.1 (L := L) h hi' (by omega) hs
      rw [if_neg (by rw [i_eq, h.phase]; exact c), k1, xb2_some, xlet_eq, if_neg c, if_neg c]
      obtain ⟨M', L', r1, r2, r3⟩ := ih (i + 1) f M1 L1 (sTick s π) (x + 1) (by omega) (by omega) k2 (ho.tick (by omega) π) (by show s 0 17 + 1 + d ≤ 10490; omega) k3 (by rw [i_add hx (b := 1) rfl (by omega) (by omega)]; omega)
      rw [show i + 1 + sTn π d (sTick s π) = i + (sTn π d (sTick s π) + 1) by omega] at r1
      exact ⟨M', L', r1, r2, frP.tr k4 r3⟩
theorem s_till : sim_till Rel := by
  intro MX MY LY h
  have hr := h
  obtain ⟨nt, nti, ⟨s, St, n, ru, sd, sp, sk, hs⟩, _, _, _, lw⟩ := h
  have ⟨a1, a2, a3, a4, a5, a6, a7, a8, a9⟩ := hs
  have hc := a3.2.1
  obtain ⟨ot, π, κ, E⟩ := law_now a7 a8 a9 lw
  unfold f_X9_till f_X10_till
  obtain ⟨M1, t1, t2, t3⟩ := x_takeOver (u0 := 971) (u1 := 1) (by omega) a1 a3.ok
  obtain ⟨M2, k1, k2⟩ := x_till_loop E 200 0 xfuel M1 s 0 (by omega) (by unfold xfuel; omega) t2 a3.1 (by omega) (fun q hq => t3 q (by omega)) (t3 483 (by omega)) rfl
  obtain ⟨N1, p1, p2, p3⟩ := y_aside MY
  have hy1 : RY N1 s := by show RYr (N1 1) s; rw [p2 1 (by decide)]; exact a2
  obtain ⟨N2, L2, y1, y2, y3⟩ := y_till_loop E 200 0 xfuel N1 LY s 0 (by omega) (by unfold xfuel; omega) hy1 a3.1 (by omega) ⟨p2 3 (by decide), by rw [p2 1 (by decide)]⟩ rfl
  obtain ⟨N3, r1, r2, r3⟩ := p3 N2 y3.1 y3.2
  have rel : Rel M2 N3 L2 := hr.look (fun q hq => (k2 q (by omega) (by omega) (by omega)).trans (t3 q (by omega))) (fun q hq => r3 q (by omega) (by omega) (by omega))
  rw [t1, xb1_some, k1, p1, xb1_some, y1, xb3_some]
  simp only [xlet_eq]
  by_cases c : sTi π 200 s 0 14 = 0
  · rw [if_pos c, xs2_l, if_pos (by rw [i_eq, y2.phase, c]; rfl), r1, xb1_some]
    exact ⟨_, M2, N3, L2, rfl, rfl, rel⟩
  · rw [if_neg c, xs2_r, if_neg (by rw [i_eq, y2.phase]; exact c), r1, xb1_some]
    exact ⟨_, M2, N3, L2, rfl, rfl, rel⟩
