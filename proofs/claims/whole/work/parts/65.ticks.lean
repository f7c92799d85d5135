/-! ticks one behind the other -/
def sTs (π : hs → Nat → Bool) : Nat → hs → hs
  | 0, s => s
  | d + 1, s => if s 0 17 < 9999 then sTs π d (sTick s π) else s
theorem HO.tick {s : hs} (h : HO s) (hc : s 0 17 < 9999) (π : hs → Nat → Bool) : HO (sTick s π) := by
  obtain ⟨G, hi⟩ := h.1
  refine ⟨h.1.tick (by omega) π, ?_, ?_⟩
  · show s 0 17 + 1 ≤ 9999
    omega
  · have a := h.2.2.op hi π
    obtain ⟨G', hi'⟩ := Inv.op hi π
    exact a.wk hi' (Wk.up (by decide) (by decide) (by decide))
theorem HO.ts {π : hs → Nat → Bool} : ∀ (d : Nat) (s : hs), HO s → HO (sTs π d s) := by
  intro d
  induction d with
  | zero => intro s h; exact h
  | succ d ih =>
    intro s h
    unfold sTs
    split
    · rename_i c; exact ih _ (h.tick c π)
    · exact h
theorem sTs_stop {π : hs → Nat → Bool} {d : Nat} {s : hs} (h : ¬ s 0 17 < 9999) : sTs π d s = s := by
  cases d with
  | zero => rfl
  | succ d => unfold sTs; rw [if_neg h]
theorem x_make_loop {MX0 MY0 : xm} {o : Option Nat} {π : hs → Nat → Bool} {κ : hs → Nat → Int} (E : Lnv MX0 MY0 o π κ) {a b : Int32} {N : Nat} (ha : a.toInt = (N : Int)) (hN : N ≤ 9) : ∀ (d i f : Nat) (M : xm) (s : hs) (x : Int32), i + d = N → d < f → RX 1 M s → HO s → sameX MX0 M → x.toInt = (i : Int) → ∃ M', g_X9_make_85 o a b f M x = some M' ∧ RX 1 M' (sTs π d s) ∧ sameX MX0 M' ∧ frL 1 M M' := by
  intro d
  induction d with
  | zero =>
    intro i f M s x hi hf h ho hs hx
    obtain ⟨f, rfl⟩ : ∃ q, f = q + 1 := ⟨f - 1, by omega⟩
    unfold g_X9_make_85
    rw [if_pos (by rw [i_le, ha, hx]; omega)]
    exact ⟨M, rfl, h, hs, frL.rfl⟩
  | succ d ih =>
    intro i f M s x hi hf h ho hs hx
    obtain ⟨f, rfl⟩ : ∃ q, f = q + 1 := ⟨f - 1, by omega⟩
    unfold g_X9_make_85 sTs
    rw [if_neg (by rw [i_le, ha, hx]; omega)]
    by_cases c : s 0 17 < 9999
    · obtain ⟨G, hi'⟩ := ho.1
      obtain ⟨M1, k1, k2, k3, k4⟩ := x_tick (by omega) (sameX.s MX0) (E.2.2.2.1 1 (by omega)) E.2.1 h hi' (by omega) hs
      rw [if_neg (by rw [i_le, h.clock]; simp only [Int32.reduceToInt]; omega), k1, xb1_some, xlet_eq, if_pos c]
      obtain ⟨M', r1, r2, r3, r4⟩ := ih (i + 1) f M1 (sTick s π) (x + 1) (by omega) (by omega) k2 (ho.tick c π) k3 (by rw [i_add hx (b := 1) rfl (by omega) (by omega)]; omega)
      exact ⟨M', r1, r2, r3, frL.tr k4 r4⟩
    · rw [if_pos (by rw [i_le, h.clock]; simp only [Int32.reduceToInt]; omega), if_neg c]
      exact ⟨M, rfl, h, hs, frL.rfl⟩
theorem y_make_loop {MX0 MY0 : xm} {o : Option Nat} {π : hs → Nat → Bool} {κ : hs → Nat → Int} (E : Lnv MX0 MY0 o π κ) {a b : Int32} {N : Nat} (ha : a.toInt = (N : Int)) (hN : N ≤ 9) : ∀ (d i f : Nat) (M : xm) (L : xn) (s : hs) (x : Int32), i + d = N → d < f → RY M s → HO s → TYr MY0 M → x.toInt = (i : Int) → ∃ M' L', g_X10_make_51 a b f M L x = some (M', L') ∧ RY M' (sTs π d s) ∧ TYr MY0 M' ∧ frP M M' := by
  intro d
  induction d with
  | zero =>
    intro i f M L s x hi hf h ho hs hx
    obtain ⟨f, rfl⟩ : ∃ q, f = q + 1 := ⟨f - 1, by omega⟩
    unfold g_X10_make_51
    rw [if_pos (by rw [i_le, ha, hx]; omega)]
    exact ⟨M, L, rfl, h, hs, frP.rfl⟩
  | succ d ih =>
    intro i f M L s x hi hf h ho hs hx
    obtain ⟨f, rfl⟩ : ∃ q, f = q + 1 := ⟨f - 1, by omega⟩
    unfold g_X10_make_51 sTs
    rw [if_neg (by rw [i_le, ha, hx]; omega)]
    by_cases c : s 0 17 < 9999
    · obtain ⟨G, hi'⟩ := ho.1
      obtain ⟨M1, L1, k1, k2, k3, k4⟩ := y_tick (TYr.s MY0) E.2.2.2.2.1 (L := L) h hi' (by omega) hs
      rw [if_neg (by rw [i_le, h.clock]; simp only [Int32.reduceToInt]; omega), k1, xb2_some, xlet_eq, if_pos c]
      obtain ⟨M', L', r1, r2, r3, r4⟩ := ih (i + 1) f M1 L1 (sTick s π) (x + 1) (by omega) (by omega) k2 (ho.tick c π) k3 (by rw [i_add hx (b := 1) rfl (by omega) (by omega)]; omega)
      exact ⟨M', L', r1, r2, r3, frP.tr k4 r4⟩
    · rw [if_pos (by rw [i_le, h.clock]; simp only [Int32.reduceToInt]; omega), if_neg c]
      exact ⟨M, L, rfl, h, hs, frP.rfl⟩
theorem sMake_17 {s : hs} {r n : Nat} : sMake s r n 0 17 = s 0 17 := by
  have e : (up2 (sNew (sGive s 0 (n + 1)) (sAt s 0 (n + 1)) n) 8 r (s 0 15 * 64 + sAt s 0 (n + 1))) 0 17 = s 0 17 := by
    rw [up2_ap, if_neg (by omega)]
    unfold sNew
    rw [if_neg (by omega), if_neg (by omega), sGive_k _ (by decide) (by decide) (by decide)]
  unfold sMake
  rw [sWr_k _ (by decide)]
  split
  · exact e
  · rw [sMark_k _ (by decide) (by decide)]; exact e
theorem RX.law {u : Nat} {M M' : xm} {s : hs} (hu : u + 15 ≤ 1004) (h : RX u M s) (hf : ∀ q, q ≠ 1004 → q ≠ 1005 → M' q = M q) : RX u M' s := h.fr (fun q _ _ => hf q (by omega) (by omega))
theorem s_make : sim_make Rel := by
  intro MX MY LY a0 b0 h
  have hr := h
  obtain ⟨nt, nti, ⟨s, St, n, ru, sd, sp, sk, hs⟩, _, _, _, lw⟩ := h
  have ⟨a1, a2, a3, a4, a5, a6, a7, a8, a9⟩ := hs
  have ⟨⟨G, hi⟩, hc, hrw⟩ := a3
  obtain ⟨ot, π, κ, E⟩ := law_now a7 a8 a9 lw
  have o := hi.1
  have l := hi.2.1
  unfold f_X9_make f_X10_make
  rw [f_isRoot_eq, yRoot, yIn, E.1, xb1_some]
  have z0 : (0 : Int32).toInt = 0 := rfl
  have z3 : (3 : Int32).toInt = 3 := rfl
  rw [z0, z3]
  by_cases d : 0 ≤ a0.toInt ∧ a0.toInt ≤ 5
  · rw [if_pos (c := 0 ≤ a0.toInt ∧ a0.toInt < 6) (by omega), if_neg n10, if_pos d, if_neg n10]
    by_cases g : 0 ≤ b0.toInt ∧ b0.toInt ≤ 3
    · obtain ⟨r, hr0⟩ : ∃ r : Nat, a0.toInt = r := ⟨a0.toInt.toNat, by omega⟩
      obtain ⟨f, hf0⟩ : ∃ f : Nat, b0.toInt = f := ⟨b0.toInt.toNat, by omega⟩
      obtain ⟨v, M0, k1, k2, k3⟩ := E.2.2.2.2.2.1 MX s b0 f a1 o (fun _ _ => rfl) hf0 (by omega)
      have s0 : Snp 1 16 483 M0 (MY 1) nt s St n ru sd sp sk := ⟨a1.law (by omega) k3, a2, a3, a4.fr (fun q _ _ => k3 q (by omega) (by omega)), a5, a6, a7.fr (fun q _ _ => k3 q (by omega) (by omega)), a8, a9⟩
      obtain ⟨P1, P2, N1, p1, p2, p3, p4, p5, p6, p7, p8, p9, p10, p11, p12⟩ := kept s0
      obtain ⟨m1, m2⟩ := x_makeObject p4 o l (a := a0) (b := b0) (r := r) (n := f) hr0 (by omega) hf0 (by omega)
      have sz : (b0 + 1).toInt = ((f + 1 : Nat) : Int) := by rw [i_add hf0 (b := 1) rfl (by omega) (by omega)]; omega
      rw [if_neg (by rw [i_lt]; simp only [Int32.reduceToInt]; omega), if_pos (by rw [i_le]; simp only [Int32.reduceToInt]; omega), if_pos g, if_neg n10, k1, xb2_some, p1, xb1_some, y_hasRoom a2 o (n := f + 1) (u := 0) (b := 9) sz (by omega) rfl (by omega), xb1_some]
      by_cases rm : sRoom s 0 (f + 1)
      · obtain ⟨w, M3, w1, w2, w3, w4⟩ := m1 rm
        have p5' : PrX 16 M3 St n s := p5.fr (fun q _ _ => w4 q (by omega))
        obtain ⟨M4, q1, q2, q3⟩ := x_keep p5'
        obtain ⟨v', N0, L0, y1, y2, y3⟩ := E.2.2.2.2.2.2 MY LY s b0 f a2 o l.2.2.2.2.2.2 ⟨rfl, rfl⟩ hf0 (by omega)
        have r0 : N0 1 = MY 1 := y3 1 (by decide) (by decide)
        have h0 : RY N0 s := by show RYr (N0 1) s; rw [r0]; exact a2
        have st0 : StY (N0 1) St n := by rw [r0]; exact a5
        obtain ⟨N2, u1, u2, u3, u4, u5⟩ := y_keep h0 o st0 (fun i hi => (a6 i hi).ok)
        obtain ⟨w', N3, t1, t2, t3, t4⟩ := y_makeNow u2 o l (a := a0) (b := b0) (r := r) (n := f) hr0 (by omega) hf0 (by omega) rm
        have ho : HO (sMake s r f) := ⟨hi.make (by omega) rm, by rw [sMake_17]; exact hc, hrw.wk hi (Wk.make o l (by omega) rm)⟩
        have kr := E.2.2.1 s f
        have hv : v.toInt = (((κ s f).toNat : Nat) : Int) := by rw [k2]; omega
        have hv' : v' = v := i_inj y2 k2
        have fx4 : ∀ q, (483 ≤ q) → q ≠ 1004 → q ≠ 1005 → M4 q = MX q := fun q hq a b => (q3 q (by omega)).trans ((w4 q (by omega)).trans ((p9 q (by omega)).trans (k3 q a b)))
        have h4 : RX 1 M4 (sMake s r f) := w3.fr (fun q _ _ => q3 q (by omega))
        obtain ⟨M5, x1, x2, x3, x4⟩ := x_make_loop E (b := w) hv (by omega) (κ s f).toNat 0 xfuel M4 (sMake s r f) 0 (by omega) (by unfold xfuel; omega) h4 ho (fun q hq => fx4 q (by omega) (by omega) (by omega)) rfl
        have ty : TYr MY N3 := ⟨(t4.1 3 (by decide)).trans ((u4 3 (by decide)).trans (y3 3 (by decide) (by decide))), (t4.2 1 (by omega)).trans ((u5 1 (by omega) (by omega)).trans (by rw [r0]))⟩
        obtain ⟨N4, L4, z1, z2, z3, z4⟩ := y_make_loop E (b := w') hv (by omega) (κ s f).toNat 0 xfuel N3 L0 (sMake s r f) 0 (by omega) (by unfold xfuel; omega) t3 ho ty rfl
        rw [w1, xb2_some, if_neg (by rw [i_eq, w2]; simp only [Int32.reduceToInt]; omega), q1, xb1_some, x1, xb1_some, if_pos rm, if_neg n10, y1, xb3_some, u1, xb1_some, t1, xb2_some, hv', z1, xb2_some, i_inj w2 t2]
        refine ⟨_, M5, N4, L4, rfl, rfl, ?_⟩
        have fy : frP N2 N4 := frP.tr t4.p z4
        refine hr.done nt (fun nt' h' => (Snp.of hs).nt h') ?_ (fun q hq => (x4 q (by omega) (by omega) (by omega)).trans (fx4 q (by omega) (by omega) (by omega))) (fun q hq => (fy.1 q (by omega) (by omega) (by omega)).trans ((u4 q (by omega)).trans (y3 q (by omega) (by omega))))
        have s2 : Snp 1 16 483 M4 (N3 1) nt (sMake s r f) (kSt St n s) (kN n) ru sd sp sk := by
          refine ⟨h4, t3, ho, q2, ⟨u3.1, by rw [t4.2 2 (by omega)]; exact u3.2.1, fun i hi => ?_⟩, HO_k a6 a3 a4.1, a7.fr (fun q _ _ => fx4 q (by omega) (by omega) (by omega)), a8.fr a9.2.2.1 (fun j j1 j2 => (t4.2 j (by omega)).trans ((u5 j (by omega) j2).trans (by rw [r0]))) (fun j j1 j2 => (t4.2 j (by omega)).trans ((u5 j (by omega) (by omega)).trans (by rw [r0]))), a9⟩
          refine (u3.2.2 i hi).fr (HO_k a6 a3 a4.1 i hi).ok (fun j j1 j2 => ?_)
          unfold rwY
          exact t4.2 _ (by omega)
        exact Snp.of (s2.heap x2 z2 (HO.ts _ _ ho) x4 z4)
      · rw [m2 rm, xb2_some, if_pos rfl, if_neg rm, if_pos rfl]
        refine ⟨_, P1, MY, LY, rfl, rfl, ?_⟩
        have r0 : Rel M0 MY LY := hr.law k3 (fun _ _ _ => rfl)
        exact r0.prep s0 p4 p5.1 (fun q q1 _ => p9 q q1)
    · rw [if_neg g, if_pos rfl]
      refine ⟨-1, MX, MY, LY, ?_, rfl, hr⟩
      by_cases c : b0.toInt < 0
      · rw [if_pos (by rw [i_lt]; exact c)]
      · rw [if_neg (by rw [i_lt]; exact c), if_neg (by rw [i_le]; simp only [Int32.reduceToInt]; omega)]
  · rw [if_neg (c := 0 ≤ a0.toInt ∧ a0.toInt < 6) (by omega), if_pos rfl, if_neg d, if_pos rfl]
    exact ⟨_, MX, MY, LY, rfl, rfl, hr⟩
/-- ticks by hand: each is a step -/
theorem pass_loop {MX0 MY0 : xm} {o : Option Nat} {π : hs → Nat → Bool} {κ : hs → Nat → Int} (E : Lnv MX0 MY0 o π κ) {a : Int32} {N nt sd : Nat} {ru : Int} {sp sk : Nat → Int} (ha : a.toInt = (N : Int)) (hN : N ≤ 60) : ∀ (d i f : Nat) (MX MY : xm) (L : xn) (s : hs) (St : Nat → hs) (n : Nat) (x y z : Int32), i + d = N → d < f → Snp 1 16 483 MX (MY 1) nt s St n ru sd sp sk → sameX MX0 MX → MX 483 = MX0 483 → TYr MY0 MY → x.toInt = (i : Int) → y.toInt = (i : Int) → z.toInt = (i : Int) → ∃ (j : Nat) (v : Int32) (MX' MY' : xm) (L' : xn) (s' : hs) (St' : Nat → hs) (n' : Nat), g_X9_passTicks_4 a f MX x y = some (v, MX') ∧ v.toInt = (j : Int) ∧ j ≤ N ∧ g_X10_arePassed_2 a f MY L z = some (if j = N then Sum.inr (MY', L') else Sum.inl (MY', L')) ∧ (s 0 17 + d ≤ 9999 → j = N) ∧ Snp 1 16 483 MX' (MY' 1) nt s' St' n' ru sd sp sk ∧ (∀ q, 483 ≤ q → q ≠ 1004 → q ≠ 1005 → MX' q = MX q) ∧ (∀ q, q ≠ 1 → q ≠ 6 → q ≠ 8 → MY' q = MY q) ∧ MY' 1 1 = MY 1 1 := by
  intro d
  induction d with
  | zero =>
    intro i f MX MY L s St n x y z hi hf hs hsx h483 hty hx hy hz
    obtain ⟨f, rfl⟩ : ∃ q, f = q + 1 := ⟨f - 1, by omega⟩
    unfold g_X9_passTicks_4 g_X10_arePassed_2
    rw [if_pos (by rw [i_le, ha, hy]; omega), if_pos (by rw [i_le, ha, hz]; omega)]
    exact ⟨N, x, MX, MY, L, s, St, n, rfl, by rw [hx]; omega, by omega, by rw [if_pos rfl], fun _ => rfl, hs, fun _ _ _ _ => rfl, fun _ _ _ _ => rfl, rfl⟩
  | succ d ih =>
    intro i f MX MY L s St n x y z hi hf hs hsx h483 hty hx hy hz
    obtain ⟨f, rfl⟩ : ∃ q, f = q + 1 := ⟨f - 1, by omega⟩
    have ⟨a1, a2, a3, a4, a5, a6, a7, a8, a9⟩ := hs
    have ⟨⟨G, hin⟩, hc, hrw⟩ := a3
    have oc := hin.1.clock
    unfold g_X9_passTicks_4 g_X10_arePassed_2
    rw [if_neg (c := a ≤ y) (by rw [i_le, ha, hy]; omega), if_neg (c := a ≤ z) (by rw [i_le, ha, hz]; omega)]
    by_cases c : s 0 17 < 9999
    · obtain ⟨M1, M2, N1, p1, p2, p3, p4, p5, p6, p7, p8, p9, p10, p11, p12⟩ := kept hs
      obtain ⟨M3, k1, k2, k3, k4⟩ := x_tick (by omega) (sameX.s MX0) (E.2.2.2.1 1 (by omega)) E.2.1 p6 hin (by omega) (fun q hq => (p10 q (by omega)).trans (hsx q hq))
      obtain ⟨N2, L2, y1, y2, y3, y4⟩ := y_tick (TYr.s MY0) E.2.2.2.2.1 (L := L) p7 hin (by omega) ⟨(p11 3 (by decide)).trans hty.1, (p12 1 (by omega) (by omega)).trans hty.2⟩
      have e483 : M2 483 = MX0 483 := (p10 483 (by omega)).trans h483
      rw [if_neg (c := (9999 : Int32) ≤ MX 1 17) (by rw [i_le, a1.clock]; simp only [Int32.reduceToInt]; omega), if_neg (c := MY 1 4 = 9999) (by rw [i_eq, a2.clock]; simp only [Int32.reduceToInt]; omega), p1, xb1_some, p2, xb1_some, e483, E.1, xb1_some, k1, xb1_some, xlet_eq, xlet_eq, p3, xb1_some, y1, xb2_some, xlet_eq]
      have s2 := p8.heap k2 y2 (a3.tick c π) k4 y4
      have nx : ∀ w : Int32, w.toInt = (i : Int) → (w + 1).toInt = ((i + 1 : Nat) : Int) := fun w hw => by rw [i_add hw (b := 1) rfl (by omega) (by omega)]; omega
      obtain ⟨j, v, MX', MY', L', s', St', n', r1, r2, r3, r4, r5, r6, r7, r8, r9⟩ := ih (i + 1) f M3 N2 L2 (sTick s π) _ _ (x + 1) (y + 1) (z + 1) (by omega) (by omega) s2 k3 ((k4 483 (by omega) (by omega) (by omega)).trans e483) y3 (nx x hx) (nx y hy) (nx z hz)
      refine ⟨j, v, MX', MY', L', s', St', n', r1, r2, r3, r4, fun q => r5 (by show s 0 17 + 1 + d ≤ 9999; omega), r6, fun q q1 q2 q3 => (r7 q q1 q2 q3).trans ((k4 q (by omega) q2 q3).trans (p10 q (by omega))), fun q q1 q2 q3 => (r8 q q1 q2 q3).trans ((y4.1 q q1 q2 q3).trans (p11 q q1)), r9.trans ((y4.2 1 (by omega)).trans (p12 1 (by omega) (by omega)))⟩
    · rw [if_pos (c := (9999 : Int32) ≤ MX 1 17) (by rw [i_le, a1.clock]; simp only [Int32.reduceToInt]; omega), if_pos (c := MY 1 4 = 9999) (by rw [i_eq, a2.clock]; simp only [Int32.reduceToInt]; omega)]
      exact ⟨i, x, MX, MY, L, s, St, n, rfl, hx, by omega, by rw [if_neg (by omega)], fun q => by omega, hs, fun _ _ _ _ => rfl, fun _ _ _ _ => rfl, rfl⟩
theorem s_day : sim_day Rel := by
  intro MX MY LY a0 h
  have hr := h
  obtain ⟨nt, nti, ⟨s, St, n, ru, sd, sp, sk, hs⟩, _, _, _, lw⟩ := h
  have ⟨a1, a2, a3, a4, a5, a6, a7, a8, a9⟩ := hs
  have ⟨⟨G, hi⟩, hc, hrw⟩ := a3
  have oc := hi.1.clock
  obtain ⟨ot, π, κ, E⟩ := law_now a7 a8 a9 lw
  unfold f_X9_day f_X10_day
  rw [yIn]
  have z1 : (1 : Int32).toInt = 1 := rfl
  have z60 : (60 : Int32).toInt = 60 := rfl
  rw [z1, z60]
  by_cases d : 1 ≤ a0.toInt ∧ a0.toInt ≤ 60
  · obtain ⟨N, hN⟩ : ∃ N : Nat, a0.toInt = N := ⟨a0.toInt.toNat, by omega⟩
    have sx := i_add a1.clock hN (by omega) (by omega)
    have sy := i_add a2.clock hN (by omega) (by omega)
    rw [if_neg (by rw [i_lt, z1]; omega), if_neg (by rw [i_lt, z60]; omega), if_pos d, if_neg n10]
    by_cases c : s 0 17 + N ≤ 9999
    · obtain ⟨j, v, MX', MY', L', s', St', n', r1, r2, r3, r4, r5, r6, r7, r8, r9⟩ := pass_loop E hN (by omega) N 0 xfuel MX MY LY s St n 0 0 0 (by omega) (by unfold xfuel; omega) hs (fun _ _ => rfl) rfl ⟨rfl, rfl⟩ rfl rfl rfl
      have jN := r5 c
      rw [if_pos jN] at r4
      unfold f_X9_passTicks f_X10_arePassed
      rw [if_pos (by rw [i_le, sx]; exact c), if_neg (by rw [i_lt, sy]; simp only [Int32.reduceToInt]; omega), r1, xb2_some, xb2_some, r4, xs2_r, xb3_some, if_neg n10]
      refine ⟨_, MX', MY', L', rfl, by rw [i_inj r6.1.phase r6.2.1.phase], ?_⟩
      exact hr.done nt (fun nt' h' => (Snp.of hs).nt h') (Snp.of r6) (fun q hq => r7 q (by omega) (by omega) (by omega)) (fun q hq => r8 q (by omega) (by omega) (by omega))
    · rw [if_neg (by rw [i_le, sx]; exact c), if_pos (by rw [i_lt, sy]; simp only [Int32.reduceToInt]; omega)]
      exact ⟨_, MX, MY, LY, rfl, rfl, hr⟩
  · rw [if_neg d, if_pos rfl]
    refine ⟨-1, MX, MY, LY, ?_, rfl, hr⟩
    by_cases c : a0.toInt < 1
    · rw [if_pos (by rw [i_lt, z1]; exact c)]
    · rw [if_neg (by rw [i_lt, z1]; exact c), if_pos (by rw [i_lt, z60]; omega)]
