/-! the reference chooses; a tick -/
theorem y_fill2_loop {L : xn} : ∀ (d i f : Nat), i + d = 64 → d < f → ∀ (M : xm) (s : hs) (x : Int32), RY M (fun k j => if k = 2 ∧ j < i then -1 else s k j) → x.toInt = (i : Int) → ∃ M', g_X10_chooseNow_2 L f M x = some M' ∧ RY M' (sFl s 2 64 (-1)) ∧ frY M M' := by
  intro d
  induction d with
  | zero =>
    intro i f hi hf M s x h hx
    obtain ⟨f, rfl⟩ : ∃ q, f = q + 1 := ⟨f - 1, by omega⟩
    unfold g_X10_chooseNow_2
    rw [if_pos (by rw [i_le, hx]; simp only [Int32.reduceToInt]; omega)]
    exact ⟨M, rfl, by rw [show i = 64 by omega] at h; exact h, frY.rfl⟩
  | succ d ih =>
    intro i f hi hf M s x h hx
    obtain ⟨f, rfl⟩ : ∃ q, f = q + 1 := ⟨f - 1, by omega⟩
    have e := yx 105 (b := 105) rfl hx (by omega)
    unfold g_X10_chooseNow_2
    rw [if_neg (by rw [i_le, hx]; simp only [Int32.reduceToInt]; omega), if_pos e.1, e.2, xlet_eq, xlet_eq]
    have h1 : RY (up2 M 1 (105 + i) (-1)) (up2 (fun k j => if k = 2 ∧ j < i then -1 else s k j) 2 i (-1)) := RY.up h (k := 2) (i := i) (yd_i (show i < 64 by omega) (by decide) (by decide)) (by decide) rfl
    have eq : up2 (fun k j => if k = 2 ∧ j < i then -1 else s k j) 2 i (-1) = fun k j => if k = 2 ∧ j < i + 1 then -1 else s k j := by
      funext k j
      rw [up2_ap]
      by_cases c : k = 2 ∧ j = i
      · rw [if_pos c, if_pos (by omega)]
      · rw [if_neg c]
        by_cases c2 : k = 2 ∧ j < i
        · rw [if_pos c2, if_pos (by omega)]
        · rw [if_neg c2, if_neg (by omega)]
    rw [eq] at h1
    obtain ⟨M', k1, k2, k3⟩ := ih (i + 1) f (by omega) (by omega) _ s (x + 1) h1 (by rw [i_add hx (b := 1) rfl (by omega) (by omega)]; omega)
    exact ⟨M', k1, k2, frY.tr (frY.up (by omega)) k3⟩
theorem y_pick1 {TY : xm → Prop} {π : hs → Nat → Bool} (hT : TYs TY) (hP : PkY TY π) {t : hs} (o : Ok t) (l7 : La7 t) {L0 : Int} {lv : Nat} (hlv : lv ≤ 8) {z : Int32} (hz : z.toInt = (lv : Int)) : ∀ (d p f B : Nat) (l : Int) (M : xm) (L : xn) (x y w : Int32), p + d = 8 → d < f → BI t L0 lv p B l → l ≤ 1000 → RY M t → TY M → x.toInt = l → y = nI B → w.toInt = (p : Int) → ∃ r v M' L', g_X10_chooseNow_98 z f M L y x w = some (v, r, M', L') ∧ r.toInt = (sSel1 t π lv d p B l).2 ∧ v = nI (sSel1 t π lv d p B l).1 ∧ (sSel1 t π lv d p B l).2 ≤ 1000 ∧ (∀ q, q ≠ 6 → q ≠ 8 → M' q = M q) := by
  intro d
  induction d with
  | zero =>
    intro p f B l M L x y w hp hf hB hl h hTM hx hy hw
    obtain ⟨f, rfl⟩ : ∃ q, f = q + 1 := ⟨f - 1, by omega⟩
    unfold g_X10_chooseNow_98
    rw [if_pos (by rw [i_le, hw]; simp only [Int32.reduceToInt]; omega)]
    exact ⟨x, y, M, L, rfl, hx, hy, hl, fun _ _ _ => rfl⟩
  | succ d ih =>
    intro p f B l M L x y w hp hf hB hl h hTM hx hy hw
    obtain ⟨f, rfl⟩ : ∃ q, f = q + 1 := ⟨f - 1, by omega⟩
    have nx : (w + 1).toInt = ((p + 1 : Nat) : Int) := by rw [i_add hw (b := 1) rfl (by omega) (by omega)]; omega
    have p8 : p < 8 := by omega
    have stay := ih (p + 1) f B l M L x y (w + 1) (by omega) (by omega) hB.next hl h hTM hx hy nx
    unfold g_X10_chooseNow_98 sSel1
    rw [if_neg (by rw [i_le, hw]; simp only [Int32.reduceToInt]; omega), y_isCand h hw p8, xb1_some]
    simp only [xlet_eq]
    by_cases c : sCand t p
    · obtain ⟨g, g1, g2⟩ := y_liveOf h o l7 hw p8
      rw [if_pos c, if_neg n10, g1, xb1_some]
      by_cases c5 : t 5 p = lv
      · rw [if_pos (by rw [i_eq, g2, hz]; exact c5)]
        by_cases cl : (lv : Int) ≤ l
        · obtain ⟨M1, L1, k1, k2⟩ := hP M L t w p h o l7 hTM hw p8
          have r1 : M1 1 = M 1 := k2 1 (by decide) (by decide)
          have h1 : RY M1 t := by show RYr (M1 1) t; rw [r1]; exact h
          have T1 : TY M1 := hT M M1 (k2 3 (by decide) (by decide)) (fun j _ => by rw [r1]) hTM
          rw [if_neg (by rw [i_lt, hx, hz]; omega), k1, xb3_some]
          by_cases cp : π t p = true
          · have lz : (x - z).toInt = l - lv := i_sub hx hz (by have := hB.2.2.1; omega) (by omega)
            rw [if_pos cp, if_neg n10, if_pos (c := sCand t p ∧ t 5 p = lv ∧ (lv : Int) ≤ l ∧ π t p = true) ⟨c, c5, cl, cp⟩]
            obtain ⟨r, v, M', L', r1, r2, r3, r4, r5⟩ := ih (p + 1) f (B ||| 2 ^ p) (l - lv) M1 L1 (x - z) (y ||| ((1 : Int32) <<< (w &&& 31))) (w + 1) (by omega) (by omega) (hB.step p8 c c5 cl) (by omega) h1 T1 lz (by
              have hw' : w = nI p := by rw [i_eq, hw, nI_toInt (by omega)]
              rw [hy, hw']; exact bit_or B hB.1 p p8) nx
            exact ⟨r, v, M', L', r1, r2, r3, r4, fun q a b => (r5 q a b).trans (k2 q a b)⟩
          · rw [if_neg cp, if_pos rfl, if_neg (c := sCand t p ∧ t 5 p = lv ∧ (lv : Int) ≤ l ∧ π t p = true) (fun q => cp q.2.2.2)]
            obtain ⟨r, v, M', L', r1, r2, r3, r4, r5⟩ := ih (p + 1) f B l M1 L1 x y (w + 1) (by omega) (by omega) hB.next hl h1 T1 hx hy nx
            exact ⟨r, v, M', L', r1, r2, r3, r4, fun q a b => (r5 q a b).trans (k2 q a b)⟩
        · rw [if_pos (by rw [i_lt, hx, hz]; omega), if_neg (c := sCand t p ∧ t 5 p = lv ∧ (lv : Int) ≤ l ∧ π t p = true) (fun q => cl q.2.2.1)]
          exact stay
      · rw [if_neg (by rw [i_eq, g2, hz]; exact c5), if_neg (c := sCand t p ∧ t 5 p = lv ∧ (lv : Int) ≤ l ∧ π t p = true) (fun q => c5 q.2.1)]
        exact stay
    · rw [if_neg c, if_pos rfl, if_neg (c := sCand t p ∧ t 5 p = lv ∧ (lv : Int) ≤ l ∧ π t p = true) (fun q => c q.1)]
      exact stay
theorem y_pick {TY : xm → Prop} {π : hs → Nat → Bool} (hT : TYs TY) (hP : PkY TY π) {t : hs} (o : Ok t) (l7 : La7 t) {L0 : Int} : ∀ (d lv f B : Nat) (l : Int) (M : xm) (L : xn) (x y z : Int32), lv + d = 9 → d < f → BI t L0 lv 0 B l → l ≤ 1000 → RY M t → TY M → x.toInt = l → y = nI B → z.toInt = (lv : Int) → ∃ v M' L', g_X10_chooseNow_89 f M L y x z = some (v, M', L') ∧ v = nI (sSel t π d lv B l).1 ∧ (∀ q, q ≠ 6 → q ≠ 8 → M' q = M q) := by
  intro d
  induction d with
  | zero =>
    intro lv f B l M L x y z hp hf hB hl h hTM hx hy hz
    obtain ⟨f, rfl⟩ : ∃ q, f = q + 1 := ⟨f - 1, by omega⟩
    unfold g_X10_chooseNow_89
    rw [if_pos (by rw [i_lt, hz]; simp only [Int32.reduceToInt]; omega)]
    exact ⟨y, M, L, rfl, hy, fun _ _ _ => rfl⟩
  | succ d ih =>
    intro lv f B l M L x y z hp hf hB hl h hTM hx hy hz
    obtain ⟨f, rfl⟩ : ∃ q, f = q + 1 := ⟨f - 1, by omega⟩
    obtain ⟨r, v, M1, L1, r1, r2, r3, r4, r5⟩ := y_pick1 hT hP o l7 (L0 := L0) (lv := lv) (by omega) hz 8 0 xfuel B l M L x y 0 (by omega) (by unfold xfuel; omega) hB hl h hTM hx hy rfl
    have e1 : M1 1 = M 1 := r5 1 (by decide) (by decide)
    unfold g_X10_chooseNow_89 sSel
    rw [if_neg (by rw [i_lt, hz]; simp only [Int32.reduceToInt]; omega), r1, xb4_some, xlet_eq]
    obtain ⟨v', M', L', k1, k2, k3⟩ := ih (lv + 1) f _ _ M1 L1 r v (z + 1) (by omega) (by omega) (BI.sel1 (π := π) 8 0 B l (by omega) hB).next_lv r4 (by show RYr (M1 1) t; rw [e1]; exact h) (hT M M1 (r5 3 (by decide) (by decide)) (fun j _ => by rw [e1]) hTM) r2 r3 (by rw [i_add hz (b := 1) rfl (by omega) (by omega)]; omega)
    exact ⟨v', M', L', k1, k2, fun q a b => (k3 q a b).trans (r5 q a b)⟩
theorem sSel1_none {t : hs} {π : hs → Nat → Bool} {lv : Nat} : ∀ (d p B : Nat) (l : Int), p + d = 8 → (∀ q, q < 8 → ¬ (sCand t q ∧ t 5 q = lv)) → sSel1 t π lv d p B l = (B, l) := by
  intro d
  induction d with
  | zero => intro p B l _ _; rfl
  | succ d ih =>
    intro p B l hp hn
    unfold sSel1
    rw [if_neg (fun q => hn p (by omega) ⟨q.1, q.2.1⟩)]
    exact ih (p + 1) B l (by omega) hn
theorem y_how_loop {L : xn} {B : Nat} (hB : B < 256) (t : hs) : ∀ (d p f : Nat) (M : xm) (x : Int32), p + d = 8 → d < f → RY M (fun k i => if k = 7 ∧ i < p ∧ B.testBit i = true then 2 else t k i) → x.toInt = (p : Int) → ∃ M', g_X10_chooseNow_172 L (nI B) f M x = some M' ∧ RY M' (sHow t B) ∧ frY M M' := by
  intro d
  induction d with
  | zero =>
    intro p f M x hp hf h hx
    obtain ⟨f, rfl⟩ : ∃ q, f = q + 1 := ⟨f - 1, by omega⟩
    unfold g_X10_chooseNow_172
    rw [if_pos (by rw [i_le, hx]; simp only [Int32.reduceToInt]; omega)]
    exact ⟨M, rfl, by rw [show p = 8 by omega] at h; exact h, frY.rfl⟩
  | succ d ih =>
    intro p f M x hp hf h hx
    obtain ⟨f, rfl⟩ : ∃ q, f = q + 1 := ⟨f - 1, by omega⟩
    have nx : (x + 1).toInt = ((p + 1 : Nat) : Int) := by rw [i_add hx (b := 1) rfl (by omega) (by omega)]; omega
    have e := yx 13 (b := 13) rfl hx (by omega)
    have hx' : x = nI p := by rw [i_eq, hx, nI_toInt (by omega)]
    unfold g_X10_chooseNow_172
    rw [if_neg (by rw [i_le, hx]; simp only [Int32.reduceToInt]; omega), if_pos e.1, e.2]
    simp only [xlet_eq]
    have hb := bit_has B hB p (by omega)
    rw [← hx'] at hb
    rw [hb]
    by_cases c : B.testBit p = true
    · rw [if_pos c, if_neg n10]
      have h1 : RY (up2 M 1 (13 + p) 2) (up2 (fun k i => if k = 7 ∧ i < p ∧ B.testBit i = true then 2 else t k i) 7 p 2) := RY.up h (k := 7) (i := p) (yd_i (show p < 8 by omega) (by decide) (by decide)) (by decide) rfl
      have eq : up2 (fun k i => if k = 7 ∧ i < p ∧ B.testBit i = true then 2 else t k i) 7 p 2 = fun k i => if k = 7 ∧ i < p + 1 ∧ B.testBit i = true then 2 else t k i := by
        funext k j
        rw [up2_ap]
        by_cases c1 : k = 7 ∧ j = p
        · rw [if_pos c1, if_pos ⟨c1.1, by omega, by rw [c1.2]; exact c⟩]
        · rw [if_neg c1]
          by_cases c2 : k = 7 ∧ j < p ∧ B.testBit j = true
          · rw [if_pos c2, if_pos ⟨c2.1, by omega, c2.2.2⟩]
          · rw [if_neg c2, if_neg (fun q => by
              by_cases z : j = p
              · exact c1 ⟨q.1, z⟩
              · exact c2 ⟨q.1, by omega, q.2.2⟩)]
      rw [eq] at h1
      obtain ⟨M', k1, k2, k3⟩ := ih (p + 1) f _ (x + 1) (by omega) (by omega) h1 nx
      exact ⟨M', k1, k2, frY.tr (frY.up (by omega)) k3⟩
    · rw [if_neg c, if_pos rfl]
      have eq : (fun k i => if k = 7 ∧ i < p ∧ B.testBit i = true then 2 else t k i) = fun k i => if k = 7 ∧ i < p + 1 ∧ B.testBit i = true then 2 else t k i := by
        funext k j
        by_cases c2 : k = 7 ∧ j < p ∧ B.testBit j = true
        · rw [if_pos c2, if_pos ⟨c2.1, by omega, c2.2.2⟩]
        · rw [if_neg c2, if_neg (fun q => by
            by_cases z : j = p
            · rw [z] at q; exact c q.2.2
            · exact c2 ⟨q.1, by omega, q.2.2⟩)]
      rw [eq] at h
      exact ih (p + 1) f M (x + 1) (by omega) (by omega) h nx
theorem c2_facts {s : hs} {G : Nat → Prop} (hi : In s G no 6) : Ok (sFl s 2 64 (-1)) ∧ Ok (sC2 s) ∧ La7 (sC2 s) ∧ (∀ q, q < 8 → ¬ (sCand (sC2 s) q ∧ sC2 s 5 q = 0)) := by
  obtain ⟨o, l, f2, g, rg⟩ := hi
  have ofl : Ok (sFl s 2 64 (-1)) := by
    refine ⟨fun k i hd => ?_, o.2.1, fun j hj => o.2.2 j hj⟩
    unfold sFl
    split
    · rename_i q; rw [q.1]; exact ⟨by omega, by omega⟩
    · exact o.1 k i hd
  have o1 := Ok_FS (Q := qNL s) 8 0 _ (by omega) ofl
  have o2 : Ok (sC2 s) := by
    unfold sC2
    refine Ok.up ?_ (by decide) ⟨fun q => absurd q (by decide), fun _ => ⟨by omega, by omega⟩, fun q => absurd q (by decide), fun q => absurd q (by decide), fun q => absurd q (by decide), fun q => absurd q (by decide)⟩
    exact Ok.up o1 (by decide) ⟨fun q => absurd q (by decide), fun q => absurd q (by decide), fun _ => ⟨by omega, by omega⟩, fun q => absurd q (by decide), fun q => absurd q (by decide), fun q => absurd q (by decide)⟩
  have l1' := Lay_FS (s := sFl s 2 64 (-1)) ofl l (Q := qNL s) (fun u hu h9 q => by
    have h9 : s 9 u ≠ -1 := h9
    have q : qNL s (s 9 u).toNat = true := q
    have c := of_decide_eq_true q
    have og := o.g hu
    by_cases z : u = 0
    · subst z; have := c.1.2.1; omega
    · have z : u = 1 := by omega
      subst z; have := c.1.2.2; omega)
  obtain ⟨F1, F2', F3, F4, F5⟩ := FS_facts (s := sFl s 2 64 (-1)) (Q := qNL s)
  refine ⟨ofl, o2, ?_, ?_⟩
  · intro p hp
    refine (l1'.2.2.2.2.2.2 p hp).trans ?_
    unfold sLive
    exact sLv_eq 8 _ (fun i _ _ => ⟨Iff.rfl, fun _ => rfl⟩)
  · intro q hq z
    have z1 : sFS (sFl s 2 64 (-1)) (qNL s) 8 0 7 q = 1 := z.1.1
    have z2 : (q : Int) ≠ sFS (sFl s 2 64 (-1)) (qNL s) 8 0 9 0 := z.1.2.1
    have z3 : (q : Int) ≠ sFS (sFl s 2 64 (-1)) (qNL s) 8 0 9 1 := z.1.2.2
    have z4 : sFS (sFl s 2 64 (-1)) (qNL s) 8 0 5 q = 0 := z.2
    rw [F5 9 0 (by decide) (by decide) (by decide) (by decide) (by decide) (by decide)] at z2
    rw [F5 9 1 (by decide) (by decide) (by decide) (by decide) (by decide) (by decide)] at z3
    by_cases c : qNL s q = true
    · rw [(F3 q hq c).2.2] at z1; omega
    · rw [(F4 q c).2.2] at z1
      rw [(F4 q c).1] at z4
      exact c (decide_eq_true ⟨⟨z1, z2, z3⟩, z4⟩)
theorem y_chooseNow {TY : xm → Prop} {π : hs → Nat → Bool} (hT : TYs TY) (hP : PkY TY π) {M : xm} {L : xn} {s : hs} {G : Nat → Prop} (h : RY M s) (hi : In s G no 6) (h1 : s 0 14 = 1) (hs0 : s 0 13 = 0) (ht : s 10 0 = -1 ∧ s 10 1 = -1) (hTM : TY M) : ∃ M' L', f_X10_chooseNow M L = some (nI (popc (sBts (sC2 s) π)), M', L') ∧ RY M' (sChoose s π) ∧ TY M' ∧ frP M M' := by
  have o := hi.1
  have l := hi.2.1
  have ty : ∀ {A B : xm}, frY A B → TY A → TY B := fun {A B} f t => hT A B (f.1 3 (by decide)) (fun j hj => f.2 j (by omega)) t
  have i4 := hi.c4 h1 hs0 ht π
  obtain ⟨ofl, o2, l7, nz⟩ := c2_facts hi
  obtain ⟨M1, a1, a2, a3⟩ := y_fill2_loop (L := L) 64 0 xfuel (by omega) (by unfold xfuel; omega) M s 0 (by
    have : (fun k j => if k = 2 ∧ j < 0 then -1 else s k j) = s := by funext k j; rw [if_neg (by omega)]
    rw [this]; exact h) rfl
  obtain ⟨M2, b1, b2, b3⟩ := y_nl_loop (L := L) s 8 0 xfuel M1 (sFl s 2 64 (-1)) 0 (by omega) (by unfold xfuel; omega) a2 ofl l (fun q _ => ⟨rfl, rfl⟩) (fun q => rfl) rfl
  have h2 : RY (up2 M2 1 7 2) (up2 (sFS (sFl s 2 64 (-1)) (qNL s) 8 0) 0 15 2) := RY.up b2 (k := 0) (i := 15) (by decide) (by decide) rfl
  have h3 : RY (up2 (up2 M2 1 7 2) 1 6 2) (sC2 s) := RY.up h2 (k := 0) (i := 14) (by decide) (by decide) rfl
  have pl := popc_le _ (sFB_lt (sC2 s))
  have T2 := ty (frY.tr a3 b3) hTM
  have f3 : frY M2 (up2 (up2 M2 1 7 2) 1 6 2) := frY.tr (frY.up (by omega)) (frY.up (by omega))
  have T3 := ty f3 T2
  have z0 : BI (sC2 s) (5 * popc (sFB (sC2 s))) 0 0 0 (5 * popc (sFB (sC2 s))) := by
    obtain ⟨b1, b2, b3, b4⟩ := BI.zero (sC2 s)
    exact ⟨b1, fun q hq => by rw [Nat.zero_testBit] at hq; exact absurd hq (by decide), b3, b4⟩
  obtain ⟨v, M4, L4, c1, c2, c3⟩ := y_pick hT hP o2 l7 (L0 := 5 * popc (sFB (sC2 s))) 9 0 xfuel 0 (5 * popc (sFB (sC2 s))) _ L (5 * nI (popc (sFB (sC2 s)))) 0 0 (by omega) (by unfold xfuel; omega) z0 (by omega) h3 T3 (by rw [i_mul (x := 5) (a := 5) rfl (nI_toInt (n := popc (sFB (sC2 s))) (by omega)) (by omega) (by omega)]) rfl rfl
  have sel : (sSel (sC2 s) π 9 0 0 (5 * popc (sFB (sC2 s)))).1 = sBts (sC2 s) π := by
    rw [sSel, sSel1_none 8 0 0 _ (by omega) nz]; rfl
  rw [sel] at c2
  have e1 : M4 1 = (up2 (up2 M2 1 7 2) 1 6 2) 1 := c3 1 (by decide) (by decide)
  have h4 : RY M4 (sC2 s) := by show RYr (M4 1) (sC2 s); rw [e1]; exact h3
  have T4 : TY M4 := hT _ M4 (c3 3 (by decide) (by decide)) (fun j _ => by rw [e1]) T3
  obtain ⟨lf, B1, _⟩ := BI.bts (sC2 s) π
  obtain ⟨M5, d1, d2, d3⟩ := y_how_loop (L := L4) B1 (sC2 s) 8 0 xfuel M4 0 (by omega) (by unfold xfuel; omega) (by
    have : (fun k i => if k = 7 ∧ i < 0 ∧ (sBts (sC2 s) π).testBit i = true then 2 else sC2 s k i) = sC2 s := by funext k i; rw [if_neg (fun q => by omega)]
    rw [this]; exact h4) rfl
  have h6 : RY (up2 M5 1 10 (-1)) (sC3 s π) := RY.up d2 (k := 9) (i := 1) (by decide) (by decide) rfl
  have o3 : Ok (sC3 s π) := (how_ok o2 _).up (by decide) ⟨by omega, by omega⟩
  obtain ⟨M7, w1, w2, w3⟩ := y_write h6 o3 (a := 2) (b := nI (sBts (sC2 s) π)) (kd := 2) (v := sBts (sC2 s) π) rfl (nI_toInt (by omega)) (by omega) (by omega)
  obtain ⟨M8, r1, r2, r3⟩ := y_mendRoots w2 i4
  unfold f_X10_chooseNow
  rw [a1, xb1_some, b1, xb1_some]
  simp only [xlet_eq]
  rw [y_freePages h3, xb1_some, y_bits (sFB_lt (sC2 s)), xb1_some, c1, xb3_some, c2, d1, xb1_some, w1, xb1_some, r1, xb1_some, y_bits B1, xb1_some]
  have f8 : frY M4 M8 := frY.tr (frY.tr (frY.tr d3 (frY.up (by omega))) w3) r3
  have f4 : frP (up2 (up2 M2 1 7 2) 1 6 2) M4 := ⟨fun q _ a b => c3 q a b, fun j _ => by rw [e1]⟩
  exact ⟨M8, L4, rfl, r2, ty f8 T4, frP.tr (frP.tr (frY.tr (frY.tr a3 b3) f3).p f4) f8.p⟩
/-- what a tick does; the clock apart -/
def sOp (s : hs) (π : hs → Nat → Bool) : hs := if s 0 14 = 2 then sMoveOne s else if s 0 14 = 1 ∧ 0 < s 0 13 then sMark1 s else if s 0 14 = 1 ∧ s 10 0 = -1 ∧ s 10 1 = -1 then sChoose s π else if s 0 14 = 0 ∧ s 10 0 = -1 ∧ s 10 1 = -1 then sStart s else s
def sTick (s : hs) (π : hs → Nat → Bool) : hs := up2 (sOp s π) 0 17 (s 0 17 + 1)
theorem sMRs_0 {i : Nat} (hi : i ≠ 13) : ∀ (d r : Nat) (s : hs), sMRs s d r 0 i = s 0 i := by
  intro d
  induction d with
  | zero => intro r s; rfl
  | succ d ih => intro r s; unfold sMRs; rw [ih, sMR_0 hi]
theorem sMk_0 {a i : Nat} (hi : i ≠ 13) : ∀ (d j : Nat) (s : hs), sMk s a d j 0 i = s 0 i := by
  intro d
  induction d with
  | zero => intro j s; rfl
  | succ d ih => intro j s; unfold sMk; rw [ih, sMW_0 hi]
theorem sOp_17 {s : hs} {π : hs → Nat → Bool} {i : Nat} (hi : i = 17 ∨ i = 18) : sOp s π 0 i = s 0 i := by
  unfold sOp
  split
  · unfold sMoveOne
    split
    · split
      · exact sMove_0 i
      · rfl
    · split
      · unfold sEnd; rw [up2_ap, if_neg (by omega)]
        exact (FS_facts (s := s) (Q := qCh s)).2.2.2.2 0 i (by decide) (by decide) (by decide) (by decide) (by decide) (by decide)
      · rfl
  · split
    · unfold sMark1; rw [sMk_0 (by omega), up2_ap, if_neg (by omega)]
    · split
      · unfold sChoose; rw [sMRs_0 (by omega)]
        unfold sC4; rw [sWr_k i (by decide)]
        unfold sC3; rw [up2_ap, if_neg (by omega)]
        unfold sHow; rw [if_neg (by omega)]
        unfold sC2; rw [up2_ap, if_neg (by omega), up2_ap, if_neg (by omega)]
        exact (FS_facts (s := sFl s 2 64 (-1)) (Q := qNL s)).2.2.2.2 0 i (by decide) (by decide) (by decide) (by decide) (by decide) (by decide)
      · split
        · unfold sStart; rw [sMRs_0 (by omega)]
          unfold sTM; rw [sWr_k i (by decide)]
          rcases hi with rfl | rfl <;> rfl
        · rfl
theorem Inv.op {s : hs} {G : Nat → Prop} (h : In s G no 6) (π : hs → Nat → Bool) : Inv (sOp s π) := by
  have os := h.1.stacked
  unfold sOp
  split
  · rename_i c; exact h.moveOne c
  · split
    · rename_i c; exact h.mark1 c.1 c.2
    · rename_i c1
      split
      · rename_i c; exact h.choose c.1 (by have : ¬ 0 < s 0 13 := fun q => c1 ⟨c.1, q⟩; omega) c.2 π
      · split
        · rename_i c; exact h.start c.1 c.2
        · exact ⟨G, h⟩
theorem Inv.clock {s : hs} (h : Inv s) {z : Int} (hz : 0 ≤ z ∧ z ≤ 10500) : Inv (up2 s 0 17 z) := by
  obtain ⟨G, h⟩ := h
  refine ⟨G, h.eq (h.1.up (by decide) ⟨fun q => absurd q (by decide), fun q => absurd q (by decide), fun q => absurd q (by decide), fun q => absurd q (by decide), fun _ => hz, fun q => absurd q (by decide)⟩) (fun i hi => ?_) (fun k h1 _ => ?_)⟩
  · rw [up2_ap, if_neg (by omega)]
  · funext i; rw [up2_ap, if_neg (by omega)]
theorem Inv.x {s : hs} (h : Inv s) {z : Int} (hz : 0 ≤ z ∧ z ≤ 31062) : Inv (up2 s 0 18 z) := by
  obtain ⟨G, h⟩ := h
  refine ⟨G, h.eq (h.1.up (by decide) ⟨fun q => absurd q (by decide), fun q => absurd q (by decide), fun q => absurd q (by decide), fun q => absurd q (by decide), fun q => absurd q (by decide), fun _ => hz⟩) (fun i hi => ?_) (fun k h1 _ => ?_)⟩
  · rw [up2_ap, if_neg (by omega)]
  · funext i; rw [up2_ap, if_neg (by omega)]
theorem Inv.tick {s : hs} (h : Inv s) (hc : s 0 17 < 10500) (π : hs → Nat → Bool) : Inv (sTick s π) := by
  obtain ⟨G, hi⟩ := h
  have oc := hi.1.clock
  exact Inv.clock (Inv.op hi π) (by omega)
