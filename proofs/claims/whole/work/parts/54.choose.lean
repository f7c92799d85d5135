/-! pages are chosen: what it is, and that what is safe stays so -/
abbrev sCand (s : hs) (p : Nat) : Prop := s 7 p = 1 ∧ (p : Int) ≠ s 9 0 ∧ (p : Int) ≠ s 9 1
def qNL (s : hs) (p : Nat) : Bool := decide (sCand s p ∧ s 5 p = 0)
def sC2 (s : hs) : hs := up2 (up2 (sFS (sFl s 2 64 (-1)) (qNL s) 8 0) 0 15 2) 0 14 2
def sHow (t : hs) (B : Nat) : hs := fun k i => if k = 7 ∧ i < 8 ∧ B.testBit i = true then 2 else t k i
def sSel1 (t : hs) (π : hs → Nat → Bool) (lv : Nat) : Nat → Nat → Nat → Int → Nat × Int
  | 0, _, B, l => (B, l)
  | d + 1, p, B, l => if sCand t p ∧ t 5 p = lv ∧ (lv : Int) ≤ l ∧ π t p = true then sSel1 t π lv d (p + 1) (B ||| 2 ^ p) (l - lv) else sSel1 t π lv d (p + 1) B l
def sSel (t : hs) (π : hs → Nat → Bool) : Nat → Nat → Nat → Int → Nat × Int
  | 0, _, B, l => (B, l)
  | d + 1, lv, B, l => sSel t π d (lv + 1) (sSel1 t π lv 8 0 B l).1 (sSel1 t π lv 8 0 B l).2
def sBts (t : hs) (π : hs → Nat → Bool) : Nat := (sSel t π 8 1 0 (5 * popc (sFB t))).1
def sC3 (s : hs) (π : hs → Nat → Bool) : hs := up2 (sHow (sC2 s) (sBts (sC2 s) π)) 9 1 (-1)
def sC4 (s : hs) (π : hs → Nat → Bool) : hs := sWr (sC3 s π) 2 (sBts (sC2 s) π)
def BI (t : hs) (L0 : Int) (lv p B : Nat) (l : Int) : Prop := B < 256 ∧ (∀ q, B.testBit q = true → q < 8 ∧ sCand t q ∧ (t 5 q < lv ∨ (t 5 q = lv ∧ q < p))) ∧ 0 ≤ l ∧ sm (fun q => if B.testBit q = true then t 5 q else 0) 8 = L0 - l
theorem tb_or (B p q : Nat) : (B ||| 2 ^ p).testBit q = true ↔ (B.testBit q = true ∨ q = p) := by
  rw [Nat.testBit_or, Nat.testBit_two_pow, Bool.or_eq_true, decide_eq_true_eq]
  exact ⟨fun h => h.elim Or.inl (fun e => Or.inr e.symm), fun h => h.elim Or.inl (fun e => Or.inr e.symm)⟩
theorem BI.step {t : hs} {L0 : Int} {lv p B : Nat} {l : Int} (h : BI t L0 lv p B l) (hp : p < 8) (hc : sCand t p) (h5 : t 5 p = lv) (hl : (lv : Int) ≤ l) : BI t L0 lv (p + 1) (B ||| 2 ^ p) (l - lv) := by
  obtain ⟨b1, b2, b3, b4⟩ := h
  have np : ¬ B.testBit p = true := fun q => by have := (b2 p q).2.2; omega
  refine ⟨bit_lt B b1 p hp, fun q hq => ?_, by omega, ?_⟩
  · rcases (tb_or B p q).mp hq with y | y
    · have := b2 q y
      exact ⟨this.1, this.2.1, by have := this.2.2; omega⟩
    · subst y; exact ⟨hp, hc, by omega⟩
  · have := sm_up (f := fun q => if B.testBit q = true then t 5 q else 0) (g := fun q => if (B ||| 2 ^ p).testBit q = true then t 5 q else 0) (b := p) (z := (lv : Int)) (fun i hi => by
      show (if (B ||| 2 ^ p).testBit i = true then t 5 i else 0) = if B.testBit i = true then t 5 i else 0
      by_cases c : B.testBit i = true
      · rw [if_pos c, if_pos ((tb_or B p i).mpr (Or.inl c))]
      · rw [if_neg c, if_neg (fun q => ((tb_or B p i).mp q).elim c hi)]) (by
      show (if (B ||| 2 ^ p).testBit p = true then t 5 p else 0) = (if B.testBit p = true then t 5 p else 0) + lv
      rw [if_pos ((tb_or B p p).mpr (Or.inr rfl)), if_neg np, h5]; omega) 8
    rw [this, if_pos hp, b4]
    omega
theorem BI.next {t : hs} {L0 : Int} {lv p B : Nat} {l : Int} (h : BI t L0 lv p B l) : BI t L0 lv (p + 1) B l := by
  obtain ⟨b1, b2, b3, b4⟩ := h
  refine ⟨b1, fun q hq => ?_, b3, b4⟩
  have := b2 q hq
  exact ⟨this.1, this.2.1, by have := this.2.2; omega⟩
theorem BI.sel1 {t : hs} {π : hs → Nat → Bool} {L0 : Int} {lv : Nat} : ∀ (d p B : Nat) (l : Int), p + d = 8 → BI t L0 lv p B l → BI t L0 lv 8 (sSel1 t π lv d p B l).1 (sSel1 t π lv d p B l).2 := by
  intro d
  induction d with
  | zero => intro p B l hp h; rw [show p = 8 by omega] at h; exact h
  | succ d ih =>
    intro p B l hp h
    unfold sSel1
    split
    · rename_i c; exact ih (p + 1) _ _ (by omega) (h.step (by omega) c.1 c.2.1 c.2.2.1)
    · exact ih (p + 1) _ _ (by omega) h.next
theorem BI.sel {t : hs} {π : hs → Nat → Bool} {L0 : Int} : ∀ (d lv B : Nat) (l : Int), BI t L0 lv 0 B l → BI t L0 (lv + d) 0 (sSel t π d lv B l).1 (sSel t π d lv B l).2 := by
  intro d
  induction d with
  | zero => intro lv B l h; exact h
  | succ d ih =>
    intro lv B l h
    unfold sSel
    have a := BI.sel1 (π := π) 8 0 B l (by omega) h
    have b : BI t L0 (lv + 1) 0 (sSel1 t π lv 8 0 B l).1 (sSel1 t π lv 8 0 B l).2 := by
      obtain ⟨b1, b2, b3, b4⟩ := a
      refine ⟨b1, fun q hq => ?_, b3, b4⟩
      have := b2 q hq
      exact ⟨this.1, this.2.1, by have := this.2.2; omega⟩
    have c := ih (lv + 1) _ _ b
    rw [show lv + 1 + d = lv + (d + 1) by omega] at c
    exact c
theorem BI.bts (t : hs) (π : hs → Nat → Bool) : ∃ l, BI t (5 * popc (sFB t)) 9 0 (sBts t π) l := by
  refine ⟨_, BI.sel (π := π) 8 1 0 (5 * popc (sFB t)) ⟨by omega, fun q hq => ?_, by omega, ?_⟩⟩
  · rw [Nat.zero_testBit] at hq; exact absurd hq (by decide)
  · have : sm (fun q => if Nat.testBit 0 q = true then t 5 q else 0) 8 = sm (fun _ => 0) 8 := sm_eq 8 (fun i _ => by
      show (if Nat.testBit 0 i = true then t 5 i else 0) = 0
      rw [Nat.zero_testBit, if_neg (by decide)])
    rw [this, sm_const]; omega
theorem sLv_pos {s : hs} (o : Ok s) {w : Nat} (h : s 3 w = 1 ∧ 1000 ≤ s 1 w) : ∀ (d x : Nat), x ≤ w → w < x + d → 1 ≤ sLv s d x := by
  intro d
  induction d with
  | zero => intro x a b; omega
  | succ d ih =>
    intro x a b
    rw [sLv]
    by_cases c : x = w
    · subst c
      rw [if_pos h]
      have := sLv_nn s d (x + 1)
      omega
    · have := ih (x + 1) (by omega) (by omega)
      split <;> omega
theorem In.c4 {s : hs} {G : Nat → Prop} (h : In s G no 6) (h1 : s 0 14 = 1) (hs0 : s 0 13 = 0) (ht : s 10 0 = -1 ∧ s 10 1 = -1) (π : hs → Nat → Bool) : In (sC4 s π) (fun w => w < 64 ∧ s 3 w = 1) no 0 := by
  have hin := h
  obtain ⟨o, l, f2, ⟨g1, g2, g3, g4, g5, g6, g7, g8, g9, g10, g11, g12, g13, g14, g15⟩, rg⟩ := h
  obtain ⟨F1, F2', F3, F4, F5⟩ := FS_facts (s := sFl s 2 64 (-1)) (Q := qNL s)
  have gd : s 0 15 = s 0 16 := g14.1 h1
  have ol := o.latest
  have thr : ∀ t, t < 2 → s 10 t = -1 := fun t h2 => by
    by_cases q : t = 0
    · rw [q]; exact ht.1
    · rw [show t = 1 by omega]; exact ht.2
  have ofl : Ok (sFl s 2 64 (-1)) := by
    refine ⟨fun k i hd => ?_, o.2.1, fun j hj => o.2.2 j hj⟩
    unfold sFl
    split
    · rename_i q; rw [q.1]; exact ⟨by omega, by omega⟩
    · exact o.1 k i hd
  have l1' := Lay_FS (s := sFl s 2 64 (-1)) ofl l (Q := qNL s) (fun u hu h9 q => by
    have h9 : s 9 u ≠ -1 := h9
    have q : qNL s (s 9 u).toNat = true := q
    have c := of_decide_eq_true q
    have og := o.g hu
    by_cases z : u = 0
    · subst z; have := c.1.2.1; omega
    · have z : u = 1 := by omega
      subst z; have := c.1.2.2; omega)
  have o1 := Ok_FS (Q := qNL s) 8 0 _ (by omega) ofl
  have o2 : Ok (sC2 s) := by
    unfold sC2
    refine Ok.up ?_ (by decide) ⟨fun q => absurd q (by decide), fun _ => ⟨by omega, by omega⟩, fun q => absurd q (by decide), fun q => absurd q (by decide), fun q => absurd q (by decide), fun q => absurd q (by decide)⟩
    exact Ok.up o1 (by decide) ⟨fun q => absurd q (by decide), fun q => absurd q (by decide), fun _ => ⟨by omega, by omega⟩, fun q => absurd q (by decide), fun q => absurd q (by decide), fun q => absurd q (by decide)⟩
  obtain ⟨lf, B1, B2, B3, B4⟩ := BI.bts (sC2 s) π
  generalize hB : sBts (sC2 s) π = B at *
  have e7 : ∀ i, sC3 s π 7 i = if i < 8 ∧ B.testBit i = true then 2 else sFS (sFl s 2 64 (-1)) (qNL s) 8 0 7 i := fun i => by
    unfold sC3; rw [up2_ap, if_neg (by omega), hB]
    unfold sHow
    by_cases c : i < 8 ∧ B.testBit i = true
    · rw [if_pos ⟨rfl, c⟩, if_pos c]
    · rw [if_neg (fun z => c z.2), if_neg c]; rfl
  have e9 : ∀ i, sC3 s π 9 i = if i = 1 then -1 else s 9 i := fun i => by
    unfold sC3; rw [up2_ap]
    by_cases c : i = 1
    · rw [if_pos ⟨rfl, c⟩, if_pos c]
    · rw [if_neg (fun z => c z.2), if_neg c]
      show sFS (sFl s 2 64 (-1)) (qNL s) 8 0 9 i = s 9 i
      exact F5 9 i (by decide) (by decide) (by decide) (by decide) (by decide) (by decide)
  have ek : ∀ k i, k ≠ 0 → k ≠ 7 → k ≠ 9 → sC3 s π k i = sFS (sFl s 2 64 (-1)) (qNL s) 8 0 k i := fun k i k0 k7 k9 => by
    unfold sC3; rw [up2_ap, if_neg (fun z => k9 z.1)]
    unfold sHow; rw [if_neg (fun z => k7 z.1)]
    unfold sC2; rw [up2_ap, if_neg (fun z => k0 z.1), up2_ap, if_neg (fun z => k0 z.1)]
  have e0 : ∀ i, i ≠ 14 → i ≠ 15 → sC3 s π 0 i = s 0 i := fun i i4 i5 => by
    unfold sC3; rw [up2_ap, if_neg (by omega)]
    unfold sHow; rw [if_neg (by omega)]
    unfold sC2; rw [up2_ap, if_neg (fun z => i4 z.2), up2_ap, if_neg (fun z => i5 z.2)]
    exact F5 0 i (by decide) (by decide) (by decide) (by decide) (by decide) (by decide)
  have e14 : sC3 s π 0 14 = 2 := rfl
  have e15 : sC3 s π 0 15 = 2 := rfl
  have e2 : ∀ i, i < 64 → sC3 s π 2 i = -1 := fun i hi => by
    rw [ek 2 i (by decide) (by decide) (by decide), F5 2 i (by decide) (by decide) (by decide) (by decide) (by decide) (by decide)]
    unfold sFl; rw [if_pos ⟨rfl, hi⟩]
  have e16 := e0 16 (by decide) (by decide)
  have d : ∀ k i, k ≠ 0 → k ≠ 1 → k ≠ 2 → k ≠ 3 → k ≠ 5 → k ≠ 6 → k ≠ 7 → k ≠ 9 → k ≠ 13 → sC3 s π k i = s k i := fun k i k0 k1 k2 k3 k5 k6 k7 k9 k13 => by
    rw [ek k i k0 k7 k9, F5 k i k1 k3 k5 k6 k7 k13, sFl_k i k2]
  have o3 : Ok (sC3 s π) := by
    unfold sC3
    refine Ok.up ?_ (by decide) ⟨by omega, by omega⟩
    refine ⟨fun k i hd => ?_, o2.2.1, fun j hj => o2.2.2 j hj⟩
    unfold sHow
    split
    · rename_i q; rw [q.1]; exact ⟨by omega, by omega⟩
    · exact o2.1 k i hd
  have cand : ∀ p, B.testBit p = true → p < 8 ∧ sFS (sFl s 2 64 (-1)) (qNL s) 8 0 7 p = 1 ∧ (p : Int) ≠ s 9 0 := fun p hp => by
    have := B2 p hp
    refine ⟨this.1, this.2.1.1, ?_⟩
    have q := this.2.1.2.1
    have q : (p : Int) ≠ sFS (sFl s 2 64 (-1)) (qNL s) 8 0 9 0 := q
    rw [F5 9 0 (by decide) (by decide) (by decide) (by decide) (by decide) (by decide)] at q
    exact q
  -- a marked one's page isn't freed
  have mq : ∀ w, w < 64 → s 3 w = 1 → ¬ qNL s (w / 8) = true := fun w hw hm q => by
    have c := of_decide_eq_true q
    have h7 := l.2.2.2.2.2.2 (w / 8) (by omega)
    have := sLv_pos o ⟨hm, l.2.2.2.1 w hw hm⟩ 8 (8 * (w / 8)) (by omega) (by omega)
    unfold sLive at h7
    omega
  have w1 : ∀ w, w < 64 → s 3 w = 1 → sC3 s π 1 w = s 1 w := fun w hw hm => by
    rw [ek 1 w (by decide) (by decide) (by decide)]; exact (F2' w hw (mq w hw hm)).1
  have w3 : ∀ w, w < 64 → s 3 w = 1 → sC3 s π 3 w = 1 := fun w hw hm => by
    rw [ek 3 w (by decide) (by decide) (by decide), (F2' w hw (mq w hw hm)).2]; exact hm
  have w3' : ∀ w, w < 64 → sC3 s π 3 w = 1 → s 3 w = 1 := fun w hw hm => by
    rw [ek 3 w (by decide) (by decide) (by decide)] at hm
    by_cases q : qNL s (w / 8) = true
    · rw [(F1 w hw q).2] at hm; omega
    · rw [(F2' w hw q).2] at hm; exact hm
  -- a good pointer of before is of use now
  have pp : ∀ p, ptr s G p → sGood s p → ptr (sC3 s π) (fun w => w < 64 ∧ s 3 w = 1) p := fun p hp hg => by
    rcases hp with q | ⟨hc, hgg⟩
    · exact Or.inl q
    · have col : p / 64 = s 0 15 := hg.elim (fun q => by have := hc.1; omega) id
      have raw : (p % 64).toNat < 64 := by have := hc.1; omega
      have mk := hc.2.2.1 h1 col
      refine Or.inr ⟨⟨hc.1, fun _ => ?_, fun q => ?_, fun _ q => ?_⟩, ?_⟩
      · rw [e16, col, gd]; exact Or.inl rfl
      · rw [e14] at q; omega
      · omega
      · have : sWh (sC3 s π) p = (p % 64).toNat := by
          unfold sWh; rw [e2 _ raw, if_pos (Or.inr (Or.inr rfl))]
        rw [this]; exact ⟨raw, mk⟩
  have base : In (sC3 s π) (fun w => w < 64 ∧ s 3 w = 1) no 0 := by
    refine ⟨o3, ⟨?_, ?_, ?_, ?_, ?_, ?_, ?_⟩, fun _ a ha q => absurd (e2 a ha) q, ⟨?_, ?_, ?_, ?_, ?_, ?_, ?_, fun q => ?_, fun q => ?_, fun q => ?_, ?_, ?_, ?_, ?_, ?_⟩, fun r hr => absurd hr (by omega)⟩
    · intro w hw hh
      rw [ek 1 w (by decide) (by decide) (by decide)] at hh ⊢
      rw [ek 6 _ (by decide) (by decide) (by decide)]
      exact l1'.1 w hw hh
    · intro w hw hh j j1 j2
      rw [ek 1 w (by decide) (by decide) (by decide)] at hh j2
      rw [ek 1 _ (by decide) (by decide) (by decide)]
      exact l1'.2.1 w hw hh j j1 j2
    · intro w hw hu
      rw [ek 6 _ (by decide) (by decide) (by decide)] at hu
      rw [ek 1 _ (by decide) (by decide) (by decide), ek 3 _ (by decide) (by decide) (by decide)]
      exact l1'.2.2.1 w hw hu
    · intro w hw hm
      rw [ek 3 _ (by decide) (by decide) (by decide)] at hm
      rw [ek 1 _ (by decide) (by decide) (by decide)]
      exact l1'.2.2.2.1 w hw hm
    · intro p hp h0
      rw [e7] at h0
      rw [ek 6 _ (by decide) (by decide) (by decide)]
      by_cases c : p < 8 ∧ B.testBit p = true
      · rw [if_pos c] at h0; omega
      · rw [if_neg c] at h0; exact l1'.2.2.2.2.1 p hp h0
    · intro u hu h9
      rw [e9] at h9 ⊢
      by_cases c : u = 1
      · rw [if_pos c] at h9; exact absurd rfl h9
      · have u0 : u = 0 := by omega
        subst u0
        rw [if_neg c] at h9 ⊢
        have og := o.g (show 0 < 2 by omega)
        have y := l1'.2.2.2.2.2.1 0 (by omega) (by rw [F5 9 0 (by decide) (by decide) (by decide) (by decide) (by decide) (by decide)]; exact h9)
        rw [F5 9 0 (by decide) (by decide) (by decide) (by decide) (by decide) (by decide)] at y
        rw [e7, if_neg (fun z => by have := (cand _ z.2).2.2; have e : sFl s 2 64 (-1) 9 0 = s 9 0 := rfl; omega)]
        exact y
    · intro p hp
      rw [ek 5 _ (by decide) (by decide) (by decide), l1'.2.2.2.2.2.2 p hp]
      unfold sLive
      refine sLv_eq 8 _ (fun i _ _ => ?_)
      rw [ek 1 _ (by decide) (by decide) (by decide), ek 3 _ (by decide) (by decide) (by decide)]
      exact ⟨Iff.rfl, fun _ => rfl⟩
    · intro w hw
      have a := g8 h1 w hw.1 hw.2
      have b := g1 w a.1
      refine ⟨hw.1, by rw [w1 w hw.1 hw.2]; exact b.2.1, ?_⟩
      rw [e7]
      split
      · decide
      · rw [(F4 _ (mq w hw.1 hw.2)).2.2]; exact b.2.2
    · intro r hr
      rw [d 8 r (by decide) (by decide) (by decide) (by decide) (by decide) (by decide) (by decide) (by decide) (by decide)]
      exact pp _ (g2 r hr) (rg r hr)
    · intro w hw j j1 j2
      have a := g8 h1 w hw.1 hw.2
      have b := g1 w a.1
      rw [w1 w hw.1 hw.2] at j2
      obtain ⟨n, hn, m1, m2, m3, m4⟩ := head_n o l b.1 b.2.1
      have e8 : (w + j) / 8 = w / 8 := by omega
      rw [ek 1 (w + j) (by decide) (by decide) (by decide), (F2' (w + j) (by omega) (by rw [e8]; exact mq w hw.1 hw.2)).1]
      have gf : fld s (sGood s) w := a.2.elim (fun q => by
        obtain ⟨i, i1, _⟩ := q
        omega) (fun q => q.elim id (fun q => absurd q id))
      exact pp _ (g3 w a.1 j j1 j2) (gf j j1 j2)
    · intro t ht' h10
      rw [d 10 t (by decide) (by decide) (by decide) (by decide) (by decide) (by decide) (by decide) (by decide) (by decide)] at h10
      exact absurd (thr t ht') h10
    · intro t ht' h10
      rw [d 10 t (by decide) (by decide) (by decide) (by decide) (by decide) (by decide) (by decide) (by decide) (by decide)] at h10
      exact absurd (thr t ht') h10
    · intro a
      rw [d 10 0 (by decide) (by decide) (by decide) (by decide) (by decide) (by decide) (by decide) (by decide) (by decide)] at a
      exact absurd ht.1 a
    · intro t ht' h10
      rw [d 10 t (by decide) (by decide) (by decide) (by decide) (by decide) (by decide) (by decide) (by decide) (by decide)] at h10
      exact absurd (thr t ht') h10
    · rw [e14] at q; omega
    · rw [e14] at q; omega
    · rw [e14] at q; omega
    · intro _ w hw; exact ⟨w3 w hw.1 hw.2, e2 w hw.1⟩
    · intro _ w hw hm _; exact ⟨hw, w3' w hw hm⟩
    · intro _ a ha q; exact absurd (e2 a ha) q
    · exact ⟨fun q => by rw [e14] at q; omega, fun _ => e15⟩
    · intro q; exact absurd e14 q
  have := base.wr (kd := 2) (v := B) (by omega) (by omega)
  unfold sC4
  rw [hB]
  exact this
