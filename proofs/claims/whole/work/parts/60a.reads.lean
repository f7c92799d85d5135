/-! words that threads have read stay words of pointers -/
def RWI (s : hs) : Prop := ∀ t, t < 2 → s 10 t ≠ -1 → (-1 ≤ s 1 (s 10 t).toNat ∧ s 1 (s 10 t).toNat ≤ 191) ∧ ∀ t', t' < 2 → s 10 t' ≠ -1 → s 12 t' ≠ -1 → (s 10 t < s 12 t' ∨ s 12 t' + (s 1 (s 12 t').toNat - 999) ≤ s 10 t)
def Wk (s t : hs) : Prop := (∀ x, x < 64 → s 1 x = -2 ∨ t 1 x = s 1 x ∨ ((-1 ≤ s 1 x ∧ s 1 x ≤ 191) ∧ (-1 ≤ t 1 x ∧ t 1 x ≤ 191))) ∧ (∀ i, t 10 i = s 10 i) ∧ (∀ i, t 12 i = s 12 i)
theorem Wk.rfl {s : hs} : Wk s s := ⟨fun _ _ => Or.inr (Or.inl (Eq.refl _)), fun _ => Eq.refl _, fun _ => Eq.refl _⟩
theorem Wk.tr {s t u : hs} (h : Wk s t) (h' : Wk t u) : Wk s u := by
  refine ⟨fun x hx => ?_, fun i => (h'.2.1 i).trans (h.2.1 i), fun i => (h'.2.2 i).trans (h.2.2 i)⟩
  have a := h.1 x hx
  have b := h'.1 x hx
  omega
theorem RWI.wk {s t : hs} {G e : Nat → Prop} {k : Nat} (h : RWI s) (hi : In s G e k) (w : Wk s t) : RWI t := by
  intro t1 ht h10
  have o := hi.1
  rw [w.2.1] at h10 ⊢
  have a := h t1 ht h10
  have ot := o.t ht
  refine ⟨?_, fun t2 ht2 h10' h12' => ?_⟩
  · have := w.1 (s 10 t1).toNat (by omega)
    omega
  · rw [w.2.1] at h10'
    rw [w.2.2] at h12' ⊢
    have oc := o.c ht2
    have hd := (hi.2.2.2.1.2.2.2.2.1 t2 ht2 h10' h12').2.1.1
    have := w.1 (s 12 t2).toNat (by omega)
    have b := a.2 t2 ht2 h10' h12'
    have e : t 1 (s 12 t2).toNat = s 1 (s 12 t2).toNat := by omega
    rw [e]; exact b
theorem RWI.none {s : hs} (h : ∀ t, t < 2 → s 10 t = -1) : RWI s := fun t ht q => absurd (h t ht) q
theorem Wk.mend {s : hs} {G e : Nat → Prop} {k : Nat} (h : In s G e k) {p : Int} (hp : ptr s G p) : Wk s (sMend s p) := by
  obtain ⟨G', _, _, _, i4⟩ := h.mend hp
  refine ⟨fun x _ => ?_, fun i => sMend_k i (by omega), fun i => sMend_k i (by omega)⟩
  by_cases c : s 1 x = -2
  · exact Or.inl c
  · exact Or.inr (Or.inl (i4 x c))
theorem Wk.mw {s : hs} {G e : Nat → Prop} {k w : Nat} (h : In s G e k) (hw : w < 64) (hv : -1 ≤ s 1 w ∧ s 1 w ≤ 191) (hp : ptr s G (s 1 w)) : Wk s (sMW s w) := by
  obtain ⟨G', _, _, i3, i4⟩ := h.mw hw hv hp
  refine ⟨fun x _ => ?_, fun i => sMW_k i (by omega), fun i => sMW_k i (by omega)⟩
  by_cases c : s 1 x = -2
  · exact Or.inl c
  · by_cases e : x = w
    · subst e
      by_cases z : sMendV s (s 1 x) = -2
      · obtain ⟨_, _, _, _, j4⟩ := h.mend hp
        refine Or.inr (Or.inl ?_)
        unfold sMW sWM
        rw [if_pos (Or.inl z)]
        exact j4 x c
      · have y := i3 z
        exact Or.inr (Or.inr ⟨hv, by rw [y.2.2.2.2]; exact ⟨y.2.2.1, y.2.2.2.1⟩⟩)
    · exact Or.inr (Or.inl (i4 x e c))
theorem Wk.up {s : hs} {k i : Nat} {v : Int} (h1 : k ≠ 1) (h10 : k ≠ 10) (h12 : k ≠ 12) : Wk s (up2 s k i v) :=
  ⟨fun x _ => Or.inr (Or.inl (by rw [up2_ap, if_neg (fun z => h1 z.1.symm)])), fun j => by rw [up2_ap, if_neg (fun z => h10 z.1.symm)], fun j => by rw [up2_ap, if_neg (fun z => h12 z.1.symm)]⟩
theorem Wk.wr {s : hs} {kd v : Int} : Wk s (sWr s kd v) := ⟨fun _ _ => Or.inr (Or.inl (Eq.refl _)), fun _ => Eq.refl _, fun _ => Eq.refl _⟩
theorem Wk.mkl {e : Nat → Prop} {a n : Nat} (ha : a < 64) (hn : a + n < 64) : ∀ (d j : Nat) (s : hs) (G : Nat → Prop), 1 ≤ j → j + d = n + 1 → In s G e 6 → s 0 14 = 1 → G a → s 1 a = 1000 + n → Wk s (sMk s a d j) := by
  intro d
  induction d with
  | zero => intro j s G _ _ _ _ _ _; exact Wk.rfl
  | succ d ih =>
    intro j s G j1 hj h h1 hg h1a
    have ⟨o, l, f2, g, rg⟩ := h
    have hv := l.2.1 a ha (by omega) j j1 (by omega)
    have hp := g.2.2.1 a hg j j1 (by omega)
    obtain ⟨i1, i2, i3⟩ := h.mw1 h1 (w := a + j) (by omega) hv hp
    exact (Wk.mw h (by omega) hv hp).tr (ih (j + 1) (sMW s (a + j)) G (by omega) (by omega) i1 (by rw [sMW_0 (by decide)]; exact h1) hg (by rw [i3 a (by omega)]; exact h1a))
theorem sMRs_k {k : Nat} (hk : k = 10 ∨ k = 11 ∨ k = 12) : ∀ (d r : Nat) (s : hs) (i : Nat), sMRs s d r k i = s k i := by
  intro d
  induction d with
  | zero => intro r s i; rfl
  | succ d ih => intro r s i; unfold sMRs; rw [ih, sMR_k i hk]
theorem RWI.op {s : hs} {G : Nat → Prop} (h : RWI s) (hi : In s G no 6) (π : hs → Nat → Bool) : RWI (sOp s π) := by
  have os := hi.1.stacked
  have thr : s 10 0 = -1 ∧ s 10 1 = -1 → ∀ t, t < 2 → s 10 t = -1 := fun ht t h2 => by
    by_cases q : t = 0
    · rw [q]; exact ht.1
    · rw [show t = 1 by omega]; exact ht.2
  unfold sOp
  split
  · rename_i c
    unfold sMoveOne
    split
    · rename_i n
      have a := (sNx_le (s := s) 64 0).2.2.1 (by unfold sNext at n; omega)
      split
      · rename_i r
        have hg := hi.2.2.2.1.2.2.2.2.2.2.2.2.2.2.2.1 c _ n a.1 a.2.2.2
        obtain ⟨G', i1, i2, i3, i4⟩ := hi.move a.2 hg r
        refine h.wk hi ⟨fun x _ => ?_, fun i => sMove_k i (by decide) (by decide) (by decide) (by decide) (by decide) (by decide) (by decide) (by decide), fun i => sMove_k i (by decide) (by decide) (by decide) (by decide) (by decide) (by decide) (by decide) (by decide)⟩
        by_cases z : s 1 x = -2
        · exact Or.inl z
        · exact Or.inr (Or.inl (i4 x z))
      · exact h
    · split
      · rename_i t
        refine RWI.none (fun j hj => ?_)
        unfold sEnd
        rw [up2_ap, if_neg (by omega), (FS_facts (s := s) (Q := qCh s)).2.2.2.2 10 j (by decide) (by decide) (by decide) (by decide) (by decide) (by decide)]
        exact thr t j hj
      · exact h
  · split
    · rename_i c
      obtain ⟨n, t64, n3, e1, e2, e3, _⟩ := top_facts hi c.1 c.2
      obtain ⟨p1, p2⟩ := hi.pop c.1 c.2
      unfold sMark1
      rw [e2]
      exact h.wk hi ((Wk.up (k := 0) (by decide) (by decide) (by decide)).tr (Wk.mkl t64 e3 n 1 _ G (by omega) (by omega) p1 c.1 p2 e1))
    · split
      · rename_i c
        refine RWI.none (fun j hj => ?_)
        unfold sChoose
        rw [sMRs_k (Or.inl rfl)]
        show sFS (sFl s 2 64 (-1)) (qNL s) 8 0 10 j = -1
        rw [(FS_facts (s := sFl s 2 64 (-1)) (Q := qNL s)).2.2.2.2 10 j (by decide) (by decide) (by decide) (by decide) (by decide) (by decide)]
        exact thr c.2 j hj
      · split
        · rename_i c
          refine RWI.none (fun j hj => ?_)
          unfold sStart
          rw [sMRs_k (Or.inl rfl)]
          exact thr c.2 j hj
        · exact h
theorem Wk.make {s : hs} (o : Ok s) (l : Lay s) {r n : Nat} (hn : n ≤ 3) (hr : sRoom s 0 (n + 1)) : Wk s (sMake s r n) := by
  have fresh := @give_fresh s o l 0 (n + 1) (by omega) (by omega) hr
  obtain ⟨p8, bb, d, d1, d2, d3, ee, f⟩ := give_facts o l (u := 0) (n := n + 1) (by omega) (by omega) hr
  rw [sMake_eq o l hn hr]
  refine ⟨fun x _ => ?_, fun i => ?_, fun i => ?_⟩
  · rw [sWr_k x (by decide), up2_ap, if_neg (by omega), sAl_1]
    by_cases q : sAt s 0 (n + 1) ≤ x ∧ x < sAt s 0 (n + 1) + (n + 1)
    · exact Or.inl (fresh q.1 (by omega)).1
    · rw [if_neg q]; exact Or.inr (Or.inl (Eq.refl _))
  · rw [sWr_k i (by decide), up2_ap, if_neg (by omega), sAl_k i (by decide) (by decide) (by decide) (by decide) (by decide) (by decide)]
  · rw [sWr_k i (by decide), up2_ap, if_neg (by omega), sAl_k i (by decide) (by decide) (by decide) (by decide) (by decide) (by decide)]
theorem Wk.store {s : hs} {w : Nat} {v : Int} (hv : -1 ≤ s 1 w ∧ s 1 w ≤ 191) (hv' : -1 ≤ v ∧ v ≤ 191) : Wk s (up2 s 1 w v) := by
  refine ⟨fun x _ => ?_, fun i => by rw [up2_ap, if_neg (by omega)], fun i => by rw [up2_ap, if_neg (by omega)]⟩
  rw [up2_ap]
  by_cases q : x = w
  · subst q; rw [if_pos ⟨Eq.refl _, Eq.refl _⟩]; exact Or.inr (Or.inr ⟨hv, hv'⟩)
  · rw [if_neg (fun z => q z.2)]; exact Or.inr (Or.inl (Eq.refl _))
/-- a thread begins -/
theorem RWI.begin {s : hs} {G : Nat → Prop} (h : RWI s) (hi : In s G no 6) {r t w : Nat} {f : Int} (hr : r < 6) (hf : sFA s r f = w) (ht : t < 2) (hb : s 10 t = -1) (hm : sMendV s (s 1 w) ≠ -2) : RWI (sBegin s t w) := by
  have ⟨o, l, f2, g, rg⟩ := hi
  obtain ⟨w', w1, w64, wv, wp⟩ := fieldFacts hi hr (f := f) (by omega)
  have : w' = w := by omega
  subst this
  -- the object that the word is of
  have le := (sFA_le o l hr f).2.2 (by omega)
  have br := o.r hr
  have gd := rg r hr
  have hp := g.2.1 r hr
  have ga : G (s 8 r % 64).toNat := by
    rcases hp with hp | hp
    · omega
    have col : s 8 r / 64 = s 0 15 := gd.elim (fun q => by omega) id
    have wh : sWh s (s 8 r) = (s 8 r % 64).toNat := by unfold sWh; rw [if_pos (Or.inl col)]
    rw [← wh]; exact hp.2
  have a64 := g.1 _ ga
  obtain ⟨na, hna, na1, na2, na3, na4⟩ := head_n o l a64.1 a64.2.1
  -- it lies in no copy
  have out : ∀ t', t' < 2 → s 10 t' ≠ -1 → s 12 t' ≠ -1 → ((w' : Int) < s 12 t' ∨ s 12 t' + (s 1 (s 12 t').toNat - 999) ≤ w') := fun t' ht' h10 h12 => by
    have g5 := g.2.2.2.2.1 t' ht' h10 h12
    have oc := o.c ht'
    have c64 : (s 12 t').toNat < 64 := by omega
    obtain ⟨nc, hnc, nc1, nc2, nc3, nc4⟩ := head_n o l c64 g5.2.1.1
    have mk := (g.2.2.2.2.2.2.2.2.2.2.1 g5.1 _ ga).1
    have ap := apart o l c64 a64.1 nc1 na1 hnc.1 hna.1 (fun q => by rw [q] at mk; omega)
    omega
  unfold sBegin
  by_cases c : sNeed s (s 1 w')
  · rw [if_pos c]
    have mp := ptr.mp o g wp
    have cr : sRoom s 1 (sSz s (sWh s (s 1 w'))) := by
      by_cases z : sRoom s 1 (sSz s (sWh s (s 1 w')))
      · exact z
      · exact absurd ((sMendV_2 o mp.1).mpr ⟨c, z⟩) hm
    have hg : G (sWh s (s 1 w')) := wp.elim (fun q => absurd (Or.inl q) c.1) (fun q => q.2)
    have b64 := g.1 _ hg
    obtain ⟨n, b, hn, m1, m2, m3, m4, m5, m6, m7, m8, m9, _, _, _, _, m10, m11⟩ := move_facts o l b64.1 b64.2.1 cr
    have al := copy_al o l (u := 1) (n := n) (a := sWh s (s 1 w')) (by omega) hn m7
    have fresh := @give_fresh s o l 1 n (by omega) hn m7
    obtain ⟨p8, bb, _, d1, d2, d3, ee, ff⟩ := give_facts o l (show 1 < 2 by omega) hn m7
    rw [m4] at bb ee ff d3
    have fr : ∀ i, b ≤ i → i < b + n → s 1 i = -2 := fun i h1 h2 => (fresh (by rw [m4]; exact h1) (by omega)).1
    rw [m2, m4]
    rw [m4] at al
    rw [al]
    have e1 : ∀ x, s 1 x ≠ -2 → sSetT (sAl s 1 n (fun j => s 1 (sWh s (s 1 w') + j)) false) t w' (s 1 w') b 1 x = s 1 x := fun x hx => by
      rw [sSetT_k x (by decide) (by decide) (by decide), sAl_1, m4, if_neg (fun z => hx (fr x z.1 z.2))]
    have eb : sSetT (sAl s 1 n (fun j => s 1 (sWh s (s 1 w') + j)) false) t w' (s 1 w') b 1 b = 999 + n := by
      rw [sSetT_k b (by decide) (by decide) (by decide), sAl_1, m4, if_pos (by omega), show b - b = 0 by omega]; exact m1
    have e10 : ∀ x, sSetT (sAl s 1 n (fun j => s 1 (sWh s (s 1 w') + j)) false) t w' (s 1 w') b 10 x = if x = t then (w' : Int) else s 10 x := fun x => by
      rw [sSetT_10]; rfl
    have e12 : ∀ x, sSetT (sAl s 1 n (fun j => s 1 (sWh s (s 1 w') + j)) false) t w' (s 1 w') b 12 x = if x = t then (b : Int) else s 12 x := fun x => by
      rw [sSetT_12]; rfl
    intro t1 ht1 h10
    rw [e10] at h10 ⊢
    -- the read word of this one
    have word : ∃ z : Nat, (if t1 = t then (w' : Int) else s 10 t1) = z ∧ z < 64 ∧ (-1 ≤ s 1 z ∧ s 1 z ≤ 191) ∧ (∀ t', t' < 2 → s 10 t' ≠ -1 → s 12 t' ≠ -1 → ((z : Int) < s 12 t' ∨ s 12 t' + (s 1 (s 12 t').toNat - 999) ≤ z)) := by
      by_cases q : t1 = t
      · rw [if_pos q]; exact ⟨w', Eq.refl _, w64, wv, out⟩
      · rw [if_neg q] at h10 ⊢
        have ot := o.t ht1
        have a := h t1 ht1 h10
        exact ⟨(s 10 t1).toNat, by omega, by omega, a.1, fun t' x1 x2 x3 => by have := a.2 t' x1 x2 x3; omega⟩
    obtain ⟨z, z1, z64, zv, zo⟩ := word
    rw [z1, Int.toNat_natCast, e1 z (by omega)]
    refine ⟨zv, fun t2 ht2 h10' h12' => ?_⟩
    rw [e10] at h10'
    rw [e12] at h12' ⊢
    by_cases q : t2 = t
    · rw [if_pos q, Int.toNat_natCast, eb]
      by_cases y : b ≤ z ∧ z < b + n
      · have := fr z y.1 y.2; omega
      · omega
    · rw [if_neg q] at h10' h12' ⊢
      have g5 := g.2.2.2.2.1 t2 ht2 h10' h12'
      rw [e1 _ (by omega)]
      exact zo t2 ht2 h10' h12'
  · rw [if_neg c]
    intro t1 ht1 h10
    rw [sSetT_10] at h10 ⊢
    rw [sSetT_k _ (by decide) (by decide) (by decide)]
    have rest : ∀ (z : Int), (∀ t', t' < 2 → s 10 t' ≠ -1 → s 12 t' ≠ -1 → (z < s 12 t' ∨ s 12 t' + (s 1 (s 12 t').toNat - 999) ≤ z)) → ∀ t', t' < 2 → sSetT s t w' (s 1 w') (-1) 10 t' ≠ -1 → sSetT s t w' (s 1 w') (-1) 12 t' ≠ -1 → (z < sSetT s t w' (s 1 w') (-1) 12 t' ∨ sSetT s t w' (s 1 w') (-1) 12 t' + (sSetT s t w' (s 1 w') (-1) 1 (sSetT s t w' (s 1 w') (-1) 12 t').toNat - 999) ≤ z) := fun z hz t2 ht2 x1 x2 => by
      rw [sSetT_10] at x1
      rw [sSetT_12] at x2 ⊢
      by_cases q : t2 = t
      · rw [if_pos q] at x2; exact absurd (Eq.refl _) x2
      · rw [if_neg q] at x1 x2 ⊢
        rw [sSetT_k _ (by decide) (by decide) (by decide)]
        exact hz t2 ht2 x1 x2
    by_cases q : t1 = t
    · rw [if_pos q] at h10 ⊢
      exact ⟨by rw [Int.toNat_natCast]; exact wv, rest _ out⟩
    · rw [if_neg q] at h10 ⊢
      have a := h t1 ht1 h10
      exact ⟨a.1, rest _ a.2⟩
/-- a thread finishes -/
theorem RWI.fin1 {s : hs} {G : Nat → Prop} (h : RWI s) (hi : In s G no 6) {t : Nat} (ht : t < 2) (hb : s 10 t ≠ -1) : RWI (sFin1 s t) ∧ (-1 ≤ sFin1 s t 1 (s 10 t).toNat ∧ sFin1 s t 1 (s 10 t).toNat ≤ 191) ∧ (∀ t', t' ≠ t → sFin1 s t 10 t' = s 10 t') ∧ (∀ t', t' < 2 → s 10 t' ≠ -1 → -1 ≤ sFin1 s t 1 (s 10 t').toNat ∧ sFin1 s t 1 (s 10 t').toNat ≤ 191) := by
  have ⟨o, l, f2, g, rg⟩ := hi
  have oc := o.c ht
  -- the words that were read stay
  have key : (∀ x, x < 64 → s 1 x = -2 ∨ sFin1 s t 1 x = s 1 x ∨ (s 12 t ≠ -1 ∧ s 12 t ≤ x ∧ (x : Int) < s 12 t + (s 1 (s 12 t).toNat - 999))) ∧ (∀ i, sFin1 s t 10 i = if i = t then -1 else s 10 i) ∧ (∀ i, sFin1 s t 12 i = if i = t then -1 else s 12 i) := by
    unfold sFin1 sSettle
    by_cases c1 : s 12 t = -1
    · rw [if_pos c1]
      exact ⟨fun x _ => Or.inr (Or.inl (by rw [sSetT_k x (by decide) (by decide) (by decide)])), fun i => sSetT_10 i, fun i => sSetT_12 i⟩
    · rw [if_neg c1]
      split
      · exact ⟨fun x _ => Or.inr (Or.inl (by rw [sTell_k x (by decide) (by decide) (by decide) (by decide), sSetT_k x (by decide) (by decide) (by decide)])), fun i => by rw [sTell_k i (by decide) (by decide) (by decide) (by decide)]; exact sSetT_10 i, fun i => by rw [sTell_k i (by decide) (by decide) (by decide) (by decide)]; exact sSetT_12 i⟩
      · split
        · refine ⟨fun x _ => ?_, fun i => by rw [sClr_k i (by decide) (by decide), up2_ap, if_neg (by omega)]; exact sSetT_10 i, fun i => by rw [sClr_k i (by decide) (by decide), up2_ap, if_neg (by omega)]; exact sSetT_12 i⟩
          rw [sClr_1]
          have g5 := g.2.2.2.2.1 t ht hb c1
          have c64 : (s 12 t).toNat < 64 := by omega
          obtain ⟨n, hn, m1, m2, m3, m4⟩ := head_n o l c64 g5.2.1.1
          have m2' : sSz (sSetT s t (-1) (-1) (-1)) (s 12 t).toNat = n := m2
          rw [m2']
          by_cases q : (s 12 t).toNat ≤ x ∧ x < (s 12 t).toNat + n
          · exact Or.inr (Or.inr ⟨c1, by omega, by omega⟩)
          · rw [if_neg q]
            exact Or.inr (Or.inl (Eq.refl _))
        · exact ⟨fun x _ => Or.inr (Or.inl (by rw [sSetT_k x (by decide) (by decide) (by decide)])), fun i => sSetT_10 i, fun i => sSetT_12 i⟩
  obtain ⟨k1, k10, k12⟩ := key
  have stay : ∀ t', t' < 2 → s 10 t' ≠ -1 → -1 ≤ sFin1 s t 1 (s 10 t').toNat ∧ sFin1 s t 1 (s 10 t').toNat ≤ 191 := fun t' ht' h10 => by
    have ot := o.t ht'
    have a := h t' ht' h10
    have b := k1 (s 10 t').toNat (by omega)
    rcases b with b | b | b
    · omega
    · rw [b]; exact a.1
    · have := a.2 t ht hb b.1
      omega
  refine ⟨?_, stay t ht hb, fun t' q => by rw [k10, if_neg q], stay⟩
  intro t1 ht1 h10
  rw [k10] at h10 ⊢
  by_cases q : t1 = t
  · rw [if_pos q] at h10; exact absurd (Eq.refl _) h10
  · rw [if_neg q] at h10 ⊢
    refine ⟨stay t1 ht1 h10, fun t2 ht2 h10' h12' => ?_⟩
    rw [k10] at h10'
    rw [k12] at h12' ⊢
    by_cases q2 : t2 = t
    · rw [if_pos q2] at h12'; exact absurd (Eq.refl _) h12'
    · rw [if_neg q2] at h10' h12' ⊢
      have a := (h t1 ht1 h10).2 t2 ht2 h10' h12'
      have g5 := g.2.2.2.2.1 t2 ht2 h10' h12'
      have oc2 := o.c ht2
      have c64 : (s 12 t2).toNat < 64 := by omega
      have b := k1 (s 12 t2).toNat c64
      have e : sFin1 s t 1 (s 12 t2).toNat = s 1 (s 12 t2).toNat := by
        rcases b with b | b | b
        · omega
        · exact b
        · -- two copies lie apart
          have g5t := g.2.2.2.2.1 t ht hb b.1
          have d64 : (s 12 t).toNat < 64 := by omega
          obtain ⟨n, hn, m1, m2, m3, m4⟩ := head_n o l c64 g5.2.1.1
          obtain ⟨n', hn', m1', m2', m3', m4'⟩ := head_n o l d64 g5t.2.1.1
          have ne : (s 12 t2).toNat ≠ (s 12 t).toNat := by
            have g6 := g.2.2.2.2.2.1
            by_cases z : t = 0
            · have z2 : t2 = 1 := by omega
              subst z
              subst z2
              have := g6 hb h10' b.1
              omega
            · have z1 : t = 1 := by omega
              have z2 : t2 = 0 := by omega
              subst z1
              subst z2
              have := g6 h10' hb h12'
              omega
          have := apart o l d64 c64 m1' m1 hn'.1 hn.1 ne
          omega
      rw [e]; exact a
theorem RWI.fin {s : hs} {G : Nat → Prop} (h : RWI s) (hi : In s G no 6) {t r : Nat} (ht : t < 2) (hb : s 10 t ≠ -1) : RWI (sFin s t r) ∧ (∀ t', t' < 2 → s 10 t' ≠ -1 → -1 ≤ sFin s t r 1 (s 10 t').toNat ∧ sFin s t r 1 (s 10 t').toNat ≤ 191) ∧ (∀ t', t' ≠ t → sFin s t r 10 t' = s 10 t') := by
  obtain ⟨f1, f3, f4, f5⟩ := h.fin1 hi ht hb
  obtain ⟨G', i1, i2, i3⟩ := hi.fin1 ht hb
  have nv := finV_ne hi ht hb
  obtain ⟨G2, j1, j2, j3, j4⟩ := i1.mend i2
  have y := j3 nv
  have yr : -1 ≤ sFinV s t ∧ sFinV s t ≤ 191 := y.2.2
  have wk1 := Wk.mend i1 i2
  have op := hi.1.p ht
  have wk : Wk (sFin1 s t) (sFin s t r) := by
    refine wk1.tr ?_
    unfold sFin
    refine Wk.tr ?_ (Wk.up (k := 8) (by decide) (by decide) (by decide))
    split
    · rename_i c
      unfold sWM
      split
      · exact Wk.rfl
      · exact (Wk.store (by rw [c]; exact op) yr).tr Wk.wr
    · exact Wk.rfl
  refine ⟨f1.wk i1 wk, fun t' ht' h10 => ?_, fun t' q => by rw [wk.2.1]; exact f4 t' q⟩
  have ot := hi.1.t ht'
  have a := f5 t' ht' h10
  have b := wk.1 (s 10 t').toNat (by omega)
  omega
