/-! what is safe stays so: what is given out; mending -/
def gA (G : Nat → Prop) (add : Prop) (b : Nat) (w : Nat) : Prop := G w ∨ (add ∧ w = b)
theorem In.al {s : hs} {G e : Nat → Prop} {k : Nat} (h : In s G e k) {u n : Nat} (hu : u < 2) (hn : 1 ≤ n ∧ n ≤ 4) (hr : sRoom s u n) {c : Nat → Int} (hc : nwOk n c) (mk : Bool) (add : Prop) (h1 : mk = true → add) (h2 : s 0 14 = 2 → add → mk = true) (h3 : add → ∀ j, 1 ≤ j → j < n → ptr s G (c j)) (h4 : s 0 14 = 1 → mk = true → ∀ j, 1 ≤ j → j < n → sGood s (c j)) : In (sAl s u n c mk) (gA G add (sAt s u n)) e k ∧ (∀ q, ptr s G q → ptr (sAl s u n c mk) (gA G add (sAt s u n)) q) := by
  obtain ⟨o, l, f2, ⟨g1, g2, g3, g4, g5, g6, g7, g8, g9, g10, g11, g12, g13, g14, g15⟩, rg⟩ := h
  have o' := Ok_al o l hu hn hr hc mk
  have l' := Lay_al o l hu hn hr hc mk
  have fresh := @give_fresh s o l u n hu hn hr
  obtain ⟨p8, bb, d, d1, d2, d3, ee, f⟩ := give_facts o l hu hn hr
  have s7b : s 7 (sAt s u n / 8) ≠ 2 := by
    rw [ee]
    by_cases q : sFits s u n
    · rw [(d1 q).1]; decide
    · rw [(d2 q).1]; decide
  have fr : ∀ i, sAt s u n ≤ i → i < sAt s u n + n → s 1 i = -2 ∧ s 3 i = 0 := fun i h1 h2 => fresh h1 (by omega)
  have d : ∀ k i, k ≠ 1 → k ≠ 3 → k ≠ 5 → k ≠ 6 → k ≠ 7 → k ≠ 9 → sAl s u n c mk k i = s k i := fun k i a1 a3 a5 a6 a7 a9 => sAl_k i a1 a3 a5 a6 a7 a9
  have e14 := d 0 14 (by decide) (by decide) (by decide) (by decide) (by decide) (by decide)
  have e15 := d 0 15 (by decide) (by decide) (by decide) (by decide) (by decide) (by decide)
  have e16 := d 0 16 (by decide) (by decide) (by decide) (by decide) (by decide) (by decide)
  have e13 := d 0 13 (by decide) (by decide) (by decide) (by decide) (by decide) (by decide)
  have f2' : sAl s u n c mk 2 = s 2 := funext (fun i => d 2 i (by decide) (by decide) (by decide) (by decide) (by decide) (by decide))
  have f4 : sAl s u n c mk 4 = s 4 := funext (fun i => d 4 i (by decide) (by decide) (by decide) (by decide) (by decide) (by decide))
  have f8 : sAl s u n c mk 8 = s 8 := funext (fun i => d 8 i (by decide) (by decide) (by decide) (by decide) (by decide) (by decide))
  have f10 : sAl s u n c mk 10 = s 10 := funext (fun i => d 10 i (by decide) (by decide) (by decide) (by decide) (by decide) (by decide))
  have f11 : sAl s u n c mk 11 = s 11 := funext (fun i => d 11 i (by decide) (by decide) (by decide) (by decide) (by decide) (by decide))
  have f12 : sAl s u n c mk 12 = s 12 := funext (fun i => d 12 i (by decide) (by decide) (by decide) (by decide) (by decide) (by decide))
  have ew : ∀ p, sWh (sAl s u n c mk) p = sWh s p := fun p => sWh_eq e15 (fun i => by rw [f2']) p
  have eg : sGood (sAl s u n c mk) = sGood s := by funext p; show (_ ∨ _) = (_ ∨ _); rw [e15]
  have hd : ∀ w, s 1 w ≠ -2 → sAl s u n c mk 1 w = s 1 w := fun w hw => by
    rw [sAl_1, if_neg (fun z => hw (fr w z.1 z.2).1)]
  have h7n : ∀ p, sAl s u n c mk 7 p = 2 → s 7 p = 2 ∧ p ≠ sAt s u n / 8 := fun p hp => by
    rw [sAl_7] at hp
    by_cases q : p = sAt s u n / 8
    · rw [if_pos q] at hp; omega
    · rw [if_neg q] at hp; exact ⟨hp, q⟩
  have h7k : ∀ p, s 7 p = 2 → sAl s u n c mk 7 p = 2 := fun p hp => by
    rw [sAl_7, if_neg (fun z => s7b (by rw [← z]; exact hp))]; exact hp
  have h70 : ∀ p, s 7 p ≠ 0 → sAl s u n c mk 7 p ≠ 0 := fun p hp => by
    rw [sAl_7]; split
    · decide
    · exact hp
  have h71 : ∀ p, s 7 p = 1 → sAl s u n c mk 7 p = 1 := fun p hp => by
    rw [sAl_7]; split
    · rfl
    · exact hp
  have h3k : ∀ w, s 3 w = 1 → sAl s u n c mk 3 w = 1 := fun w hw => by
    rw [sAl_3]; split
    · rfl
    · exact hw
  have pp : ∀ q, ptr s G q → ptr (sAl s u n c mk) (gA G add (sAt s u n)) q := by
    intro q hq
    rcases hq with hq | ⟨hc, hq⟩
    · exact Or.inl hq
    · refine Or.inr ⟨⟨hc.1, ?_, ?_, ?_⟩, by rw [ew]; exact Or.inl hq⟩
      · rw [e14, e16]; exact hc.2.1
      · rw [e14, e15]; exact fun a b => h3k _ (hc.2.2.1 a b)
      · rw [e14]; exact fun a b z => hc.2.2.2 a b (h7n _ z).1
  have hfl : ∀ w, w < 64 → 1000 ≤ s 1 w → ∀ P : Int → Prop, fld s P w → fld (sAl s u n c mk) P w := fun w hw hh P hF j j1 j2 => by
    rw [hd w (by omega)] at j2
    have := l.2.1 w hw hh j j1 j2
    rw [hd (w + j) (by omega)]
    exact hF j j1 j2
  have pf : ∀ w, w < 64 → 1000 ≤ s 1 w → fld s (ptr s G) w → fld (sAl s u n c mk) (ptr (sAl s u n c mk) (gA G add (sAt s u n))) w := fun w hw hh hF =>
    hfl w hw hh _ (fun j j1 j2 => pp _ (hF j j1 j2))
  have hb1 : sAl s u n c mk 1 (sAt s u n) = 999 + n := by
    rw [sAl_1, if_pos (by omega), show sAt s u n - sAt s u n = 0 by omega, hc.1]
  have hbj : ∀ j, 1 ≤ j → j < n → sAl s u n c mk 1 (sAt s u n + j) = c j := fun j j1 j2 => by
    rw [sAl_1, if_pos (by omega), show sAt s u n + j - sAt s u n = j by omega]
  refine ⟨⟨o', l', ?_, ⟨?_, ?_, ?_, ?_, ?_, ?_, ?_, ?_, ?_, ?_, ?_, ?_, ?_, ?_, ?_⟩, ?_⟩, pp⟩
  · intro z x hx
    rw [e14] at z
    rw [f2']
    exact fun y => h7k _ (f2 z x hx y)
  · intro w hw
    rcases hw with hw | hw
    · have := g1 w hw
      exact ⟨this.1, by rw [hd w (by omega)]; exact this.2.1, h70 _ this.2.2⟩
    · rw [hw.2, hb1, sAl_7, if_pos rfl]
      exact ⟨by omega, by omega, by decide⟩
  · intro r hr; rw [f8]; exact pp _ (g2 r hr)
  · intro w hw
    rcases hw with hw | hw
    · have := g1 w hw
      exact pf w this.1 this.2.1 (g3 w hw)
    · rw [hw.2]
      intro j j1 j2
      rw [hb1] at j2
      rw [hbj j j1 (by omega)]
      exact pp _ (h3 hw.1 j j1 (by omega))
  · intro t ht h10; rw [f10] at h10; rw [f11]; exact pp _ (g4 t ht h10)
  · intro t ht h10 h12
    rw [f10] at h10; rw [f12] at h12
    have q := g5 t ht h10 h12
    have oc := o.c ht
    rw [e14, f11, f12, eg]
    refine ⟨q.1, ⟨by rw [hd _ (by omega)]; exact q.2.1.1, ?_, h71 _ q.2.1.2.2⟩, pf _ (by omega) q.2.1.1 q.2.2.1, q.2.2.2⟩
    rw [sAl_3, if_neg (fun z => by have := (fr _ (by omega) (show (s 12 t).toNat < _ by omega)).1; omega)]
    exact q.2.1.2.1
  · unfold G6; rw [f10, f12]; exact g6
  · intro t ht h10 hn
    rw [f10] at h10; rw [f12]
    have n1 := hn.1
    have n2 := hn.2
    rw [eg, f11] at n1
    rw [f11, ew] at n2
    obtain ⟨y1, y2, y3⟩ := n2
    rw [e14] at y1
    rw [f2'] at y3
    exact g7 t ht h10 ⟨n1, y1, (h7n _ y2).1, y3⟩
  · intro z w hw hm
    rw [e14] at z
    rw [sAl_3] at hm
    by_cases q : w = sAt s u n ∧ mk = true
    · refine ⟨Or.inr ⟨h1 q.2, q.1⟩, Or.inr (Or.inl ?_)⟩
      rw [q.1, eg]
      intro j j1 j2
      rw [hb1] at j2
      rw [hbj j j1 (by omega)]
      exact h4 z q.2 j j1 (by omega)
    · rw [if_neg q] at hm
      have y := g8 z w hw hm
      have y1 := g1 w y.1
      refine ⟨Or.inl y.1, y.2.elim (fun q => Or.inl ?_) (fun q => q.elim (fun q => Or.inr (Or.inl (by rw [eg]; exact hfl w hw y1.2.1 _ q))) (fun q => Or.inr (Or.inr q)))⟩
      unfold onS
      rw [e13, f4]
      exact q
  · intro z i hi
    rw [e14] at z
    rw [e13] at hi
    rw [f4]
    have y := g9 z i hi
    exact ⟨Or.inl y.1, h3k _ y.2⟩
  · intro z
    rw [e14] at z
    rw [e13]
    have y := g10 z
    have := sm_le (f := s 3) (g := sAl s u n c mk 3) 64 (fun i hi => by
      rw [sAl_3]
      have := o.m hi
      split <;> omega)
    omega
  · intro z w hw
    rw [e14] at z
    rw [f2']
    rcases hw with hw | hw
    · have y := g11 z w hw
      exact ⟨h3k w y.1, y.2⟩
    · rw [hw.2, sAl_3, if_pos ⟨rfl, h2 z hw.1⟩]
      refine ⟨rfl, ?_⟩
      by_cases q : s 2 (sAt s u n) = -1
      · exact q
      · exact absurd (f2 z _ (by omega) q) s7b
  · intro z w hw h3' h2'
    rw [e14] at z
    rw [f2'] at h2'
    rw [sAl_3] at h3'
    by_cases q : w = sAt s u n ∧ mk = true
    · exact Or.inr ⟨h1 q.2, q.1⟩
    · rw [if_neg q] at h3'
      exact Or.inl (g12 z w hw h3' h2')
  · intro z x hx y
    rw [e14] at z
    rw [f2'] at y ⊢
    exact fun q => g13 z x hx y (h7n _ q).1
  · unfold G14; rw [e14, e15, e16]; exact g14
  · intro z p hp
    rw [e14] at z
    exact fun q => g15 z p hp (h7n _ q).1
  · intro r hr; rw [eg, f8]; exact rg r hr
/-- an object is moved -/
theorem In.move {s : hs} {G e : Nat → Prop} {k a : Nat} (h : In s G e k) (hm : sMust s a) (ha : G a) (hr : sRoom s 1 (sSz s a)) : ∃ G', In (sMove s a) G' e k ∧ (∀ q, ptr s G q → ptr (sMove s a) G' q) ∧ G' (sAt s 1 (sSz s a)) ∧ (∀ x, s 1 x ≠ -2 → sMove s a 1 x = s 1 x) := by
  have hin := h
  obtain ⟨o, l, f2, ⟨g1, g2, g3, g4, g5, g6, g7, g8, g9, g10, g11, g12, g13, g14, g15⟩, rg⟩ := h
  obtain ⟨a64, ah, _⟩ := g1 a ha
  obtain ⟨n, b, hn, m1, m2, m3, m4, m5, m6, m7, m8, m9, _, _, _, _, m10, m11⟩ := move_facts o l a64 ah hr
  have al := copy_al o l (u := 1) (n := n) (a := a) (by omega) hn m7
  have fresh := @give_fresh s o l 1 n (by omega) hn m7
  obtain ⟨p8, bb, _, d1, d2, d3, ee, ff⟩ := give_facts o l (show 1 < 2 by omega) hn m7
  have hc : nwOk n (fun j => s 1 (a + j)) := ⟨by simpa using m1, fun j j1 j2 => by
    have := l.2.1 a a64 ah j j1 (by omega)
    exact this⟩
  obtain ⟨i1, i2⟩ := hin.al (u := 1) (by omega) hn m7 hc false False (by simp) (by simp) (by simp) (by simp)
  rw [← al, m4] at i1 i2
  rw [m4] at al bb ee ff d3
  have em : sMove s a = sTell (sCopy (sGive s 1 n) a b n) a b := by unfold sMove; rw [m2, m4]
  rw [em, m2, m4]
  have q1 : ∀ i, (sCopy (sGive s 1 n) a b n) 1 i = if b ≤ i ∧ i < b + n then s 1 (a + (i - b)) else s 1 i := fun i => by
    rw [al, sAl_1, m4]
  have q3 : ∀ i, (sCopy (sGive s 1 n) a b n) 3 i = s 3 i := fun i => by
    rw [al, sAl_3, if_neg (by simp)]
  have q7 : ∀ i, (sCopy (sGive s 1 n) a b n) 7 i = if i = b / 8 then 1 else s 7 i := fun i => by
    rw [al, sAl_7, m4]
  have qk : ∀ k i, k ≠ 1 → k ≠ 3 → k ≠ 5 → k ≠ 6 → k ≠ 7 → k ≠ 9 → (sCopy (sGive s 1 n) a b n) k i = s k i := fun k i a1 a3 a5 a6 a7 a9 => by
    rw [al, sAl_k i a1 a3 a5 a6 a7 a9]
  have fr : ∀ i, b ≤ i → i < b + n → s 1 i = -2 ∧ s 3 i = 0 := fun i h1 h2 => fresh (by rw [m4]; exact h1) (by omega)
  have mm : sMust (sCopy (sGive s 1 n) a b n) a := by
    refine ⟨?_, ?_, ?_⟩
    · rw [qk 0 14 (by decide) (by decide) (by decide) (by decide) (by decide) (by decide)]; exact hm.1
    · rw [q7, if_neg (fun z => m9 (by rw [← z]; exact hm.2.1))]; exact hm.2.1
    · rw [qk 2 a (by decide) (by decide) (by decide) (by decide) (by decide) (by decide)]; exact hm.2.2
  have t := In.tell (a := a) (b := b) i1 mm (Or.inl ha) (by omega) (by
      rw [q1, if_pos (by omega), show a + (b - b) = a by omega]; exact ah) (by rw [q3]; exact (fr b (by omega) (by omega)).2) (by rw [q7, if_pos rfl]) (fun j j1 j2 => by
      rw [q1, if_pos (by omega), show a + (b - b) = a by omega] at j2
      rw [q1, if_pos (by omega), show a + (b + j - b) = a + j by omega]
      exact i2 _ (g3 a ha j j1 j2)) (fun t ht h10 h12 => by
      rw [qk 10 t (by decide) (by decide) (by decide) (by decide) (by decide) (by decide)] at h10
      rw [qk 12 t (by decide) (by decide) (by decide) (by decide) (by decide) (by decide)] at h12 ⊢
      intro q
      have := (g5 t ht h10 h12).2.1.1
      rw [q, Int.toNat_natCast] at this
      have := (fr b (by omega) (by omega)).1
      omega)
  refine ⟨_, t.1, fun q hq => t.2 _ (i2 q hq), Or.inr rfl, fun x hx => ?_⟩
  rw [sTell_k x (by decide) (by decide) (by decide) (by decide), q1, if_neg (fun z => hx (fr x z.1 z.2).1)]
/-- a good pointer to an object is of use -/
theorem ptr.mk {s : hs} {G : Nat → Prop} (o : Ok s) (g14 : G14 s) {w : Nat} (hw : w < 64) (hg : G w) (h1 : s 0 14 = 1 → s 3 w = 1) (h2 : s 0 14 = 2 → s 7 (w / 8) ≠ 2) : ptr s G (s 0 15 * 64 + w) ∧ sGood s (s 0 15 * 64 + w) ∧ -1 ≤ s 0 15 * 64 + w ∧ s 0 15 * 64 + w ≤ 191 := by
  have og := o.good
  have d : (s 0 15 * 64 + w) / 64 = s 0 15 := by omega
  have m : ((s 0 15 * 64 + w) % 64).toNat = w := by omega
  refine ⟨Or.inr ⟨⟨by omega, ?_, ?_, ?_⟩, ?_⟩, Or.inr d, by omega, by omega⟩
  · intro z; rw [d]; exact Or.inr (g14.2 z)
  · intro z _; rw [m]; exact h1 z
  · intro z _; rw [m]; exact h2 z
  · unfold sWh; rw [if_pos (Or.inl d), m]; exact hg
theorem In.mend {s : hs} {G e : Nat → Prop} {k : Nat} (h : In s G e k) {p : Int} (hp : ptr s G p) : ∃ G', In (sMend s p) G' e k ∧ (∀ q, ptr s G q → ptr (sMend s p) G' q) ∧ (sMendV s p ≠ -2 → ptr (sMend s p) G' (sMendV s p) ∧ sGood (sMend s p) (sMendV s p) ∧ -1 ≤ sMendV s p ∧ sMendV s p ≤ 191) ∧ (∀ x, s 1 x ≠ -2 → sMend s p 1 x = s 1 x) := by
  have hin := h
  obtain ⟨o, l, f2, g, rg⟩ := h
  have hmp := ptr.mp o g hp
  obtain ⟨g1, g2, g3, g4, g5, g6, g7, g8, g9, g10, g11, g12, g13, g14, g15⟩ := g
  by_cases cg : sGood s p
  · have e1 : sMend s p = s := by unfold sMend; rw [if_pos cg]
    have e2 : sMendV s p = p := by unfold sMendV; rw [if_pos cg]
    rw [e1, e2]
    exact ⟨G, hin, fun q hq => hq, fun _ => ⟨hp, cg, hmp.1, hmp.2.1⟩, fun _ _ => rfl⟩
  rcases hp with hp | ⟨hc, hg⟩
  · exact absurd (Or.inl hp) cg
  have w64 := (g1 _ hg).1
  by_cases c1 : s 0 14 = 1
  · have e1 : sMend s p = sPush s (sWh s p) := by unfold sMend; rw [if_neg cg, if_pos c1]
    have e2 : sMendV s p = s 0 15 * 64 + sWh s p := by unfold sMendV; rw [if_neg cg, if_pos c1]
    obtain ⟨i1, i2, i3⟩ := hin.push c1 hg
    have es : ∀ i, i ≠ 13 → sPush s (sWh s p) 0 i = s 0 i := fun i hi => by
      unfold sPush; split
      · rw [up2_ap, if_neg (fun z => hi z.2), up2_ap, if_neg (by omega), sMark_k i (by decide) (by decide)]
      · rfl
    have es1 : ∀ i, sPush s (sWh s p) 1 i = s 1 i := fun i => by
      unfold sPush; split
      · rw [up2_ap, if_neg (by omega), up2_ap, if_neg (by omega), sMark_k i (by decide) (by decide)]
      · rfl
    rw [e1, e2]
    refine ⟨G, i1, i3, fun _ => ?_, fun x _ => es1 x⟩
    have := ptr.mk (s := sPush s (sWh s p)) (G := G) i1.1 i1.2.2.2.1.2.2.2.2.2.2.2.2.2.2.2.2.2.1 w64 hg (fun _ => i2) (fun z => by rw [es 14 (by decide)] at z; omega)
    rw [es 15 (by decide)] at this
    exact this
  · by_cases cn : sMust s (sWh s p)
    · by_cases cr : sRoom s 1 (sSz s (sWh s p))
      · have e1 : sMend s p = sMove s (sWh s p) := by unfold sMend; rw [if_neg cg, if_neg c1, if_pos cn, if_pos cr]
        have e2 : sMendV s p = s 0 15 * 64 + sAt s 1 (sSz s (sWh s p)) := by unfold sMendV; rw [if_neg cg, if_neg c1, if_pos cn, if_pos cr]
        obtain ⟨G', i1, i2, i3, i4⟩ := hin.move cn hg cr
        obtain ⟨n, b, hn, m1, m2, m3, m4, m5, m6, m7, m8, m9, _, _, _, _, m10, m11⟩ := move_facts o l w64 (g1 _ hg).2.1 cr
        rw [e1, e2]
        refine ⟨G', i1, i2, fun _ => ?_, i4⟩
        have g' := i1.2.2.2.1
        have := ptr.mk (s := sMove s (sWh s p)) (G := G') i1.1 g'.2.2.2.2.2.2.2.2.2.2.2.2.2.1 (g'.1 _ i3).1 i3 (fun z => by rw [sMove_0] at z; omega) (fun z => by
          have y := g'.2.2.2.2.2.2.2.2.2.2.1 z _ i3
          intro q
          have l' := i1.2.1
          rw [m2, m4] at q
          have : sMove s (sWh s p) 7 (b / 8) = 1 := by
            unfold sMove
            rw [sTell_k _ (by decide) (by decide) (by decide) (by decide), m2, m4, ← m4, copy_al o l (by omega) hn m7, sAl_7, if_pos rfl]
          omega)
        rw [sMove_0] at this
        exact this
      · have e1 : sMend s p = s := by unfold sMend; rw [if_neg cg, if_neg c1, if_pos cn, if_neg cr]
        have e2 : sMendV s p = -2 := by unfold sMendV; rw [if_neg cg, if_neg c1, if_pos cn, if_neg cr]
        rw [e1, e2]
        exact ⟨G, hin, fun q hq => hq, fun z => absurd rfl z, fun _ _ => rfl⟩
    · have e1 : sMend s p = s := by unfold sMend; rw [if_neg cg, if_neg c1, if_neg cn]
      have e2 : sMendV s p = s 0 15 * 64 + sWh s p := by unfold sMendV; rw [if_neg cg, if_neg c1, if_neg cn]
      rw [e1, e2]
      refine ⟨G, hin, fun q hq => hq, fun _ => ?_, fun _ _ => rfl⟩
      exact ptr.mk o g14 w64 hg (fun z => absurd z c1) (fun z q => cn ⟨z, q, (g11 z _ hg).2⟩)
