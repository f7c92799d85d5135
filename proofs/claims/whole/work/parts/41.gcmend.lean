/-! what is safe stays so: marking, moving, mending -/
theorem mark_lay {s : hs} (o : Ok s) (l : Lay s) {w : Nat} (hw : w < 64) (hh : 1000 ≤ s 1 w) (h0 : s 3 w = 0) : Lay (up2 (up2 s 3 w 1) 5 (w / 8) (s 5 (w / 8) + (s 1 w - 999))) := by
  obtain ⟨l1, l2, l3, l4, l5, l6, l7⟩ := l
  have e3 : ∀ i, (up2 (up2 s 3 w 1) 5 (w / 8) (s 5 (w / 8) + (s 1 w - 999))) 3 i = if i = w then 1 else s 3 i := fun i => by
    rw [up2_ap, if_neg (by omega), up2_ap]
    by_cases c : i = w
    · rw [if_pos ⟨rfl, c⟩, if_pos c]
    · rw [if_neg (fun z => c z.2), if_neg c]
  refine ⟨l1, l2, ?_, ?_, l5, l6, ?_⟩
  · intro x hx hu
    have q := l3 x hx hu
    refine ⟨q.1, ?_⟩
    rw [e3, if_neg (fun c => by subst c; have : s 1 x = -2 := q.1; omega)]
    exact q.2
  · intro x hx hm
    rw [e3] at hm
    by_cases c : x = w
    · subst c; exact hh
    · rw [if_neg c] at hm; exact l4 x hx hm
  · intro p hp
    have up := sLv_up2 (s := s) (t := up2 (up2 s 3 w 1) 5 (w / 8) (s 5 (w / 8) + (s 1 w - 999))) (b := w) (z := s 1 w - 999) (by omega) ⟨by rw [e3, if_pos rfl], hh⟩ rfl (fun i hi => by
      rw [e3, if_neg hi]
      exact ⟨Iff.rfl, fun _ => rfl⟩)
    unfold sLive
    rw [up]
    have := l7 p hp
    unfold sLive at this
    rw [up2_ap]
    by_cases c : p = w / 8
    · rw [if_pos ⟨rfl, c⟩, if_pos (by omega), ← c, this]
    · rw [if_neg (fun z => c z.2), up2_ap, if_neg (by omega), if_neg (by omega), this]; omega
theorem In.push {s : hs} {G e : Nat → Prop} {k w : Nat} (h : In s G e k) (h1 : s 0 14 = 1) (hg : G w) : In (sPush s w) G e k ∧ sPush s w 3 w = 1 ∧ (∀ q, ptr s G q → ptr (sPush s w) G q) := by
  have hin := h
  obtain ⟨o, l, f2, ⟨g1, g2, g3, g4, g5, g6, g7, g8, g9, g10, g11, g12, g13, g14, g15⟩, rg⟩ := h
  obtain ⟨w64, hh, _⟩ := g1 w hg
  have bm := o.m w64
  by_cases c0 : s 3 w = 0
  · have st : s 0 13 < 64 := by
      have a := g10 h1
      have b := sm_room (f := s 3) (n := 64) (fun i hi => (o.m hi).2) w64 c0
      omega
    have os := o.stacked
    have lv := l.live8 o (show w / 8 < 8 by omega)
    have bw := o.w w64
    have e : sPush s w = up2 (up2 (up2 (up2 s 3 w 1) 5 (w / 8) (s 5 (w / 8) + (s 1 w - 999))) 4 (s 0 13).toNat w) 0 13 (s 0 13 + 1) := by
      unfold sPush sMark; rw [if_pos c0, if_pos ⟨c0, hh⟩]
    have l' := mark_lay o l w64 hh c0
    have e3 : ∀ i, sPush s w 3 i = if i = w then 1 else s 3 i := fun i => by
      rw [e, up2_ap, if_neg (by omega), up2_ap, if_neg (by omega), up2_ap, if_neg (by omega), up2_ap]
      by_cases c : i = w
      · rw [if_pos ⟨rfl, c⟩, if_pos c]
      · rw [if_neg (fun z => c z.2), if_neg c]
    have e4 : ∀ i, sPush s w 4 i = if i = (s 0 13).toNat then (w : Int) else s 4 i := fun i => by
      rw [e, up2_ap, if_neg (by omega), up2_ap]
      by_cases c : i = (s 0 13).toNat
      · rw [if_pos ⟨rfl, c⟩, if_pos c]
      · rw [if_neg (fun z => c z.2), if_neg c]; rfl
    have e13 : sPush s w 0 13 = s 0 13 + 1 := by rw [e, up2_ap, if_pos ⟨rfl, rfl⟩]
    have d : ∀ k i, k ≠ 0 → k ≠ 3 → k ≠ 4 → k ≠ 5 → sPush s w k i = s k i := fun k i k0 k3 k4 k5 => by
      rw [e, up2_ap, if_neg (fun z => k0 z.1), up2_ap, if_neg (fun z => k4 z.1), up2_ap, if_neg (fun z => k5 z.1), up2_ap, if_neg (fun z => k3 z.1)]
    have d0 : ∀ i, i ≠ 13 → sPush s w 0 i = s 0 i := fun i hi => by
      rw [e, up2_ap, if_neg (fun z => hi z.2), up2_ap, if_neg (by omega), up2_ap, if_neg (by omega), up2_ap, if_neg (by omega)]
    have e14 := d0 14 (by decide)
    have e15 := d0 15 (by decide)
    have e16 := d0 16 (by decide)
    have f1 : sPush s w 1 = s 1 := funext (fun i => d 1 i (by decide) (by decide) (by decide) (by decide))
    have f2' : sPush s w 2 = s 2 := funext (fun i => d 2 i (by decide) (by decide) (by decide) (by decide))
    have f7 : sPush s w 7 = s 7 := funext (fun i => d 7 i (by decide) (by decide) (by decide) (by decide))
    have f8 : sPush s w 8 = s 8 := funext (fun i => d 8 i (by decide) (by decide) (by decide) (by decide))
    have f10 : sPush s w 10 = s 10 := funext (fun i => d 10 i (by decide) (by decide) (by decide) (by decide))
    have f11 : sPush s w 11 = s 11 := funext (fun i => d 11 i (by decide) (by decide) (by decide) (by decide))
    have f12 : sPush s w 12 = s 12 := funext (fun i => d 12 i (by decide) (by decide) (by decide) (by decide))
    have ew : ∀ p, sWh (sPush s w) p = sWh s p := fun p => sWh_eq e15 (fun i => by rw [f2']) p
    have eg : sGood (sPush s w) = sGood s := by funext p; show (_ ∨ _) = (_ ∨ _); rw [e15]
    have ef : ∀ P w', fld (sPush s w) P w' = fld s P w' := fun P w' => by unfold fld; rw [f1]
    have pp : ∀ q, ptr s G q → ptr (sPush s w) G q := by
      intro q hq
      rcases hq with hq | ⟨hc, hq⟩
      · exact Or.inl hq
      · refine Or.inr ⟨⟨hc.1, ?_, ?_, ?_⟩, by rw [ew]; exact hq⟩
        · rw [e14, e16]; exact hc.2.1
        · rw [e14, e15, e3]
          intro a b
          have := hc.2.2.1 a b
          split <;> omega
        · rw [e14]; intro a; omega
    have pf : ∀ w', fld s (ptr s G) w' → fld (sPush s w) (ptr (sPush s w) G) w' := fun w' hF => by
      rw [ef]; exact fun j j1 j2 => pp _ (hF j j1 j2)
    have hok : Ok (sPush s w) := by
      rw [e]
      refine Ok.up ?_ (by decide) ⟨fun _ => ⟨by omega, by omega⟩, fun q => absurd q (by decide), fun q => absurd q (by decide), fun q => absurd q (by decide), fun q => absurd q (by decide), fun q => absurd q (by decide)⟩
      refine Ok.up ?_ (by decide) ⟨by omega, by omega⟩
      refine Ok.up ?_ (by decide) ⟨by omega, by omega⟩
      exact Ok.up o (by decide) ⟨by omega, by omega⟩
    refine ⟨⟨hok, ?_, ?_, ⟨?_, ?_, ?_, ?_, ?_, ?_, ?_, ?_, ?_, ?_, ?_, ?_, ?_, ?_, ?_⟩, ?_⟩, by rw [e3, if_pos rfl], pp⟩
    · rw [e]; exact l'
    · intro q; rw [e14] at q; omega
    · unfold G1; rw [f1, f7]; exact g1
    · intro r hr; rw [f8]; exact pp _ (g2 r hr)
    · intro w' hw'; exact pf w' (g3 w' hw')
    · intro t ht h10; rw [f10] at h10; rw [f11]; exact pp _ (g4 t ht h10)
    · intro t ht h10 h12
      rw [f10] at h10; rw [f12] at h12
      have := (g5 t ht h10 h12).1
      omega
    · unfold G6; rw [f10, f12]; exact g6
    · intro t ht h10 hn
      have := hn.2.1
      rw [e14] at this; omega
    · intro _ w' hw' hm
      rw [e3] at hm
      by_cases c : w' = w
      · subst c
        exact ⟨hg, Or.inl ⟨(s 0 13).toNat, by rw [e13]; omega, by rw [e4, if_pos rfl]⟩⟩
      · rw [if_neg c] at hm
        have := g8 h1 w' hw' hm
        refine ⟨this.1, this.2.elim (fun q => Or.inl ?_) (fun q => q.elim (fun q => Or.inr (Or.inl (by rw [ef, eg]; exact q))) (fun q => Or.inr (Or.inr q)))⟩
        obtain ⟨i, i1, i2⟩ := q
        exact ⟨i, by rw [e13]; omega, by rw [e4, if_neg (by omega)]; exact i2⟩
    · intro _ i hi
      rw [e13] at hi
      rw [e4, e3]
      by_cases c : i = (s 0 13).toNat
      · rw [if_pos c, Int.toNat_natCast, if_pos rfl]; exact ⟨hg, rfl⟩
      · rw [if_neg c]
        have := g9 h1 i (by omega)
        refine ⟨this.1, ?_⟩
        split
        · rfl
        · exact this.2
    · intro _
      rw [e13]
      have a := g10 h1
      have := sm_up (f := s 3) (g := sPush s w 3) (b := w) (z := 1) (fun i hi => by rw [e3, if_neg hi]) (by rw [e3, if_pos rfl, c0]; rfl) 64
      rw [this, if_pos w64]
      omega
    · intro q; rw [e14] at q; omega
    · intro q; rw [e14] at q; omega
    · intro q; rw [e14] at q; omega
    · unfold G14; rw [e14, e15, e16]; exact g14
    · unfold G15; rw [e14, f7]; exact g15
    · intro r hr; rw [eg, f8]; exact rg r hr
  · have e : sPush s w = s := by unfold sPush; rw [if_neg c0]
    rw [e]
    exact ⟨hin, by omega, fun q hq => hq⟩
/-- a copy is told as forward -/
def gT (G : Nat → Prop) (a b : Nat) (w : Nat) : Prop := (G w ∧ w ≠ a) ∨ w = b
theorem tell_wh {s : hs} {G e : Nat → Prop} {k : Nat} (h : In s G e k) {a b : Nat} (hm : sMust s a) {q : Int} (hc : cOk s q) : sWh (sTell s a b) q = if sWh s q = a then b else sWh s q := by
  obtain ⟨o, l, f2, ⟨g1, g2, g3, g4, g5, g6, g7, g8, g9, g10, g11, g12, g13, g14, g15⟩, rg⟩ := h
  have gd := g14.2 (by rw [hm.1]; decide)
  have hraw : (q % 64).toNat < 64 := by have := hc.1; omega
  have hcol := hc.2.1 (by rw [hm.1]; decide)
  unfold sWh
  rw [sTell_k 15 (by decide) (by decide) (by decide) (by decide), sTell_2]
  by_cases c2 : q / 64 = 2
  · have n7 := hc.2.2.2 hm.1 c2
    rw [if_pos (Or.inr (Or.inl c2)), if_pos (Or.inr (Or.inl c2))]
    rw [if_neg (fun z => n7 (by rw [z]; exact hm.2.1))]
  · have n15 : ¬ q / 64 = s 0 15 := by rw [gd]; exact c2
    by_cases c3 : s 2 (q % 64).toNat = -1
    · rw [if_pos (c := q / 64 = s 0 15 ∨ q / 64 = 2 ∨ s 2 (q % 64).toNat = -1) (Or.inr (Or.inr c3))]
      by_cases c4 : (q % 64).toNat = a
      · rw [if_pos c4, if_pos c4, if_neg (fun z => z.elim n15 (fun z => z.elim c2 (fun z => by omega)))]
        rfl
      · rw [if_neg c4, if_neg c4, if_pos (Or.inr (Or.inr c3))]
    · have c4 : ¬ (q % 64).toNat = a := fun z => c3 (by rw [z]; exact hm.2.2)
      have n := fun z : q / 64 = s 0 15 ∨ q / 64 = 2 ∨ s 2 (q % 64).toNat = -1 => z.elim n15 (fun z => z.elim c2 c3)
      rw [if_neg c4, if_neg n]
      have := g13 hm.1 _ hraw c3
      rw [if_neg (fun z => this (by rw [z]; exact hm.2.1))]
theorem In.tell {s : hs} {G e : Nat → Prop} {k a b : Nat} (h : In s G e k) (hm : sMust s a) (ha : G a) (hb : b < 64) (hh : 1000 ≤ s 1 b) (h3 : s 3 b = 0) (h7 : s 7 (b / 8) = 1) (hf : fld s (ptr s G) b) (hc : ∀ t, t < 2 → s 10 t ≠ -1 → s 12 t ≠ -1 → s 12 t ≠ b) : In (sTell s a b) (gT G a b) e k ∧ (∀ q, ptr s G q → ptr (sTell s a b) (gT G a b) q) := by
  have hin := h
  have wh := @tell_wh s G e k h a b hm
  obtain ⟨o, l, f2, ⟨g1, g2, g3, g4, g5, g6, g7, g8, g9, g10, g11, g12, g13, g14, g15⟩, rg⟩ := h
  have a64 := (g1 a ha).1
  have lv := l.live8 o (show b / 8 < 8 by omega)
  have ab : a ≠ b := fun q => by subst q; have := (g11 hm.1 a ha).1; omega
  have s2b : s 2 b = -1 := by
    by_cases c : s 2 b = -1
    · exact c
    · have := f2 hm.1 b hb c; omega
  have e : sTell s a b = sWr (up2 (up2 (up2 s 2 a b) 3 b 1) 5 (b / 8) (s 5 (b / 8) + (s 1 b - 999))) 4 a := by
    unfold sTell sMark
    rw [if_pos ⟨h3, hh⟩]
    rfl
  have l' := mark_lay (s := up2 s 2 a (b : Int)) (o.up (by decide) ⟨by omega, by omega⟩) l hb hh h3
  have o' : Ok (sTell s a b) := by
    unfold sTell
    have o1 : Ok (up2 s 2 a (b : Int)) := o.up (by decide) ⟨by omega, by omega⟩
    refine Ok_wr (Ok_mark o1 hb ?_) (by omega) (by omega)
    exact lv.2
  have d : ∀ k i, k ≠ 2 → k ≠ 3 → k ≠ 5 → k ≠ 13 → sTell s a b k i = s k i := fun k i k2 k3 k5 k13 => sTell_k i k2 k3 k5 k13
  have e3 : ∀ i, sTell s a b 3 i = if i = b then 1 else s 3 i := fun i => by
    rw [e, sWr_k i (by decide), up2_ap, if_neg (by omega), up2_ap]
    by_cases c : i = b
    · rw [if_pos ⟨rfl, c⟩, if_pos c]
    · rw [if_neg (fun z => c z.2), if_neg c]; rfl
  have e2 : ∀ i, sTell s a b 2 i = if i = a then (b : Int) else s 2 i := fun i => sTell_2 i
  have e14 := d 0 14 (by decide) (by decide) (by decide) (by decide)
  have e15 := d 0 15 (by decide) (by decide) (by decide) (by decide)
  have e16 := d 0 16 (by decide) (by decide) (by decide) (by decide)
  have f1 : sTell s a b 1 = s 1 := funext (fun i => d 1 i (by decide) (by decide) (by decide) (by decide))
  have f7 : sTell s a b 7 = s 7 := funext (fun i => d 7 i (by decide) (by decide) (by decide) (by decide))
  have f8 : sTell s a b 8 = s 8 := funext (fun i => d 8 i (by decide) (by decide) (by decide) (by decide))
  have f10 : sTell s a b 10 = s 10 := funext (fun i => d 10 i (by decide) (by decide) (by decide) (by decide))
  have f11 : sTell s a b 11 = s 11 := funext (fun i => d 11 i (by decide) (by decide) (by decide) (by decide))
  have f12 : sTell s a b 12 = s 12 := funext (fun i => d 12 i (by decide) (by decide) (by decide) (by decide))
  have eg : sGood (sTell s a b) = sGood s := by funext p; show (_ ∨ _) = (_ ∨ _); rw [e15]
  have ef : ∀ P w', fld (sTell s a b) P w' = fld s P w' := fun P w' => by unfold fld; rw [f1]
  have pp : ∀ q, ptr s G q → ptr (sTell s a b) (gT G a b) q := by
    intro q hq
    rcases hq with hq | ⟨hc, hq⟩
    · exact Or.inl hq
    · refine Or.inr ⟨⟨hc.1, ?_, ?_, ?_⟩, ?_⟩
      · rw [e14, e16]; exact hc.2.1
      · intro z; rw [e14, hm.1] at z; exact absurd z (by decide)
      · rw [e14, f7]; exact hc.2.2.2
      · rw [wh hc]
        split
        · exact Or.inr rfl
        · rename_i z; exact Or.inl ⟨hq, z⟩
  have pf : ∀ w', fld s (ptr s G) w' → fld (sTell s a b) (ptr (sTell s a b) (gT G a b)) w' := fun w' hF => by
    rw [ef]; exact fun j j1 j2 => pp _ (hF j j1 j2)
  refine ⟨⟨o', ?_, ?_, ⟨?_, ?_, ?_, ?_, ?_, ?_, ?_, ?_, ?_, ?_, ?_, ?_, ?_, ?_, ?_⟩, ?_⟩, pp⟩
  · rw [e]
    obtain ⟨m1, m2, m3, m4, m5, m6, m7⟩ := l'
    refine ⟨m1, m2, m3, m4, m5, m6, ?_⟩
    intro p hp
    refine (m7 p hp).trans ?_
    unfold sLive
    exact sLv_eq 8 _ (fun i _ _ => ⟨Iff.rfl, fun _ => rfl⟩)
  · intro _ x hx
    rw [e2, f7]
    by_cases c : x = a
    · intro _; rw [c]; exact hm.2.1
    · rw [if_neg c]; exact f2 hm.1 x hx
  · intro w hw
    rw [f1, f7]
    rcases hw with hw | hw
    · exact g1 w hw.1
    · subst hw; exact ⟨hb, hh, by omega⟩
  · intro r hr; rw [f8]; exact pp _ (g2 r hr)
  · intro w hw
    rcases hw with hw | hw
    · exact pf w (g3 w hw.1)
    · subst hw; exact pf w hf
  · intro t ht h10; rw [f10] at h10; rw [f11]; exact pp _ (g4 t ht h10)
  · intro t ht h10 h12
    rw [f10] at h10; rw [f12] at h12
    have q := g5 t ht h10 h12
    have nb := hc t ht h10 h12
    have oc := o.c ht
    rw [e14, f1, f7, f11, f12, eg]
    refine ⟨q.1, ⟨q.2.1.1, ?_, q.2.1.2.2⟩, pf _ q.2.2.1, q.2.2.2⟩
    rw [e3, if_neg (by omega)]
    exact q.2.1.2.1
  · unfold G6; rw [f10, f12]; exact g6
  · intro t ht h10 hn
    rw [f10] at h10; rw [f12]
    have n1 := hn.1
    have n2 := hn.2
    rw [eg, f11] at n1
    rw [f11] at n2
    rcases g4 t ht h10 with q | q
    · exact absurd (Or.inl q) n1
    · refine g7 t ht h10 ⟨n1, ?_⟩
      rw [wh q.1] at n2
      by_cases c : sWh s (s 11 t) = a
      · rw [if_pos c] at n2
        have := n2.2.1
        rw [f7] at this
        omega
      · rw [if_neg c] at n2
        obtain ⟨y1, y2, y3⟩ := n2
        rw [f7] at y2
        rw [e2, if_neg c] at y3
        exact ⟨hm.1, y2, y3⟩
  · intro z; rw [e14, hm.1] at z; exact absurd z (by decide)
  · intro z; rw [e14, hm.1] at z; exact absurd z (by decide)
  · intro z; rw [e14, hm.1] at z; exact absurd z (by decide)
  · intro _ w hw
    rw [e3, e2]
    rcases hw with hw | hw
    · have := g11 hm.1 w hw.1
      rw [if_neg hw.2]
      refine ⟨?_, this.2⟩
      split
      · rfl
      · exact this.1
    · rw [if_pos hw, if_neg (by omega), hw]; exact ⟨rfl, s2b⟩
  · intro _ w hw h3' h2'
    rw [e3] at h3'
    rw [e2] at h2'
    by_cases c : w = a
    · rw [if_pos c] at h2'; omega
    · rw [if_neg c] at h2'
      by_cases c2 : w = b
      · exact Or.inr c2
      · rw [if_neg c2] at h3'
        exact Or.inl ⟨g12 hm.1 w hw h3' h2', c⟩
  · intro _ x hx
    rw [e2, f7]
    by_cases c : x = a
    · intro _; rw [if_pos c, Int.toNat_natCast]; omega
    · rw [if_neg c]; exact g13 hm.1 x hx
  · unfold G14; rw [e14, e15, e16]; exact g14
  · unfold G15; rw [e14, f7]; exact g15
  · intro r hr; rw [eg, f8]; exact rg r hr
