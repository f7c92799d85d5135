/-! threads: the race is decided -/
def sClr (s : hs) (a n : Nat) : hs := fun k i => if k = 1 ∧ a ≤ i ∧ i < a + n then -2 else if k = 3 ∧ a ≤ i ∧ i < a + n then 0 else s k i
theorem sClr_k {s : hs} {a n k : Nat} (i : Nat) (h1 : k ≠ 1) (h3 : k ≠ 3) : sClr s a n k i = s k i := by
  unfold sClr; rw [if_neg (fun z => h1 z.1), if_neg (fun z => h3 z.1)]
theorem sClr_1 {s : hs} {a n : Nat} (i : Nat) : sClr s a n 1 i = if a ≤ i ∧ i < a + n then -2 else s 1 i := by
  unfold sClr
  by_cases q : a ≤ i ∧ i < a + n
  · rw [if_pos ⟨rfl, q⟩, if_pos q]
  · rw [if_neg (fun z => q z.2), if_neg (by omega), if_neg q]
theorem sClr_3 {s : hs} {a n : Nat} (i : Nat) : sClr s a n 3 i = if a ≤ i ∧ i < a + n then 0 else s 3 i := by
  unfold sClr
  rw [if_neg (by omega)]
  by_cases q : a ≤ i ∧ i < a + n
  · rw [if_pos ⟨rfl, q⟩, if_pos q]
  · rw [if_neg (fun z => q z.2), if_neg q]
theorem sClr_0 (s : hs) (a : Nat) : sClr s a 0 = s := by
  funext k i; unfold sClr; rw [if_neg (by omega), if_neg (by omega)]
theorem sClr_up (s : hs) (a n : Nat) : up2 (up2 (sClr s a n) 1 (a + n) (-2)) 3 (a + n) 0 = sClr s a (n + 1) := by
  funext k i
  rw [up2_ap, up2_ap]
  unfold sClr
  by_cases c3 : k = 3 ∧ i = a + n
  · rw [if_pos c3, if_neg (by omega), if_pos (by omega)]
  · rw [if_neg c3]
    by_cases c1 : k = 1 ∧ i = a + n
    · rw [if_pos c1, if_pos (by omega)]
    · rw [if_neg c1]
      by_cases d1 : k = 1 ∧ a ≤ i ∧ i < a + n
      · rw [if_pos d1, if_pos (by omega)]
      · rw [if_neg d1, if_neg (c := k = 1 ∧ a ≤ i ∧ i < a + (n + 1)) (by omega)]
        by_cases d3 : k = 3 ∧ a ≤ i ∧ i < a + n
        · rw [if_pos d3, if_pos (by omega)]
        · rw [if_neg d3, if_neg (by omega)]
theorem x_clear_loop {u : Nat} {b : Int32} {a n : Nat} (s : hs) (hb : b.toInt = ((a + n : Nat) : Int)) (hn : a + n ≤ 64) : ∀ (d j f : Nat), j + d = n → d < f → ∀ (M : xm) (x : Int32), RX u M (sClr s a j) → x.toInt = ((a + j : Nat) : Int) → ∃ M', g_X1_clearWords_6 u b f M x = some M' ∧ RX u M' (sClr s a n) ∧ frX u M M' := by
  intro d
  induction d with
  | zero =>
    intro j f hj hf M x h hx
    obtain ⟨f, rfl⟩ : ∃ q, f = q + 1 := ⟨f - 1, by omega⟩
    unfold g_X1_clearWords_6
    rw [if_pos (by rw [i_le, hb, hx]; omega)]
    exact ⟨M, rfl, by rw [show j = n by omega] at h; exact h, frX.rfl⟩
  | succ d ih =>
    intro j f hj hf M x h hx
    obtain ⟨f, rfl⟩ : ∃ q, f = q + 1 := ⟨f - 1, by omega⟩
    unfold g_X1_clearWords_6
    rw [if_neg (by rw [i_le, hb, hx]; omega), if_neg (by rw [i_le, hx]; simp only [Int32.reduceToInt]; omega), if_pos (i_in hx (by omega)), i_ix hx, xlet_eq, xlet_eq, xlet_eq]
    have h1 : RX u (up2 (up2 M (u + 1) (a + j) (-2)) (u + 3) (a + j) 0) (up2 (up2 (sClr s a j) 1 (a + j) (-2)) 3 (a + j) 0) := (h.up (by decide) rfl).up (by decide) rfl
    rw [sClr_up] at h1
    obtain ⟨M', k1, k2, k3⟩ := ih (j + 1) f (by omega) (by omega) _ (x + 1) h1 (by rw [i_add hx (b := 1) rfl (by omega) (by omega)]; omega)
    exact ⟨M', k1, k2, frX.tr (frX.tr (frX.up (by decide)) (frX.up (by decide))) k3⟩
theorem x_clearWords {u : Nat} {M : xm} {s : hs} (h : RX u M s) {a b : Int32} {x n : Nat} (ha : a.toInt = (x : Int)) (hb : b.toInt = ((x + n : Nat) : Int)) (hn : x + n ≤ 64) : ∃ M', f_X1_clearWords u M a b = some M' ∧ RX u M' (sClr s x n) ∧ frX u M M' := by
  obtain ⟨M', k1, k2, k3⟩ := x_clear_loop s hb hn n 0 xfuel (by omega) (by unfold xfuel; omega) M a (by rw [sClr_0]; exact h) (by rw [ha]; omega)
  unfold f_X1_clearWords
  have e : xmax a 0 = a := by
    show (if a < 0 then 0 else a) = a
    rw [if_neg (by rw [i_lt, ha]; simp only [Int32.reduceToInt]; omega)]
  rw [e, xlet_eq, k1, xb1_some]
  exact ⟨M', rfl, k2, k3⟩
def sSettle (s : hs) (p c : Int) : hs := if c = -1 then s else if sMust s (sWh s p) then sTell s (sWh s p) c.toNat else if c + sSz s c.toNat = 8 * (c / 8) + s 6 (c / 8).toNat then sClr (up2 s 6 (c / 8).toNat (s 6 (c / 8).toNat - sSz s c.toNat)) c.toNat (sSz s c.toNat) else s
theorem tell_setT (s : hs) (t a b : Nat) (w p c : Int) : sSetT (sTell s a b) t w p c = sTell (sSetT s t w p c) a b := by
  funext k i
  by_cases h10 : k = 10
  · subst h10
    rw [sSetT_10, sTell_k i (by decide) (by decide) (by decide) (by decide), sTell_k i (by decide) (by decide) (by decide) (by decide), sSetT_10]
  · by_cases h11 : k = 11
    · subst h11
      rw [sSetT_11, sTell_k i (by decide) (by decide) (by decide) (by decide), sTell_k i (by decide) (by decide) (by decide) (by decide), sSetT_11]
    · by_cases h12 : k = 12
      · subst h12
        rw [sSetT_12, sTell_k i (by decide) (by decide) (by decide) (by decide), sTell_k i (by decide) (by decide) (by decide) (by decide), sSetT_12]
      · rw [sSetT_k i h10 h11 h12]
        have e : ∀ k i, k ≠ 10 → k ≠ 11 → k ≠ 12 → sSetT s t w p c k i = s k i := fun k i a b c => sSetT_k i a b c
        unfold sTell sMark
        by_cases q : (up2 s 2 a (b : Int)) 3 b = 0 ∧ 1000 ≤ (up2 s 2 a (b : Int)) 1 b
        · rw [if_pos q, if_pos (show (up2 (sSetT s t w p c) 2 a (b : Int)) 3 b = 0 ∧ 1000 ≤ (up2 (sSetT s t w p c) 2 a (b : Int)) 1 b from q)]
          simp only [sWr, up2_ap, e k _ h10 h11 h12, e 13 _ (by decide) (by decide) (by decide), e 0 _ (by decide) (by decide) (by decide), e 5 _ (by decide) (by decide) (by decide), e 1 _ (by decide) (by decide) (by decide)]
        · rw [if_neg q, if_neg (show ¬ ((up2 (sSetT s t w p c) 2 a (b : Int)) 3 b = 0 ∧ 1000 ≤ (up2 (sSetT s t w p c) 2 a (b : Int)) 1 b) from q)]
          simp only [sWr, up2_ap, e k _ h10 h11 h12, e 13 _ (by decide) (by decide) (by decide), e 0 _ (by decide) (by decide) (by decide)]
theorem settle_setT (s : hs) (t : Nat) (p c w' p' c' : Int) : sSetT (sSettle s p c) t w' p' c' = sSettle (sSetT s t w' p' c') p c := by
  unfold sSettle
  by_cases c1 : c = -1
  · rw [if_pos c1, if_pos c1]
  · rw [if_neg c1, if_neg c1]
    by_cases c2 : sMust s (sWh s p)
    · rw [if_pos c2, if_pos (show sMust (sSetT s t w' p' c') (sWh (sSetT s t w' p' c') p) from c2)]
      exact tell_setT s t (sWh s p) c.toNat w' p' c'
    · rw [if_neg c2, if_neg (show ¬ sMust (sSetT s t w' p' c') (sWh (sSetT s t w' p' c') p) from c2)]
      by_cases c3 : c + sSz s c.toNat = 8 * (c / 8) + s 6 (c / 8).toNat
      · rw [if_pos c3, if_pos (show c + sSz (sSetT s t w' p' c') c.toNat = 8 * (c / 8) + (sSetT s t w' p' c') 6 (c / 8).toNat from c3)]
        show sSetT (sClr (up2 s 6 (c / 8).toNat (s 6 (c / 8).toNat - sSz s c.toNat)) c.toNat (sSz s c.toNat)) t w' p' c' = sClr (up2 (sSetT s t w' p' c') 6 (c / 8).toNat (s 6 (c / 8).toNat - sSz s c.toNat)) c.toNat (sSz s c.toNat)
        funext k i
        simp only [sSetT, sClr, up2_ap]
        by_cases h10 : k = 10
        · subst h10; simp
        · by_cases h11 : k = 11
          · subst h11; simp
          · by_cases h12 : k = 12
            · subst h12; simp
            · simp [h10, h11, h12]
      · rw [if_neg c3, if_neg (show ¬ (c + sSz (sSetT s t w' p' c') c.toNat = 8 * (c / 8) + (sSetT s t w' p' c') 6 (c / 8).toNat) from c3)]
/-- objects don't lie over one another -/
theorem apart {s : hs} (o : Ok s) (l : Lay s) {c w n m : Nat} (hc : c < 64) (hw : w < 64) (h1 : s 1 c = 999 + n) (h2 : s 1 w = 999 + m) (hn : 1 ≤ n) (hm : 1 ≤ m) (hne : w ≠ c) : w + m ≤ c ∨ c + n ≤ w := by
  have a1 := l.2.1 c hc (by omega)
  have a2 := l.2.1 w hw (by omega)
  by_cases q : w < c
  · by_cases q2 : w + m ≤ c
    · exact Or.inl q2
    · have := a2 (c - w) (by omega) (by omega)
      rw [show w + (c - w) = c by omega] at this
      omega
  · by_cases q2 : c + n ≤ w
    · exact Or.inr q2
    · have := a1 (w - c) (by omega) (by omega)
      rw [show c + (w - c) = w by omega] at this
      omega
theorem In.ung {s : hs} {G e : Nat → Prop} {k c n : Nat} (h : In s G e k) (h2 : s 0 14 = 2) (hc : c < 64) (hn : 1 ≤ n ∧ n ≤ 4) (h1 : s 1 c = 999 + n) (h3 : s 3 c = 0) (h7 : s 7 (c / 8) = 1) (hl : ((c % 8 : Nat) : Int) + n = s 6 (c / 8)) (hx : ∀ t, t < 2 → s 10 t ≠ -1 → s 12 t ≠ -1 → s 12 t ≠ c) : In (sClr (up2 s 6 (c / 8) (s 6 (c / 8) - n)) c n) G e k := by
  obtain ⟨o, l, f2, ⟨g1, g2, g3, g4, g5, g6, g7, g8, g9, g10, g11, g12, g13, g14, g15⟩, rg⟩ := h
  have u6 := o.u (show c / 8 < 8 by omega)
  have ap : ∀ w, w < 64 → 1000 ≤ s 1 w → w ≠ c → (w : Int) + (s 1 w - 999) ≤ c ∨ c + n ≤ w := fun w hw hh hne => by
    obtain ⟨m, hm, e1, e2, e3, e4⟩ := head_n o l hw hh
    have := apart o l hc hw h1 e1 hn.1 hm.1 hne
    omega
  have mk : ∀ i, c ≤ i → i < c + n → s 3 i = 0 := fun i i1 i2 => by
    by_cases q : i = c
    · rw [q]; exact h3
    · have a1 := l.2.1 c hc (by omega) (i - c) (by omega) (by omega)
      rw [show c + (i - c) = i by omega] at a1
      have b := o.m (show i < 64 by omega)
      have l4 := l.2.2.2.1 i (by omega)
      omega
  have e1 : ∀ i, sClr (up2 s 6 (c / 8) (s 6 (c / 8) - n)) c n 1 i = if c ≤ i ∧ i < c + n then -2 else s 1 i := fun i => sClr_1 i
  have e3 : ∀ i, sClr (up2 s 6 (c / 8) (s 6 (c / 8) - n)) c n 3 i = s 3 i := fun i => by
    rw [sClr_3]
    by_cases q : c ≤ i ∧ i < c + n
    · rw [if_pos q, mk i q.1 q.2]
    · rw [if_neg q]; rfl
  have e6 : ∀ p, sClr (up2 s 6 (c / 8) (s 6 (c / 8) - n)) c n 6 p = if p = c / 8 then s 6 (c / 8) - n else s 6 p := fun p => by
    rw [sClr_k p (by decide) (by decide), up2_ap]
    by_cases q : p = c / 8
    · rw [if_pos ⟨rfl, q⟩, if_pos q]
    · rw [if_neg (fun z => q z.2), if_neg q]
  have ek : ∀ k i, k ≠ 1 → k ≠ 3 → k ≠ 6 → sClr (up2 s 6 (c / 8) (s 6 (c / 8) - n)) c n k i = s k i := fun k i k1 k3 k6 => by
    rw [sClr_k i k1 k3, up2_ap, if_neg (fun z => k6 z.1)]
  have f3 : sClr (up2 s 6 (c / 8) (s 6 (c / 8) - n)) c n 3 = s 3 := funext e3
  have hd : ∀ w, w < 64 → 1000 ≤ s 1 w → w ≠ c → sClr (up2 s 6 (c / 8) (s 6 (c / 8) - n)) c n 1 w = s 1 w := fun w hw hh hne => by
    have := ap w hw hh hne
    rw [e1, if_neg (by omega)]
  have hd' : ∀ w, 1000 ≤ sClr (up2 s 6 (c / 8) (s 6 (c / 8) - n)) c n 1 w → 1000 ≤ s 1 w ∧ w ≠ c := fun w q => by
    rw [e1] at q
    by_cases z : c ≤ w ∧ w < c + n
    · rw [if_pos z] at q; omega
    · rw [if_neg z] at q; exact ⟨q, by omega⟩
  have gc : ∀ w, G w → w < 64 ∧ 1000 ≤ s 1 w ∧ w ≠ c := fun w hw => by
    have a := g1 w hw
    refine ⟨a.1, a.2.1, fun q => ?_⟩
    have := (g11 h2 w hw).1
    rw [q] at this; omega
  have ef : ∀ (P : Int → Prop) w, w < 64 → 1000 ≤ s 1 w → w ≠ c → fld s P w → fld (sClr (up2 s 6 (c / 8) (s 6 (c / 8) - n)) c n) P w := fun P w hw hh hne hF j j1 j2 => by
    rw [hd w hw hh hne] at j2
    have := ap w hw hh hne
    rw [e1, if_neg (by omega)]
    exact hF j j1 j2
  have ep : ptr (sClr (up2 s 6 (c / 8) (s 6 (c / 8) - n)) c n) G = ptr s G := by
    funext p
    unfold ptr cOk
    rw [f3]
    rfl
  have hok : Ok (sClr (up2 s 6 (c / 8) (s 6 (c / 8) - n)) c n) := by
    refine ⟨fun k i hd => ?_, ?_, fun j hj => ?_⟩
    · by_cases k1 : k = 1
      · subst k1; rw [e1]
        split
        · exact ⟨by omega, by omega⟩
        · exact o.1 1 i hd
      · by_cases k3 : k = 3
        · subst k3; rw [e3]; exact o.1 3 i hd
        · by_cases k6 : k = 6
          · subst k6; rw [e6]
            split
            · exact ⟨by omega, by omega⟩
            · exact o.1 6 i hd
          · rw [ek k i k1 k3 k6]; exact o.1 k i hd
    · rw [ek 13 0 (by decide) (by decide) (by decide)]; exact o.2.1
    · rw [ek 13 0 (by decide) (by decide) (by decide)] at hj
      rw [ek 13 _ (by decide) (by decide) (by decide), ek 13 _ (by decide) (by decide) (by decide), ek 13 _ (by decide) (by decide) (by decide)]
      exact o.2.2 j hj
  obtain ⟨l1, l2, l3, l4, l5, l6, l7⟩ := l
  refine ⟨hok, ⟨?_, ?_, ?_, ?_, ?_, l6, ?_⟩, f2, ⟨?_, ?_, ?_, ?_, ?_, g6, g7, ?_, ?_, ?_, ?_, ?_, g13, g14, g15⟩, rg⟩
  · intro w hw hh
    have := hd' w hh
    rw [hd w hw this.1 this.2, e6]
    have a := ap w hw this.1 this.2
    have b := l1 w hw this.1
    by_cases q : w / 8 = c / 8
    · rw [if_pos q]; rw [q] at b; omega
    · rw [if_neg q]; exact b
  · intro w hw hh j j1 j2
    have := hd' w hh
    rw [hd w hw this.1 this.2] at j2
    have a := ap w hw this.1 this.2
    rw [e1, if_neg (by omega)]
    exact l2 w hw this.1 j j1 j2
  · intro w hw hu
    rw [e6] at hu
    rw [e1, e3]
    by_cases q : c ≤ w ∧ w < c + n
    · rw [if_pos q]; exact ⟨rfl, mk w q.1 q.2⟩
    · rw [if_neg q]
      by_cases q2 : w / 8 = c / 8
      · rw [if_pos q2] at hu
        exact l3 w hw (by rw [q2]; omega)
      · rw [if_neg q2] at hu
        exact l3 w hw hu
  · intro w hw hm
    rw [e3] at hm
    have a := l4 w hw hm
    rw [hd w hw a (fun q => by rw [q] at hm; omega)]
    exact a
  · intro p hp h0
    have h0 : s 7 p = 0 := h0
    rw [e6, if_neg (fun q => by rw [q] at h0; omega)]
    exact l5 p hp h0
  · intro p hp
    show s 5 p = _
    rw [l7 p hp]
    unfold sLive
    refine sLv_eq 8 _ (fun i _ _ => ?_)
    rw [e3, e1]
    by_cases q : c ≤ i ∧ i < c + n
    · rw [if_pos q, mk i q.1 q.2]; exact ⟨by omega, by omega⟩
    · rw [if_neg q]; exact ⟨Iff.rfl, fun _ => rfl⟩
  · intro w hw
    have a := gc w hw
    exact ⟨a.1, by rw [hd w a.1 a.2.1 a.2.2]; exact a.2.1, (g1 w hw).2.2⟩
  · intro r hr; rw [ep]; exact g2 r hr
  · intro w hw
    have a := gc w hw
    rw [ep]
    exact ef _ w a.1 a.2.1 a.2.2 (g3 w hw)
  · intro t ht h10; rw [ep]; exact g4 t ht h10
  · intro t ht h10 h12
    have a := g5 t ht h10 h12
    have ne := hx t ht h10 h12
    have oc := o.c ht
    have h12' : s 12 t ≠ -1 := h12
    have c64 : (s 12 t).toNat < 64 := by omega
    have cn : (s 12 t).toNat ≠ c := by omega
    refine ⟨a.1, ⟨?_, ?_, a.2.1.2.2⟩, ?_, a.2.2.2⟩
    · show 1000 ≤ sClr (up2 s 6 (c / 8) (s 6 (c / 8) - n)) c n 1 (s 12 t).toNat
      rw [hd _ c64 a.2.1.1 cn]; exact a.2.1.1
    · show sClr (up2 s 6 (c / 8) (s 6 (c / 8) - n)) c n 3 (s 12 t).toNat = 0
      rw [e3]; exact a.2.1.2.1
    · rw [ep]; exact ef _ _ c64 a.2.1.1 cn a.2.2.1
  · intro q; have q : s 0 14 = 1 := q; omega
  · intro q; have q : s 0 14 = 1 := q; omega
  · intro q; have q : s 0 14 = 1 := q; omega
  · intro _ w hw; rw [f3]; exact g11 h2 w hw
  · intro _ w hw; rw [f3]; exact g12 h2 w hw
def sFin1 (s : hs) (t : Nat) : hs := sSettle (sSetT s t (-1) (-1) (-1)) (s 11 t) (s 12 t)
theorem In.fin1 {s : hs} {G : Nat → Prop} (h : In s G no 6) {t : Nat} (ht : t < 2) (hb : s 10 t ≠ -1) : ∃ G', In (sFin1 s t) G' no 6 ∧ ptr (sFin1 s t) G' (s 11 t) ∧ ¬ sNeed (sFin1 s t) (s 11 t) := by
  have hin := h
  obtain ⟨o, l, f2, ⟨g1, g2, g3, g4, g5, g6, g7, g8, g9, g10, g11, g12, g13, g14, g15⟩, rg⟩ := h
  have i0 : In (sSetT s t (-1) (-1) (-1)) G no 6 := hin.setT (by omega) (by omega) (by omega) (fun q => absurd rfl q) (fun q => absurd rfl q) (fun q => absurd rfl q) (fun q => absurd rfl q)
  have p0 := g4 t ht hb
  have oc := o.c ht
  unfold sFin1 sSettle
  by_cases c1 : s 12 t = -1
  · rw [if_pos c1]
    exact ⟨G, i0, p0, fun q => g7 t ht hb q c1⟩
  · rw [if_neg c1]
    obtain ⟨h2, ⟨a1, a2, a3⟩, a4, a5⟩ := g5 t ht hb c1
    have other : ∀ t', t' < 2 → sSetT s t (-1) (-1) (-1) 10 t' ≠ -1 → sSetT s t (-1) (-1) (-1) 12 t' ≠ -1 → sSetT s t (-1) (-1) (-1) 12 t' ≠ ((s 12 t).toNat : Int) := by
      intro t' ht' b1 b2
      rw [sSetT_10] at b1
      rw [sSetT_12] at b2 ⊢
      by_cases q : t' = t
      · rw [if_pos q] at b1; exact absurd rfl b1
      · rw [if_neg q] at b1 b2 ⊢
        by_cases z : t = 0
        · have z1 : t' = 1 := by omega
          rw [z1] at b1 b2 ⊢
          rw [z] at hb c1 oc ⊢
          have := g6 hb b1 c1
          omega
        · have z1 : t' = 0 := by omega
          have z2 : t = 1 := by omega
          rw [z1] at b1 b2 ⊢
          rw [z2] at hb c1 oc ⊢
          have := g6 b1 hb b2
          omega
    have c64 : (s 12 t).toNat < 64 := by omega
    rcases p0 with q | ⟨pc, pg⟩
    · exact absurd (Or.inl q) a5
    by_cases c2 : sMust s (sWh s (s 11 t))
    · rw [if_pos (show sMust (sSetT s t (-1) (-1) (-1)) (sWh (sSetT s t (-1) (-1) (-1)) (s 11 t)) from c2)]
      have tl := i0.tell (a := sWh s (s 11 t)) (b := (s 12 t).toNat) c2 pg c64 a1 a2 a3 a4 other
      refine ⟨_, tl.1, tl.2 _ (Or.inr ⟨pc, pg⟩), fun q => ?_⟩
      have wh := tell_wh i0 (a := sWh s (s 11 t)) (b := (s 12 t).toNat) c2 (q := s 11 t) pc
      have q2 := q.2
      rw [show sWh (sSetT s t (-1) (-1) (-1)) (s 11 t) = sWh s (s 11 t) from rfl] at wh q2
      rw [wh, if_pos rfl] at q2
      have := q2.2.1
      rw [sTell_k _ (by decide) (by decide) (by decide) (by decide)] at this
      have this : s 7 ((s 12 t).toNat / 8) = 2 := this
      omega
    · rw [if_neg (show ¬ sMust (sSetT s t (-1) (-1) (-1)) (sWh (sSetT s t (-1) (-1) (-1)) (s 11 t)) from c2)]
      obtain ⟨n, hn, m1, m2, m3, m4⟩ := head_n o l c64 a1
      by_cases c3 : s 12 t + sSz (sSetT s t (-1) (-1) (-1)) (s 12 t).toNat = 8 * (s 12 t / 8) + (sSetT s t (-1) (-1) (-1)) 6 (s 12 t / 8).toNat
      · rw [if_pos c3]
        have c3 : s 12 t + sSz s (s 12 t).toNat = 8 * (s 12 t / 8) + s 6 (s 12 t / 8).toNat := c3
        rw [m2] at c3
        have e8 : (s 12 t / 8).toNat = (s 12 t).toNat / 8 := by omega
        have es : sSz (sSetT s t (-1) (-1) (-1)) (s 12 t).toNat = n := m2
        rw [es, e8]
        rw [e8] at c3
        have iu := i0.ung (c := (s 12 t).toNat) (n := n) h2 c64 hn m1 a2 a3 (by show (((s 12 t).toNat % 8 : Nat) : Int) + n = s 6 ((s 12 t).toNat / 8); omega) other
        refine ⟨G, iu, Or.inr ⟨?_, pg⟩, fun q => c2 q.2⟩
        refine ⟨pc.1, pc.2.1, fun z => ?_, pc.2.2.2⟩
        have z : s 0 14 = 1 := z
        omega
      · rw [if_neg c3]
        exact ⟨G, i0, Or.inr ⟨pc, pg⟩, fun q => c2 q.2⟩
