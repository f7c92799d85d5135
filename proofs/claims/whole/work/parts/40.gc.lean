/-! what is safe: a closed set of objects -/
def sm (f : Nat → Int) : Nat → Int
  | 0 => 0
  | n + 1 => sm f n + f n
theorem sm_eq {f g : Nat → Int} : ∀ n : Nat, (∀ i, i < n → f i = g i) → sm f n = sm g n := by
  intro n
  induction n with
  | zero => intro _; rfl
  | succ n ih => intro h; rw [sm, sm, ih (fun i hi => h i (by omega)), h n (by omega)]
theorem sm_le {f g : Nat → Int} : ∀ n : Nat, (∀ i, i < n → f i ≤ g i) → sm f n ≤ sm g n := by
  intro n
  induction n with
  | zero => intro _; exact Int.le_refl _
  | succ n ih => intro h; rw [sm, sm]; have := ih (fun i hi => h i (by omega)); have := h n (by omega); omega
theorem sm_up {f g : Nat → Int} {b : Nat} {z : Int} (h : ∀ i, i ≠ b → g i = f i) (hb : g b = f b + z) : ∀ n : Nat, sm g n = sm f n + if b < n then z else 0 := by
  intro n
  induction n with
  | zero => rw [if_neg (by omega)]; rfl
  | succ n ih =>
    rw [sm, sm, ih]
    by_cases c : n = b
    · subst c; rw [if_neg (by omega), if_pos (by omega), hb]; omega
    · rw [h n c]
      by_cases c2 : b < n
      · rw [if_pos c2, if_pos (by omega)]; omega
      · rw [if_neg c2, if_neg (by omega)]; omega
theorem sm_const (z : Int) : ∀ n : Nat, sm (fun _ => z) n = n * z := by
  intro n
  induction n with
  | zero => simp [sm]
  | succ n ih => rw [sm, ih, Int.natCast_add, Int.add_mul]; simp
/-- a sum of marks has room where one is wanting -/
theorem sm_room {f : Nat → Int} {b n : Nat} (hf : ∀ i, i < n → f i ≤ 1) (hb : b < n) (h0 : f b = 0) : sm f n < n := by
  have h1 : sm f n = sm (fun i => if i = b then 1 else f i) n - 1 := by
    have := sm_up (f := f) (g := fun i => if i = b then 1 else f i) (b := b) (z := 1) (fun i hi => by simp [hi]) (by simp [h0]) n
    rw [this, if_pos hb]; omega
  have h2 := sm_le (f := fun i => if i = b then 1 else f i) (g := fun _ => 1) n (fun i hi => by
    have := hf i hi
    show (if i = b then 1 else f i) ≤ 1
    split <;> omega)
  rw [sm_const] at h2
  omega
def cOk (s : hs) (p : Int) : Prop := (0 ≤ p ∧ p ≤ 191) ∧ (s 0 14 ≠ 1 → p / 64 = s 0 16 ∨ p / 64 = 2) ∧ (s 0 14 = 1 → p / 64 = s 0 15 → s 3 (p % 64).toNat = 1) ∧ (s 0 14 = 2 → p / 64 = 2 → s 7 ((p % 64).toNat / 8) ≠ 2)
def ptr (s : hs) (G : Nat → Prop) (p : Int) : Prop := p = -1 ∨ (cOk s p ∧ G (sWh s p))
def fld (s : hs) (P : Int → Prop) (w : Nat) : Prop := ∀ j : Nat, 1 ≤ j → (j : Int) ≤ s 1 w - 1000 → P (s 1 (w + j))
def onS (s : hs) (w : Nat) : Prop := ∃ i : Nat, (i : Int) < s 0 13 ∧ s 4 i = w
def G1 (s : hs) (G : Nat → Prop) : Prop := ∀ w, G w → w < 64 ∧ 1000 ≤ s 1 w ∧ s 7 (w / 8) ≠ 0
def G2 (s : hs) (G : Nat → Prop) : Prop := ∀ r, r < 6 → ptr s G (s 8 r)
def G3 (s : hs) (G : Nat → Prop) : Prop := ∀ w, G w → fld s (ptr s G) w
def G4 (s : hs) (G : Nat → Prop) : Prop := ∀ t, t < 2 → s 10 t ≠ -1 → ptr s G (s 11 t)
def G5 (s : hs) (G : Nat → Prop) : Prop := ∀ t, t < 2 → s 10 t ≠ -1 → s 12 t ≠ -1 → s 0 14 = 2 ∧ (1000 ≤ s 1 (s 12 t).toNat ∧ s 3 (s 12 t).toNat = 0 ∧ s 7 ((s 12 t).toNat / 8) = 1) ∧ fld s (ptr s G) (s 12 t).toNat ∧ ¬ sGood s (s 11 t)
def G6 (s : hs) : Prop := s 10 0 ≠ -1 → s 10 1 ≠ -1 → s 12 0 ≠ -1 → s 12 0 ≠ s 12 1
def G7 (s : hs) : Prop := ∀ t, t < 2 → s 10 t ≠ -1 → sNeed s (s 11 t) → s 12 t ≠ -1
def G8 (s : hs) (G e : Nat → Prop) : Prop := s 0 14 = 1 → ∀ w, w < 64 → s 3 w = 1 → G w ∧ (onS s w ∨ fld s (sGood s) w ∨ e w)
def G9 (s : hs) (G : Nat → Prop) : Prop := s 0 14 = 1 → ∀ i : Nat, (i : Int) < s 0 13 → G (s 4 i).toNat ∧ s 3 (s 4 i).toNat = 1
def G10 (s : hs) : Prop := s 0 14 = 1 → s 0 13 ≤ sm (s 3) 64
def G11 (s : hs) (G : Nat → Prop) : Prop := s 0 14 = 2 → ∀ w, G w → s 3 w = 1 ∧ s 2 w = -1
def G12 (s : hs) (G : Nat → Prop) : Prop := s 0 14 = 2 → ∀ w, w < 64 → s 3 w = 1 → s 2 w = -1 → G w
def G13 (s : hs) : Prop := s 0 14 = 2 → ∀ a, a < 64 → s 2 a ≠ -1 → s 7 ((s 2 a).toNat / 8) ≠ 2
def G14 (s : hs) : Prop := (s 0 14 = 1 → s 0 15 = s 0 16) ∧ (s 0 14 ≠ 1 → s 0 15 = 2)
def G15 (s : hs) : Prop := s 0 14 ≠ 2 → ∀ p, p < 8 → s 7 p ≠ 2
def Gc (s : hs) (G e : Nat → Prop) : Prop := G1 s G ∧ G2 s G ∧ G3 s G ∧ G4 s G ∧ G5 s G ∧ G6 s ∧ G7 s ∧ G8 s G e ∧ G9 s G ∧ G10 s ∧ G11 s G ∧ G12 s G ∧ G13 s ∧ G14 s ∧ G15 s
def Rg (s : hs) (k : Nat) : Prop := ∀ r, r < k → sGood s (s 8 r)
/-- all that holds of the heap between calls -/
def In (s : hs) (G e : Nat → Prop) (k : Nat) : Prop := Ok s ∧ Lay s ∧ F2 s ∧ Gc s G e ∧ Rg s k
def no (_ : Nat) : Prop := False
def Inv (s : hs) : Prop := ∃ G, In s G no 6
/-- where a pointer leads hangs on colours and forwards alone -/
theorem sWh_eq {s t : hs} (h0 : t 0 15 = s 0 15) (h2 : ∀ i, t 2 i = s 2 i) (p : Int) : sWh t p = sWh s p := by
  unfold sWh; rw [h0, h2]
theorem sMust_eq {s t : hs} (h0 : t 0 14 = s 0 14) (h2 : ∀ i, t 2 i = s 2 i) (h7 : ∀ i, t 7 i = s 7 i) (w : Nat) : sMust t w ↔ sMust s w := by
  unfold sMust; rw [h0, h2, h7]
/-- a pointer of use can be mended -/
theorem ptr.mp {s : hs} {G e : Nat → Prop} (o : Ok s) (g : Gc s G e) {p : Int} (hp : ptr s G p) : Mp s p := by
  obtain ⟨g1, _, _, _, _, _, _, _, _, g10, g11, _⟩ := g
  rcases hp with hp | ⟨hc, hg⟩
  · exact ⟨by omega, by omega, fun q => absurd (Or.inl hp) q⟩
  · refine ⟨by have := hc.1.1; omega, hc.1.2, fun _ => ⟨(g1 _ hg).2.1, fun h1 h3 => ?_, fun h2 => (g11 h2 _ hg).2⟩⟩
    have a := g10 h1
    have b := sm_room (f := s 3) (n := 64) (fun i hi => (o.m hi).2) (g1 _ hg).1 h3
    omega
/-- a state that differs only where nobody looks: book, clock, x -/
theorem In.eq {s t : hs} {G e : Nat → Prop} {k : Nat} (h : In s G e k) (ho : Ok t) (h0 : ∀ i, i < 17 → t 0 i = s 0 i) (hk : ∀ k, 1 ≤ k → k ≤ 12 → t k = s k) : In t G e k := by
  obtain ⟨o, l, f2, g, rg⟩ := h
  have e1 := hk 1 (by omega) (by omega)
  have e2 := hk 2 (by omega) (by omega)
  have e3 := hk 3 (by omega) (by omega)
  have e4 := hk 4 (by omega) (by omega)
  have e5 := hk 5 (by omega) (by omega)
  have e6 := hk 6 (by omega) (by omega)
  have e7 := hk 7 (by omega) (by omega)
  have e8 := hk 8 (by omega) (by omega)
  have e9 := hk 9 (by omega) (by omega)
  have e10 := hk 10 (by omega) (by omega)
  have e11 := hk 11 (by omega) (by omega)
  have e12 := hk 12 (by omega) (by omega)
  have e13 := h0 13 (by omega)
  have e14 := h0 14 (by omega)
  have e15 := h0 15 (by omega)
  have e16 := h0 16 (by omega)
  have ew : ∀ p, sWh t p = sWh s p := fun p => sWh_eq e15 (fun i => by rw [e2]) p
  have ec : ∀ p, cOk t p = cOk s p := fun p => by unfold cOk; rw [e14, e15, e16, e3, e7]
  have ep : ptr t G = ptr s G := by funext p; unfold ptr; rw [ec, ew]
  have eg : sGood t = sGood s := by funext p; show (_ ∨ _) = (_ ∨ _); rw [e15]
  have ef : ∀ P w, fld t P w = fld s P w := fun P w => by unfold fld; rw [e1]
  refine ⟨ho, ?_, ?_, ?_, ?_⟩
  · obtain ⟨l1, l2, l3, l4, l5, l6, l7⟩ := l
    refine ⟨?_, ?_, ?_, ?_, ?_, ?_, ?_⟩
    · unfold La1; rw [e1, e6]; exact l1
    · unfold La2; rw [e1]; exact l2
    · unfold La3; rw [e1, e3, e6]; exact l3
    · unfold La4; rw [e1, e3]; exact l4
    · unfold La5; rw [e7, e6]; exact l5
    · unfold La6; rw [e7, e9]; exact l6
    · intro p hp
      rw [e5, l7 p hp]
      unfold sLive
      exact sLv_eq 8 _ (fun i _ _ => by rw [e1, e3]; exact ⟨Iff.rfl, fun _ => rfl⟩)
  · unfold F2; rw [e14, e2, e7]; exact f2
  · obtain ⟨g1, g2, g3, g4, g5, g6, g7, g8, g9, g10, g11, g12, g13, g14, g15⟩ := g
    refine ⟨?_, ?_, ?_, ?_, ?_, ?_, ?_, ?_, ?_, ?_, ?_, ?_, ?_, ?_, ?_⟩
    · unfold G1; rw [e1, e7]; exact g1
    · unfold G2; rw [ep, e8]; exact g2
    · intro w hw; rw [ep, ef]; exact g3 w hw
    · unfold G4; rw [ep, e10, e11]; exact g4
    · intro t' ht h10 h12
      rw [e10] at h10; rw [e12] at h12
      have := g5 t' ht h10 h12
      rw [ep, ef, eg, e1, e3, e7, e11, e12, e14]
      exact this
    · unfold G6; rw [e10, e12]; exact g6
    · intro t' ht h10 hn
      rw [e10] at h10; rw [e12]
      refine g7 t' ht h10 ⟨?_, ?_⟩
      · have := hn.1; rw [eg, e11] at this; exact this
      · have := hn.2; rw [ew, sMust_eq e14 (fun i => by rw [e2]) (fun i => by rw [e7]), e11] at this; exact this
    · intro h1 w hw hm
      rw [e14] at h1; rw [e3] at hm
      have := g8 h1 w hw hm
      rw [eg, ef]
      unfold onS
      rw [e13, e4]
      exact this
    · unfold G9; rw [e14, e13, e4, e3]; exact g9
    · unfold G10; rw [e14, e13, e3]; exact g10
    · unfold G11; rw [e14, e3, e2]; exact g11
    · unfold G12; rw [e14, e3, e2]; exact g12
    · unfold G13; rw [e14, e2, e7]; exact g13
    · unfold G14; rw [e14, e15, e16]; exact g14
    · unfold G15; rw [e14, e7]; exact g15
  · intro r hr; rw [eg, e8]; exact rg r hr
theorem In.wr {s : hs} {G e : Nat → Prop} {k : Nat} (h : In s G e k) {kd v : Int} (hk : 0 ≤ kd ∧ kd ≤ 5) (hv : 0 ≤ v ∧ v ≤ 255) : In (sWr s kd v) G e k :=
  h.eq (Ok_wr h.1 hk hv) (fun i _ => sWr_k i (by decide)) (fun k h1 h2 => funext (fun i => sWr_k i (by omega)))
/-- a root is set -/
theorem In.root {s : hs} {G e : Nat → Prop} {k r : Nat} (h : In s G e k) {v : Int} (hv : -1 ≤ v ∧ v ≤ 191) (hp : ptr s G v) (hg : r < k → sGood s v) : In (up2 s 8 r v) G e k := by
  obtain ⟨o, l, f2, ⟨g1, g2, g3, g4, g5, g6, g7, g8, g9, g10, g11, g12, g13, g14, g15⟩, rg⟩ := h
  have ek : ∀ k i, k ≠ 8 → up2 s 8 r v k i = s k i := fun k i q => by rw [up2_ap, if_neg (fun z => q z.1)]
  refine ⟨o.up (by decide) hv, l, f2, ⟨g1, ?_, g3, g4, g5, g6, g7, g8, g9, g10, g11, g12, g13, g14, g15⟩, ?_⟩
  · intro q hq
    show ptr s G (up2 s 8 r v 8 q)
    rw [up2_ap]
    split
    · exact hp
    · exact g2 q hq
  · intro q hq
    show sGood s (up2 s 8 r v 8 q)
    rw [up2_ap]
    split
    · rename_i z; exact hg (by omega)
    · exact rg q hq
/-- a word that is no head is set -/
theorem In.word {s : hs} {G e : Nat → Prop} {k x : Nat} (h : In s G e k) {v : Int} (hx : x < 64) (hw : -1 ≤ s 1 x ∧ s 1 x ≤ 191) (hv : -1 ≤ v ∧ v ≤ 191) (hp : ptr s G v) (hg : sGood s v) : In (up2 s 1 x v) G e k := by
  obtain ⟨o, ⟨l1, l2, l3, l4, l5, l6, l7⟩, f2, ⟨g1, g2, g3, g4, g5, g6, g7, g8, g9, g10, g11, g12, g13, g14, g15⟩, rg⟩ := h
  have e1 : ∀ i, up2 s 1 x v 1 i = if i = x then v else s 1 i := fun i => by
    rw [up2_ap]; by_cases c : i = x
    · rw [if_pos ⟨rfl, c⟩, if_pos c]
    · rw [if_neg (fun z => c z.2), if_neg c]
  have hd : ∀ w, 1000 ≤ up2 s 1 x v 1 w → 1000 ≤ s 1 w ∧ up2 s 1 x v 1 w = s 1 w := fun w q => by
    rw [e1] at q ⊢
    by_cases c : w = x
    · rw [if_pos c] at q; omega
    · rw [if_neg c] at q ⊢; exact ⟨q, rfl⟩
  have hd' : ∀ w, 1000 ≤ s 1 w → up2 s 1 x v 1 w = s 1 w := fun w q => by
    rw [e1, if_neg (fun c => by subst c; omega)]
  have hf : ∀ (P : Int → Prop) w, 1000 ≤ s 1 w → P v → fld s P w → fld (up2 s 1 x v) P w := fun P w q hP hF j j1 j2 => by
    rw [hd' w q] at j2
    rw [e1]
    split
    · exact hP
    · exact hF j j1 j2
  refine ⟨o.up (by decide) ⟨by omega, by omega⟩, ⟨?_, ?_, ?_, ?_, l5, l6, ?_⟩, f2, ⟨?_, g2, ?_, g4, ?_, g6, g7, ?_, g9, g10, g11, g12, g13, g14, g15⟩, rg⟩
  · intro w hw hh
    have := hd w hh
    rw [this.2]
    exact l1 w hw this.1
  · intro w hw hh j j1 j2
    have := hd w hh
    rw [this.2] at j2
    have q := l2 w hw this.1 j j1 j2
    rw [e1]
    split
    · exact hv
    · exact q
  · intro w hw hh
    have q := l3 w hw hh
    refine ⟨?_, q.2⟩
    rw [e1, if_neg (fun c => by subst c; omega)]
    exact q.1
  · intro w hw hh
    have q := l4 w hw hh
    rw [hd' w q]
    exact q
  · intro p hp
    show s 5 p = _
    rw [l7 p hp]
    unfold sLive
    refine sLv_eq 8 _ (fun i _ _ => ?_)
    show (s 3 i = 1 ∧ 1000 ≤ s 1 i ↔ s 3 i = 1 ∧ 1000 ≤ up2 s 1 x v 1 i) ∧ (s 3 i = 1 ∧ 1000 ≤ s 1 i → s 1 i = up2 s 1 x v 1 i)
    rw [e1]
    by_cases c : i = x
    · subst c; rw [if_pos rfl]; exact ⟨by omega, by omega⟩
    · rw [if_neg c]; exact ⟨Iff.rfl, fun _ => rfl⟩
  · intro w hw
    have := g1 w hw
    refine ⟨this.1, ?_, this.2.2⟩
    rw [hd' w this.2.1]
    exact this.2.1
  · intro w hw
    exact hf (ptr s G) w (g1 w hw).2.1 hp (g3 w hw)
  · intro t ht h10 h12
    have := g5 t ht h10 h12
    refine ⟨this.1, ⟨?_, this.2.1.2⟩, hf (ptr s G) _ this.2.1.1 hp this.2.2.1, this.2.2.2⟩
    show 1000 ≤ up2 s 1 x v 1 (s 12 t).toNat
    rw [hd' _ this.2.1.1]
    exact this.2.1.1
  · intro h1 w hw hm
    have := g8 h1 w hw hm
    refine ⟨this.1, this.2.elim Or.inl (fun q => q.elim (fun q => Or.inr (Or.inl ?_)) (fun q => Or.inr (Or.inr q)))⟩
    exact hf (sGood s) w (g1 w this.1).2.1 hg q
