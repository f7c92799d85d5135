/-! all roots can be mended when pages have been chosen: there is room -/
def sLf (s : hs) : Nat → Nat → Int
  | 0, _ => 0
  | d + 1, w => (if (s 3 w = 1 ∧ 1000 ≤ s 1 w) ∧ s 2 w = -1 then s 1 w - 999 else 0) + sLf s d (w + 1)
def sRp (s : hs) (p : Nat) : Int := if s 7 p = 2 then sLf s 8 (8 * p) else 0
def sR (s : hs) : Int := sm (sRp s) 8
def sF (s : hs) : Int := sm (fun p => if s 7 p = 0 then 1 else 0) 8
def sCr (s : hs) : Int := if s 9 1 = -1 then 0 else if s 6 (s 9 1).toNat ≤ 5 then 5 - s 6 (s 9 1).toNat else 0
def Pot (s : hs) : Prop := sR s ≤ 5 * sF s + sCr s
theorem sLf_nn (s : hs) : ∀ (d w : Nat), 0 ≤ sLf s d w := by
  intro d
  induction d with
  | zero => intro w; exact Int.le_refl _
  | succ d ih =>
    intro w
    have := ih (w + 1)
    unfold sLf
    split <;> omega
theorem sLf_ge {s : hs} {w : Nat} (h : (s 3 w = 1 ∧ 1000 ≤ s 1 w) ∧ s 2 w = -1) : ∀ (d x : Nat), x ≤ w → w < x + d → s 1 w - 999 ≤ sLf s d x := by
  intro d
  induction d with
  | zero => intro x a b; omega
  | succ d ih =>
    intro x a b
    rw [sLf]
    by_cases c : x = w
    · subst c
      rw [if_pos h]
      have := sLf_nn s d (x + 1)
      omega
    · have := ih (x + 1) (by omega) (by omega)
      split <;> omega
theorem sLf_eq {s t : hs} : ∀ (d w : Nat), (∀ i, w ≤ i → i < w + d → ((s 3 i = 1 ∧ 1000 ≤ s 1 i) ∧ s 2 i = -1 ↔ (t 3 i = 1 ∧ 1000 ≤ t 1 i) ∧ t 2 i = -1) ∧ ((s 3 i = 1 ∧ 1000 ≤ s 1 i) ∧ s 2 i = -1 → s 1 i = t 1 i)) → sLf s d w = sLf t d w := by
  intro d
  induction d with
  | zero => intro w _; rfl
  | succ d ih =>
    intro w h
    have h0 := h w (by omega) (by omega)
    rw [sLf, sLf, ih (w + 1) (fun i h1 h2 => h i (by omega) (by omega))]
    by_cases c : (s 3 w = 1 ∧ 1000 ≤ s 1 w) ∧ s 2 w = -1
    · rw [if_pos c, if_pos (h0.1.mp c), h0.2 c]
    · rw [if_neg c, if_neg (fun q => c (h0.1.mpr q))]
/-- one less is to be moved -/
theorem sLf_dn {s t : hs} {b : Nat} (hb : (s 3 b = 1 ∧ 1000 ≤ s 1 b) ∧ s 2 b = -1) (hb' : ¬ ((t 3 b = 1 ∧ 1000 ≤ t 1 b) ∧ t 2 b = -1)) : ∀ (d w : Nat), (∀ i, i ≠ b → w ≤ i → i < w + d → ((s 3 i = 1 ∧ 1000 ≤ s 1 i) ∧ s 2 i = -1 ↔ (t 3 i = 1 ∧ 1000 ≤ t 1 i) ∧ t 2 i = -1) ∧ ((s 3 i = 1 ∧ 1000 ≤ s 1 i) ∧ s 2 i = -1 → s 1 i = t 1 i)) → sLf t d w = sLf s d w - if w ≤ b ∧ b < w + d then s 1 b - 999 else 0 := by
  intro d
  induction d with
  | zero => intro w _; rw [if_neg (by omega)]; rfl
  | succ d ih =>
    intro w h
    rw [sLf, sLf, ih (w + 1) (fun i i0 i1 i2 => h i i0 (by omega) (by omega))]
    by_cases c : w = b
    · subst c
      rw [if_pos hb, if_neg hb', if_neg (by omega), if_pos (by omega)]
      omega
    · have := h w c (by omega) (by omega)
      have e : (if (t 3 w = 1 ∧ 1000 ≤ t 1 w) ∧ t 2 w = -1 then t 1 w - 999 else 0) = if (s 3 w = 1 ∧ 1000 ≤ s 1 w) ∧ s 2 w = -1 then s 1 w - 999 else 0 := by
        by_cases q : (s 3 w = 1 ∧ 1000 ≤ s 1 w) ∧ s 2 w = -1
        · rw [if_pos q, if_pos (this.1.mp q), this.2 q]
        · rw [if_neg q, if_neg (fun z => q (this.1.mpr z))]
      rw [e]
      by_cases c2 : w + 1 ≤ b ∧ b < w + 1 + d
      · rw [if_pos c2, if_pos (show w ≤ b ∧ b < w + (d + 1) by omega)]; omega
      · rw [if_neg c2, if_neg (show ¬ (w ≤ b ∧ b < w + (d + 1)) by omega)]; omega
theorem sm_ge {f : Nat → Int} {b : Nat} : ∀ n : Nat, (∀ i, i < n → 0 ≤ f i) → b < n → f b ≤ sm f n := by
  intro n
  induction n with
  | zero => intro _ h; omega
  | succ n ih =>
    intro h hb
    rw [sm]
    by_cases c : b = n
    · subst c
      have : sm (fun _ => 0) b ≤ sm f b := sm_le b (fun i hi => h i (by omega))
      rw [sm_const] at this
      omega
    · have := ih (fun i hi => h i (by omega)) (by omega)
      have := h n (by omega)
      omega
theorem sFr_8 {s : hs} : ∀ (d p : Nat), sFr s d p = p + d → ∀ q, p ≤ q → q < p + d → s 7 q ≠ 0 := by
  intro d
  induction d with
  | zero => intro p _ q a b; omega
  | succ d ih =>
    intro p h q a b
    unfold sFr at h
    by_cases c : s 7 p = 0
    · rw [if_pos c] at h; omega
    · rw [if_neg c] at h
      by_cases e : q = p
      · rw [e]; exact c
      · exact ih (p + 1) (by omega) q (by omega) (by omega)
theorem sF_free {s : hs} (h : 0 < sF s) : sFree s < 8 := by
  have le := sFree_le s
  by_cases c : sFree s < 8
  · exact c
  · have e : sFree s = 0 + 8 := by omega
    have all := sFr_8 8 0 e
    have : sF s = sm (fun _ => 0) 8 := sm_eq 8 (fun i hi => by
      show (if s 7 i = 0 then (1 : Int) else 0) = 0
      rw [if_neg (all i (by omega) (by omega))])
    rw [this, sm_const] at h
    omega
theorem pot_room {s : hs} {G e : Nat → Prop} {k : Nat} (h : In s G e k) (hp : Pot s) {a : Nat} (hm : sMust s a) (ha : G a) : sRoom s 1 (sSz s a) := by
  obtain ⟨o, l, f2, g, rg⟩ := h
  have a1 := g.1 a ha
  have a2 := g.2.2.2.2.2.2.2.2.2.2.1 hm.1 a ha
  obtain ⟨n, hn, m1, m2, m3, m4⟩ := head_n o l a1.1 a1.2.1
  have ge := sLf_ge (s := s) (w := a) ⟨⟨a2.1, a1.2.1⟩, a2.2⟩ 8 (8 * (a / 8)) (by omega) (by omega)
  have rp : sRp s (a / 8) = sLf s 8 (8 * (a / 8)) := by unfold sRp; rw [if_pos hm.2.1]
  have r := sm_ge (f := sRp s) (b := a / 8) 8 (fun i _ => by
    unfold sRp; split
    · exact sLf_nn s 8 _
    · omega) (by omega)
  have hr : (n : Int) ≤ sR s := by unfold sR; omega
  rw [m2]
  by_cases c : sFits s 1 n
  · exact Or.inl c
  · refine Or.inr (sF_free ?_)
    unfold Pot sCr at hp
    by_cases c9 : s 9 1 = -1
    · rw [if_pos c9] at hp; omega
    · rw [if_neg c9] at hp
      have og := o.g (show 1 < 2 by omega)
      have u := o.u (show (s 9 1).toNat < 8 by omega)
      have : ¬ (s 6 (s 9 1).toNat + n ≤ 8) := fun q => c ⟨c9, q⟩
      split at hp <;> omega
theorem pot_move {s : hs} {G e : Nat → Prop} {k : Nat} (h : In s G e k) (hp : Pot s) {a : Nat} (hm : sMust s a) (ha : G a) : Pot (sMove s a) := by
  have hr := pot_room h hp hm ha
  obtain ⟨o, l, f2, g, rg⟩ := h
  have a1 := g.1 a ha
  have a2 := g.2.2.2.2.2.2.2.2.2.2.1 hm.1 a ha
  obtain ⟨n, b, hn, m1, m2, m3, m4, m5, m6, m7, m8, m9, og', oc', mb1, mb5, m10, m11⟩ := move_facts o l a1.1 a1.2.1 hr
  have al := copy_al o l (u := 1) (n := n) (a := a) (by omega) hn m7
  rw [m4] at al
  have em : sMove s a = sTell (sAl s 1 n (fun j => s 1 (a + j)) false) a b := by unfold sMove; rw [m2, m4, al]
  have fresh := @give_fresh s o l 1 n (by omega) hn m7
  obtain ⟨p8, bb, d0, d1, d2, d3, ee, ff⟩ := give_facts o l (show 1 < 2 by omega) hn m7
  rw [m4] at bb ee ff d3
  have fr : ∀ i, b ≤ i → i < b + n → s 1 i = -2 ∧ s 3 i = 0 := fun i h1 h2 => fresh (by rw [m4]; exact h1) (by omega)
  have t7 : ∀ i, sMove s a 7 i = if i = b / 8 then 1 else s 7 i := fun i => by
    rw [em, sTell_k i (by decide) (by decide) (by decide) (by decide), sAl_7, m4]
  have t6 : ∀ i, sMove s a 6 i = if i = b / 8 then s 6 i + n else s 6 i := fun i => by
    rw [em, sTell_k i (by decide) (by decide) (by decide) (by decide), sAl_6, m4]
  have t9 : sMove s a 9 1 = ((b / 8 : Nat) : Int) := by
    rw [em, sTell_k 1 (by decide) (by decide) (by decide) (by decide), sAl_9, if_pos rfl, m4]
  have t2 : ∀ i, sMove s a 2 i = if i = a then (b : Int) else s 2 i := fun i => by
    rw [sMove_2, m2, m4]
  have t1 : ∀ i, i / 8 ≠ b / 8 → sMove s a 1 i = s 1 i := fun i hi => by
    rw [em, sTell_k i (by decide) (by decide) (by decide) (by decide), sAl_1, m4, if_neg (fun z => hi (by omega))]
  have t3 : ∀ i, i / 8 ≠ b / 8 → sMove s a 3 i = s 3 i := fun i hi => by
    rw [em]
    unfold sTell
    rw [sWr_k i (by decide)]
    unfold sMark
    split
    · rw [up2_ap, if_neg (by omega), up2_ap, if_neg (fun z => hi (by rw [z.2])), up2_ap, if_neg (by omega), sAl_3, if_neg (by simp)]
    · rw [up2_ap, if_neg (by omega), sAl_3, if_neg (by simp)]
  -- what is to be moved
  have rp : ∀ p, p < 8 → sRp (sMove s a) p = if p = a / 8 then sRp s p - n else sRp s p := fun p hp8 => by
    unfold sRp
    rw [t7]
    by_cases c : p = b / 8
    · rw [if_pos c, if_neg (by omega), if_neg (fun q => by rw [← c, q] at m9; exact m9 hm.2.1), if_neg (by rw [c]; exact m9)]
    · rw [if_neg c]
      by_cases c7 : s 7 p = 2
      · rw [if_pos c7]
        have dn := sLf_dn (s := s) (t := sMove s a) (b := a) ⟨⟨a2.1, a1.2.1⟩, a2.2⟩ (by rw [t2, if_pos rfl]; omega) 8 (8 * p) (fun i i0 i1 i2 => by
          have e8 : i / 8 ≠ b / 8 := by omega
          rw [t1 i e8, t3 i e8, t2, if_neg i0]
          exact ⟨Iff.rfl, fun _ => rfl⟩)
        rw [dn]
        by_cases ca : p = a / 8
        · rw [if_pos ca, if_pos c7, if_pos (by omega), m1]; omega
        · rw [if_neg ca, if_neg (by omega), if_pos c7]; omega
      · rw [if_neg c7, if_neg (fun q => c7 (by rw [q]; exact hm.2.1)), if_neg c7]
  have hR : sR (sMove s a) = sR s - n := by
    unfold sR
    have e := sm_eq (f := sRp (sMove s a)) (g := fun p => if p = a / 8 then sRp s p - n else sRp s p) 8 (fun i hi => rp i hi)
    rw [e]
    have := sm_up (f := sRp s) (g := fun p => if p = a / 8 then sRp s p - n else sRp s p) (b := a / 8) (z := -(n : Int)) (fun i hi => by
      show (if i = a / 8 then sRp s i - n else sRp s i) = sRp s i
      rw [if_neg hi]) (by
      show (if a / 8 = a / 8 then sRp s (a / 8) - n else sRp s (a / 8)) = sRp s (a / 8) + -(n : Int)
      rw [if_pos rfl]; omega) 8
    rw [this, if_pos (by omega)]; omega
  have pos : sR s ≤ 5 * sF s + sCr s := hp
  unfold Pot
  rw [hR]
  have cr' : sCr (sMove s a) = if s 6 (b / 8) + n ≤ 5 then 5 - (s 6 (b / 8) + n) else 0 := by
    unfold sCr
    rw [t9, if_neg (by omega), Int.toNat_natCast, t6, if_pos rfl]
  have u6 := o.u p8
  rw [ee] at *
  by_cases c : sFits s 1 n
  · have dd := d1 c
    have sf : sF (sMove s a) = sF s := by
      unfold sF
      refine sm_eq 8 (fun i _ => ?_)
      show (if sMove s a 7 i = 0 then (1 : Int) else 0) = if s 7 i = 0 then 1 else 0
      rw [t7]
      by_cases q : i = sPg s 1 n
      · rw [if_pos q, if_neg (by omega), q, dd.1, if_neg (by omega)]
      · rw [if_neg q]
    have cr : sCr s = if s 6 (sPg s 1 n) ≤ 5 then 5 - s 6 (sPg s 1 n) else 0 := by
      unfold sCr; rw [if_neg c.1, dd.2, Int.toNat_natCast]
    rw [sf, cr']
    rw [cr] at pos
    split at pos <;> split <;> omega
  · have dd := d2 c
    have sf : sF (sMove s a) = sF s - 1 := by
      unfold sF
      have := sm_up (f := fun p => if s 7 p = 0 then (1 : Int) else 0) (g := fun p => if sMove s a 7 p = 0 then (1 : Int) else 0) (b := sPg s 1 n) (z := -1) (fun i hi => by
        show (if sMove s a 7 i = 0 then (1 : Int) else 0) = if s 7 i = 0 then 1 else 0
        rw [t7, if_neg hi]) (by
        show (if sMove s a 7 (sPg s 1 n) = 0 then (1 : Int) else 0) = (if s 7 (sPg s 1 n) = 0 then 1 else 0) + -1
        rw [t7, if_pos rfl, if_neg (by omega), dd.1, if_pos rfl]; omega) 8
      rw [this, if_pos p8]; omega
    have cr : sCr s = 0 := by
      unfold sCr
      by_cases c9 : s 9 1 = -1
      · rw [if_pos c9]
      · rw [if_neg c9]
        have og := o.g (show 1 < 2 by omega)
        have u := o.u (show (s 9 1).toNat < 8 by omega)
        have : ¬ (s 6 (s 9 1).toNat + n ≤ 8) := fun q => c ⟨c9, q⟩
        split <;> omega
    rw [sf, cr', dd.2]
    rw [cr] at pos
    split <;> omega
theorem Pot.root {s : hs} {r : Nat} {v : Int} (h : Pot s) : Pot (up2 s 8 r v) := by
  have e : sR (up2 s 8 r v) = sR s := by
    unfold sR
    refine sm_eq 8 (fun i _ => ?_)
    unfold sRp
    have : sLf (up2 s 8 r v) 8 (8 * i) = sLf s 8 (8 * i) := sLf_eq 8 _ (fun j _ _ => ⟨Iff.rfl, fun _ => rfl⟩)
    rw [this]; rfl
  unfold Pot
  rw [e]
  exact h
theorem In.mrs2 {e : Nat → Prop} : ∀ (d r : Nat) (s : hs) (G : Nat → Prop), r + d = 6 → In s G e r → s 0 14 = 2 → Pot s → ∃ G', In (sMRs s d r) G' e 6 := by
  intro d
  induction d with
  | zero => intro r s G hr h _ _; exact ⟨G, by rw [show r = 6 by omega] at h; exact h⟩
  | succ d ih =>
    intro r s G hr h h2 hpot
    have hp := h.2.2.2.1.2.1 r (by omega)
    have mp := ptr.mp h.1 h.2.2.2.1 hp
    obtain ⟨G', i1, _⟩ := h.mr (r := r) (by omega)
    have room : sNeed s (s 8 r) → sRoom s 1 (sSz s (sWh s (s 8 r))) := fun q =>
      pot_room h hpot q.2 (hp.elim (fun z => absurd (Or.inl z) q.1) (fun z => z.2))
    have z : sMendV s (s 8 r) ≠ -2 := fun q => by
      have := (sMendV_2 h.1 mp.1).mp q
      exact this.2 (room this.1)
    rw [if_pos ⟨rfl, z⟩] at i1
    have pot' : Pot (sMR s r) := by
      unfold sMR
      rw [if_neg z]
      refine Pot.root ?_
      unfold sMend
      by_cases cg : sGood s (s 8 r)
      · rw [if_pos cg]; exact hpot
      · rw [if_neg cg, if_neg (by omega)]
        by_cases cn : sMust s (sWh s (s 8 r))
        · rw [if_pos cn, if_pos (room ⟨cg, cn⟩)]
          exact pot_move h hpot cn (hp.elim (fun z => absurd (Or.inl z) cg) (fun z => z.2))
        · rw [if_neg cn]; exact hpot
    exact ih (r + 1) (sMR s r) G' (by omega) i1 (by rw [sMR_0 (by decide)]; exact h2) pot'
/-- when pages have been chosen -/
theorem pot_c4 {s : hs} {G : Nat → Prop} (h : In s G no 6) (h1 : s 0 14 = 1) (hs0 : s 0 13 = 0) (ht : s 10 0 = -1 ∧ s 10 1 = -1) (π : hs → Nat → Bool) : Pot (sC4 s π) := by
  have i4 := h.c4 h1 hs0 ht π
  obtain ⟨lf, B1, B2, B3, B4⟩ := BI.bts (sC2 s) π
  have e7 : ∀ i, sC4 s π 7 i = if i < 8 ∧ (sBts (sC2 s) π).testBit i = true then 2 else sC2 s 7 i := fun i => by
    show (sHow (sC2 s) (sBts (sC2 s) π)) 7 i = _
    unfold sHow
    by_cases c : i < 8 ∧ (sBts (sC2 s) π).testBit i = true
    · rw [if_pos ⟨rfl, c⟩, if_pos c]
    · rw [if_neg (fun z => c z.2), if_neg c]
  have n2 : ∀ p, p < 8 → ¬ sC2 s 7 p = 2 := fun p hp q => by
    obtain ⟨o, l, f2, ⟨g1, g2, g3, g4, g5, g6, g7, g8, g9, g10, g11, g12, g13, g14, g15⟩, rg⟩ := h
    obtain ⟨F1, F2', F3, F4, F5⟩ := FS_facts (s := sFl s 2 64 (-1)) (Q := qNL s)
    have q : sFS (sFl s 2 64 (-1)) (qNL s) 8 0 7 p = 2 := q
    by_cases c : qNL s p = true
    · rw [(F3 p hp c).2.2] at q; omega
    · rw [(F4 p c).2.2] at q
      exact g15 (by omega) p hp q
  have r : sR (sC4 s π) = 5 * popc (sFB (sC2 s)) - lf := by
    rw [← B4]
    unfold sR
    refine sm_eq 8 (fun i hi => ?_)
    show sRp (sC4 s π) i = if (sBts (sC2 s) π).testBit i = true then sC2 s 5 i else 0
    unfold sRp
    have q7 := e7 i
    by_cases c : (sBts (sC2 s) π).testBit i = true
    · rw [if_pos ⟨hi, c⟩] at q7
      rw [if_pos q7, if_pos c]
      have l7 := i4.2.1.2.2.2.2.2.2 i hi
      have e5 : sC4 s π 5 i = sC2 s 5 i := rfl
      rw [← e5, l7]
      unfold sLive
      have key : ∀ (d w : Nat), w + d ≤ 64 → sLf (sC4 s π) d w = sLv (sC4 s π) d w := by
        intro d
        induction d with
        | zero => intro w _; rfl
        | succ d ih =>
          intro w hw
          rw [sLf, sLv, ih (w + 1) (by omega)]
          have g11 := i4.2.2.2.1.2.2.2.2.2.2.2.2.2.2.1 rfl
          by_cases q : sC4 s π 3 w = 1 ∧ 1000 ≤ sC4 s π 1 w
          · have g12 := i4.2.2.2.1.2.2.2.2.2.2.2.2.2.2.2.1 rfl w (by omega) q.1
            have f2 : sC4 s π 2 w = -1 := by
              by_cases z : sC4 s π 2 w = -1
              · exact z
              · have := i4.2.2.1 rfl w (by omega) z
                have t2 : sC4 s π 2 w = sFS (sFl s 2 64 (-1)) (qNL s) 8 0 2 w := rfl
                rw [(FS_facts (s := sFl s 2 64 (-1)) (Q := qNL s)).2.2.2.2 2 w (by decide) (by decide) (by decide) (by decide) (by decide) (by decide)] at t2
                rw [t2]; unfold sFl; rw [if_pos ⟨rfl, by omega⟩]
            rw [if_pos ⟨q, f2⟩, if_pos q]
          · rw [if_neg (fun z => q z.1), if_neg q]
      exact key 8 (8 * i) (by omega)
    · rw [if_neg (fun z => c z.2)] at q7
      rw [if_neg (by rw [q7]; exact n2 i hi), if_neg c]
  have f : sF (sC4 s π) = popc (sFB (sC2 s)) := by
    rw [popc_free]
    unfold sF
    refine sm_eq 8 (fun i hi => ?_)
    show (if sC4 s π 7 i = 0 then (1 : Int) else 0) = if sC2 s 7 i = 0 then 1 else 0
    rw [e7]
    by_cases c : i < 8 ∧ (sBts (sC2 s) π).testBit i = true
    · rw [if_pos c, if_neg (by decide), if_neg (by have := (B2 i c.2).2.1.1; omega)]
    · rw [if_neg c]
  have c : sCr (sC4 s π) = 0 := by
    unfold sCr; rw [if_pos (show sC4 s π 9 1 = -1 from rfl)]
  unfold Pot
  rw [r, f, c]
  omega
def sChoose (s : hs) (π : hs → Nat → Bool) : hs := sMRs (sC4 s π) 6 0
theorem In.choose {s : hs} {G : Nat → Prop} (h : In s G no 6) (h1 : s 0 14 = 1) (hs0 : s 0 13 = 0) (ht : s 10 0 = -1 ∧ s 10 1 = -1) (π : hs → Nat → Bool) : Inv (sChoose s π) :=
  In.mrs2 6 0 (sC4 s π) _ (by omega) (h.c4 h1 hs0 ht π) rfl (pot_c4 h h1 hs0 ht π)
