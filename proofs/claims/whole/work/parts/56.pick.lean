/-! pages are chosen, by both -/
def TXs (TX : xm → Prop) : Prop := ∀ M M' : xm, (∀ q, 1006 ≤ q → M' q = M q) → TX M → TX M'
def TYs (TY : xm → Prop) : Prop := ∀ M M' : xm, M' 3 = M 3 → (∀ j, j < 4 → M' 1 j = M 1 j) → TY M → TY M'
def frL (u : Nat) (M M' : xm) : Prop := ∀ q, (q < u ∨ u + 15 ≤ q) → q ≠ 1004 → q ≠ 1005 → M' q = M q
def frP (M M' : xm) : Prop := (∀ q, q ≠ 1 → q ≠ 6 → q ≠ 8 → M' q = M q) ∧ ∀ j, (j < 4 ∨ 322 ≤ j) → M' 1 j = M 1 j
theorem frX.l {u : Nat} {M M' : xm} (h : frX u M M') : frL u M M' := fun q c _ _ => h q c
theorem frY.p {M M' : xm} (h : frY M M') : frP M M' := ⟨fun q c _ _ => h.1 q c, h.2⟩
theorem frL.tr {u : Nat} {M M' M'' : xm} (h : frL u M M') (h' : frL u M' M'') : frL u M M'' := fun q c a b => (h' q c a b).trans (h q c a b)
theorem frP.tr {M M' M'' : xm} (h : frP M M') (h' : frP M' M'') : frP M M'' := ⟨fun q c a b => (h'.1 q c a b).trans (h.1 q c a b), fun q c => (h'.2 q c).trans (h.2 q c)⟩
theorem frL.rfl {u : Nat} {M : xm} : frL u M M := fun _ _ _ _ => Eq.refl _
theorem frP.rfl {M : xm} : frP M M := ⟨fun _ _ _ _ => Eq.refl _, fun _ _ => Eq.refl _⟩
def PkX (TX : xm → Prop) (u : Nat) (o : Option Nat) (π : hs → Nat → Bool) : Prop := ∀ (M : xm) (s : hs) (a : Int32) (p : Nat), RX u M s → Ok s → TX M → a.toInt = (p : Int) → p < 8 → ∃ M', f_X3_picked o u M a = some (if π s p = true then 1 else 0, M') ∧ ∀ q, q ≠ 1004 → q ≠ 1005 → M' q = M q
def PkY (TY : xm → Prop) (π : hs → Nat → Bool) : Prop := ∀ (M : xm) (L : xn) (s : hs) (a : Int32) (p : Nat), RY M s → Ok s → La7 s → TY M → a.toInt = (p : Int) → p < 8 → ∃ M' L', f_X10_doesPick M L (M 1 1) a = some (if π s p = true then 1 else 0, M', L') ∧ ∀ q, q ≠ 6 → q ≠ 8 → M' q = M q
def PiC (π : hs → Nat → Bool) : Prop := ∀ s t : hs, (∀ i, s 0 i = t 0 i) → (∀ i, s 5 i = t 5 i) → (∀ i, s 6 i = t 6 i) → (∀ i, s 7 i = 0 ↔ t 7 i = 0) → ∀ p, π s p = π t p
theorem RX.fr {u : Nat} {M M' : xm} {s : hs} (h : RX u M s) (hf : ∀ q, u ≤ q → q < u + 15 → M' q = M q) : RX u M' s := by
  refine ⟨fun k i hd => ?_, ?_⟩
  · rw [hf (u + k) (by omega) (by have := (xd_lt hd).1; omega)]; exact h.1 k i hd
  · obtain ⟨h1, h2, h3, h4⟩ := h.2
    unfold RXb
    rw [hf (u + 13) (by omega) (by omega), hf (u + 14) (by omega) (by omega)]
    exact ⟨h1, h2, h3, h4⟩
theorem x_mayBe {u : Nat} {M : xm} {s : hs} (h : RX u M s) {a : Int32} {p : Nat} (ha : a.toInt = (p : Int)) (hp : p < 8) : f_X1_mayBeEmptied u M a = some (if sCand s p then 1 else 0) := by
  unfold f_X1_mayBeEmptied
  rw [f_isPage_1 ha hp, if_neg n10, if_pos (i_in ha hp), i_ix ha]
  by_cases c1 : s 7 p = 1
  · rw [if_pos (by rw [i_eq, h.h hp, c1]; rfl)]
    by_cases c2 : (p : Int) = s 9 0
    · rw [if_pos (by rw [i_eq, ha, h.g (show 0 < 2 by omega)]; exact c2), if_neg (fun q => q.2.1 c2)]
    · rw [if_neg (by rw [i_eq, ha, h.g (show 0 < 2 by omega)]; exact c2)]
      by_cases c3 : (p : Int) = s 9 1
      · rw [if_pos (by rw [i_eq, ha, h.g (show 1 < 2 by omega)]; exact c3), if_neg (fun q => q.2.2 c3)]
      · rw [if_neg (by rw [i_eq, ha, h.g (show 1 < 2 by omega)]; exact c3), if_pos ⟨c1, c2, c3⟩]
  · rw [if_neg (by rw [i_eq, h.h hp]; exact c1), if_neg (fun q => c1 q.1)]
theorem y_isCand {M : xm} {s : hs} (h : RY M s) {a : Int32} {p : Nat} (ha : a.toInt = (p : Int)) (hp : p < 8) : f_X10_isCandidate M a = some (if sCand s p then 1 else 0) := by
  have e := yx 13 (b := 13) rfl ha (by omega)
  unfold f_X10_isCandidate
  rw [if_pos e.1, e.2]
  have g0 : (M 1 9).toInt = s 9 0 := h.g (show 0 < 2 by omega)
  have g1 : (M 1 10).toInt = s 9 1 := h.g (show 1 < 2 by omega)
  by_cases c1 : s 7 p = 1
  · rw [if_pos (by rw [i_eq, h.h hp, c1]; rfl)]
    by_cases c2 : (p : Int) = s 9 0
    · rw [if_pos (by rw [i_eq, ha, g0]; exact c2), if_neg (fun q => q.2.1 c2)]
    · rw [if_neg (by rw [i_eq, ha, g0]; exact c2)]
      by_cases c3 : (p : Int) = s 9 1
      · rw [if_pos (by rw [i_eq, ha, g1]; exact c3), if_neg (fun q => q.2.2 c3)]
      · rw [if_neg (by rw [i_eq, ha, g1]; exact c3), if_pos ⟨c1, c2, c3⟩]
  · rw [if_neg (by rw [i_eq, h.h hp]; exact c1), if_neg (fun q => c1 q.1)]
theorem sFP_5 {s : hs} {p q : Nat} (h : q ≠ p) : sFP s p 5 q = s 5 q := by
  rw [sFP_at q (by decide), if_neg (by omega), if_neg (by omega), if_neg (fun z => h z.2)]
theorem sFP_9 {s : hs} {p q : Nat} : sFP s p 9 q = s 9 q := by
  rw [sFP_at q (by decide), if_neg (by omega), if_neg (by omega), if_neg (by omega)]
theorem x_nl_loop {u : Nat} (s : hs) : ∀ (d p f : Nat) (M : xm) (t : hs) (x : Int32), p + d = 8 → d < f → RX u M t → Ok t → (∀ q, p ≤ q → t 7 q = s 7 q ∧ t 5 q = s 5 q) → (∀ q, t 9 q = s 9 q) → x.toInt = (p : Int) → ∃ M', g_X1_freePagesWithoutLife_2 u f M x = some M' ∧ RX u M' (sFS t (qNL s) d p) ∧ frX u M M' := by
  intro d
  induction d with
  | zero =>
    intro p f M t x hp hf h o h7 h9 hx
    obtain ⟨f, rfl⟩ : ∃ q, f = q + 1 := ⟨f - 1, by omega⟩
    unfold g_X1_freePagesWithoutLife_2
    rw [if_pos (by rw [i_le, hx]; simp only [Int32.reduceToInt]; omega)]
    exact ⟨M, rfl, h, frX.rfl⟩
  | succ d ih =>
    intro p f M t x hp hf h o h7 h9 hx
    obtain ⟨f, rfl⟩ : ∃ q, f = q + 1 := ⟨f - 1, by omega⟩
    have nx : (x + 1).toInt = ((p + 1 : Nat) : Int) := by rw [i_add hx (b := 1) rfl (by omega) (by omega)]; omega
    have a7 := h7 p (by omega)
    have cc : sCand t p ↔ sCand s p := by
      show (_ ∧ _ ∧ _) ↔ (_ ∧ _ ∧ _)
      rw [a7.1, h9, h9]
    have stay := ih (p + 1) f M t (x + 1) (by omega) (by omega) h o (fun q hq => h7 q (by omega)) h9 nx
    unfold g_X1_freePagesWithoutLife_2 sFS
    rw [if_neg (by rw [i_le, hx]; simp only [Int32.reduceToInt]; omega), x_mayBe h hx (by omega), xb1_some]
    simp only [xlet_eq]
    by_cases c : sCand s p
    · rw [if_pos (cc.mpr c), if_neg n10, if_pos (i_in hx (by omega)), i_ix hx]
      by_cases c5 : s 5 p = 0
      · obtain ⟨M1, k1, k2, k3⟩ := x_freePage h o hx (by omega)
        rw [if_pos (by rw [i_eq, h.l (show p < 8 by omega), a7.2, c5]; rfl), k1, xb1_some, if_pos (show qNL s p = true from decide_eq_true ⟨c, c5⟩)]
        obtain ⟨M', r1, r2, r3⟩ := ih (p + 1) f M1 (sFP t p) (x + 1) (by omega) (by omega) k2 (Ok_FP o (by omega)) (fun q hq => by rw [sFP_7 (by omega), sFP_5 (by omega)]; exact h7 q (by omega)) (fun q => by rw [sFP_9]; exact h9 q) nx
        exact ⟨M', r1, r2, frX.tr k3 r3⟩
      · rw [if_neg (by rw [i_eq, h.l (show p < 8 by omega), a7.2]; exact c5), if_neg (show ¬ qNL s p = true from fun q => c5 (of_decide_eq_true q).2)]
        exact stay
    · rw [if_neg (fun q => c (cc.mp q)), if_pos rfl, if_neg (show ¬ qNL s p = true from fun q => c (of_decide_eq_true q).1)]
      exact stay
theorem y_nl_loop {L : xn} (s : hs) : ∀ (d p f : Nat) (M : xm) (t : hs) (x : Int32), p + d = 8 → d < f → RY M t → Ok t → Lay t → (∀ q, p ≤ q → t 7 q = s 7 q ∧ t 5 q = s 5 q) → (∀ q, t 9 q = s 9 q) → x.toInt = (p : Int) → ∃ M', g_X10_chooseNow_26 L f M x = some M' ∧ RY M' (sFS t (qNL s) d p) ∧ frY M M' := by
  intro d
  induction d with
  | zero =>
    intro p f M t x hp hf h o l h7 h9 hx
    obtain ⟨f, rfl⟩ : ∃ q, f = q + 1 := ⟨f - 1, by omega⟩
    unfold g_X10_chooseNow_26
    rw [if_pos (by rw [i_le, hx]; simp only [Int32.reduceToInt]; omega)]
    exact ⟨M, rfl, h, frY.rfl⟩
  | succ d ih =>
    intro p f M t x hp hf h o l h7 h9 hx
    obtain ⟨f, rfl⟩ : ∃ q, f = q + 1 := ⟨f - 1, by omega⟩
    have nx : (x + 1).toInt = ((p + 1 : Nat) : Int) := by rw [i_add hx (b := 1) rfl (by omega) (by omega)]; omega
    have a7 := h7 p (by omega)
    have cc : sCand t p ↔ sCand s p := by
      show (_ ∧ _ ∧ _) ↔ (_ ∧ _ ∧ _)
      rw [a7.1, h9, h9]
    have stay := ih (p + 1) f M t (x + 1) (by omega) (by omega) h o l (fun q hq => h7 q (by omega)) h9 nx
    unfold g_X10_chooseNow_26 sFS
    rw [if_neg (by rw [i_le, hx]; simp only [Int32.reduceToInt]; omega), y_isCand h hx (by omega), xb1_some]
    simp only [xlet_eq]
    by_cases c : sCand s p
    · obtain ⟨v, v1, v2⟩ := y_liveOf h o l.2.2.2.2.2.2 hx (by omega)
      rw [if_pos (cc.mpr c), if_neg n10, v1, xb1_some]
      by_cases c5 : s 5 p = 0
      · obtain ⟨M1, k1, k2, k3⟩ := y_freePage h o hx (by omega)
        rw [if_pos (by rw [i_eq, v2, a7.2, c5]; rfl), k1, xb1_some, if_pos (show qNL s p = true from decide_eq_true ⟨c, c5⟩)]
        have l' : Lay (sFP t p) := by
          have := Lay_FS (s := t) o l (Q := fun q => decide (q = p)) (fun u hu h' q => by
            have q := of_decide_eq_true q
            rw [h9] at q h'
            have og := o.g hu
            rw [h9] at og
            by_cases z : u = 0
            · subst z; have := c.2.1; omega
            · have z : u = 1 := by omega
              subst z; have := c.2.2; omega)
          obtain ⟨F1, F2', F3, F4, F5⟩ := FS_facts (s := t) (Q := fun q => decide (q = p))
          have e : ∀ k i, k ≠ 13 → (i < 64 ∨ (k ≠ 1 ∧ k ≠ 3)) → (i < 8 ∨ (k ≠ 5 ∧ k ≠ 6 ∧ k ≠ 7)) → sFS t (fun q => decide (q = p)) 8 0 k i = sFP t p k i := fun k i hk hi hj => by
            rw [sFP_at i hk]
            by_cases k1 : k = 1
            · subst k1
              by_cases z : i / 8 = p
              · rw [(F1 i (by omega) (decide_eq_true z)).1, if_pos ⟨rfl, z⟩]
              · rw [(F2' i (by omega) (fun y => z (of_decide_eq_true y))).1, if_neg (fun y => z y.2), if_neg (by omega), if_neg (by omega)]
            · by_cases k3 : k = 3
              · subst k3
                by_cases z : i / 8 = p
                · rw [(F1 i (by omega) (decide_eq_true z)).2, if_neg (by omega), if_pos ⟨rfl, z⟩]
                · rw [(F2' i (by omega) (fun y => z (of_decide_eq_true y))).2, if_neg (by omega), if_neg (fun y => z y.2), if_neg (by omega)]
              · rw [if_neg (fun y => k1 y.1), if_neg (fun y => k3 y.1)]
                by_cases kk : k = 5 ∨ k = 6 ∨ k = 7
                · by_cases z : i = p
                  · rw [if_pos ⟨kk, z⟩]
                    have y := F3 i (by omega) (decide_eq_true z)
                    rcases kk with rfl | rfl | rfl
                    · exact y.1
                    · exact y.2.1
                    · exact y.2.2
                  · rw [if_neg (fun y => z y.2)]
                    have y := F4 i (fun y => z (of_decide_eq_true y))
                    rcases kk with rfl | rfl | rfl
                    · exact y.1
                    · exact y.2.1
                    · exact y.2.2
                · rw [if_neg (fun y => kk y.1), F5 k i k1 k3 (by omega) (by omega) (by omega) hk]
          obtain ⟨m1, m2, m3, m4, m5, m6, m7⟩ := this
          refine ⟨fun w hw hh => ?_, fun w hw hh j j1 j2 => ?_, fun w hw hu => ?_, fun w hw hm => ?_, fun q hq h0 => ?_, fun u hu hh => ?_, fun q hq => ?_⟩
          · rw [← e 1 w (by decide) (by omega) (by omega)] at hh ⊢
            rw [← e 6 (w / 8) (by decide) (by omega) (by omega)]; exact m1 w hw hh
          · rw [← e 1 w (by decide) (by omega) (by omega)] at hh j2
            have wj : w + j < 64 := by
              have a := m1 w hw hh
              have b := (Ok_FP o (show p < 8 by omega)).u (show w / 8 < 8 by omega)
              rw [← e 6 (w / 8) (by decide) (by omega) (by omega)] at b
              omega
            rw [← e 1 (w + j) (by decide) (by omega) (by omega)]; exact m2 w hw hh j j1 j2
          · rw [← e 6 (w / 8) (by decide) (by omega) (by omega)] at hu
            rw [← e 1 w (by decide) (by omega) (by omega), ← e 3 w (by decide) (by omega) (by omega)]; exact m3 w hw hu
          · rw [← e 3 w (by decide) (by omega) (by omega)] at hm
            rw [← e 1 w (by decide) (by omega) (by omega)]; exact m4 w hw hm
          · rw [← e 7 q (by decide) (by omega) (by omega)] at h0
            rw [← e 6 q (by decide) (by omega) (by omega)]; exact m5 q hq h0
          · have e9 := e 9 u (by decide) (by omega) (by omega)
            rw [← e9] at hh ⊢
            have og := (Ok_FP o (show p < 8 by omega)).g hu
            rw [← e9] at og
            rw [← e 7 _ (by decide) (by omega) (by omega)]; exact m6 u hu hh
          · rw [← e 5 q (by decide) (by omega) (by omega), m7 q hq]
            unfold sLive
            refine sLv_eq 8 _ (fun i i1 i2 => ?_)
            rw [e 3 i (by decide) (by omega) (by omega), e 1 i (by decide) (by omega) (by omega)]
            exact ⟨Iff.rfl, fun _ => rfl⟩
        obtain ⟨M', r1, r2, r3⟩ := ih (p + 1) f M1 (sFP t p) (x + 1) (by omega) (by omega) k2 (Ok_FP o (by omega)) l' (fun q hq => by rw [sFP_7 (by omega), sFP_5 (by omega)]; exact h7 q (by omega)) (fun q => by rw [sFP_9]; exact h9 q) nx
        exact ⟨M', r1, r2, frY.tr k3 r3⟩
      · rw [if_neg (by rw [i_eq, v2, a7.2]; exact c5), if_neg (show ¬ qNL s p = true from fun q => c5 (of_decide_eq_true q).2)]
        exact stay
    · rw [if_neg (fun q => c (cc.mp q)), if_pos rfl, if_neg (show ¬ qNL s p = true from fun q => c (of_decide_eq_true q).1)]
      exact stay
theorem how_step {t : hs} {B p : Nat} (hp : p < 8) : up2 (sHow t B) 7 p 2 = sHow t (B ||| 2 ^ p) := by
  funext k i
  rw [up2_ap]
  unfold sHow
  by_cases c : k = 7 ∧ i = p
  · rw [if_pos c, if_pos ⟨c.1, by omega, (tb_or B p i).mpr (Or.inr c.2)⟩]
  · rw [if_neg c]
    by_cases d : k = 7 ∧ i < 8 ∧ B.testBit i = true
    · rw [if_pos d, if_pos ⟨d.1, d.2.1, (tb_or B p i).mpr (Or.inl d.2.2)⟩]
    · rw [if_neg d, if_neg (fun q => ((tb_or B p i).mp q.2.2).elim (fun z => d ⟨q.1, q.2.1, z⟩) (fun z => c ⟨q.1, z⟩))]
theorem how_ok {t : hs} (o : Ok t) (B : Nat) : Ok (sHow t B) := by
  refine ⟨fun k i hd => ?_, o.2.1, fun j hj => o.2.2 j hj⟩
  unfold sHow
  split
  · rename_i q; rw [q.1]; exact ⟨by omega, by omega⟩
  · exact o.1 k i hd
theorem x_pick1 {TX : xm → Prop} {u : Nat} {ot : Option Nat} {π : hs → Nat → Bool} (hu : u + 15 ≤ 1004) (hT : TXs TX) (hP : PkX TX u ot π) (hC : PiC π) {t : hs} (o : Ok t) {L0 : Int} {lv : Nat} (hlv : lv ≤ 8) {z : Int32} (hz : z.toInt = (lv : Int)) (hL : L0 ≤ 1000) : ∀ (d p f B : Nat) (l : Int) (M : xm) (x y w : Int32), p + d = 8 → d < f → BI t L0 lv p B l → l ≤ 1000 → RX u M (sHow t B) → TX M → x.toInt = l → y = nI B → w.toInt = (p : Int) → ∃ r v M', g_X1_pickPages_26 u ot z f M x y w = some (r, v, M') ∧ r.toInt = (sSel1 t π lv d p B l).2 ∧ v = nI (sSel1 t π lv d p B l).1 ∧ (sSel1 t π lv d p B l).2 ≤ 1000 ∧ RX u M' (sHow t (sSel1 t π lv d p B l).1) ∧ TX M' ∧ frL u M M' := by
  intro d
  induction d with
  | zero =>
    intro p f B l M x y w hp hf hB hl h hTM hx hy hw
    obtain ⟨f, rfl⟩ : ∃ q, f = q + 1 := ⟨f - 1, by omega⟩
    unfold g_X1_pickPages_26
    rw [if_pos (by rw [i_le, hw]; simp only [Int32.reduceToInt]; omega)]
    exact ⟨x, y, M, rfl, hx, hy, hl, h, hTM, frL.rfl⟩
  | succ d ih =>
    intro p f B l M x y w hp hf hB hl h hTM hx hy hw
    obtain ⟨f, rfl⟩ : ∃ q, f = q + 1 := ⟨f - 1, by omega⟩
    have nx : (w + 1).toInt = ((p + 1 : Nat) : Int) := by rw [i_add hw (b := 1) rfl (by omega) (by omega)]; omega
    have p8 : p < 8 := by omega
    have stay := ih (p + 1) f B l M x y (w + 1) (by omega) (by omega) hB.next hl h hTM hx hy nx
    have h5 : (M (u + 5) p).toInt = t 5 p := h.l p8
    unfold g_X1_pickPages_26 sSel1
    rw [if_neg (by rw [i_le, hw]; simp only [Int32.reduceToInt]; omega), if_pos (i_in hw p8), i_ix hw]
    simp only [xlet_eq]
    by_cases c5 : t 5 p = lv
    · rw [if_pos (by rw [i_eq, h5, hz]; exact c5)]
      by_cases cl : (lv : Int) ≤ l
      · rw [if_neg (by rw [i_lt, hx, hz]; omega), x_mayBe h hw p8, xb1_some]
        have nB : ¬ B.testBit p = true := fun q => by have := (hB.2.1 p q).2.2; omega
        have cc : sCand (sHow t B) p ↔ sCand t p := by
          have e7 : sHow t B 7 p = t 7 p := by unfold sHow; rw [if_neg (fun q => nB q.2.2)]
          show (_ ∧ _ ∧ _) ↔ (_ ∧ _ ∧ _)
          rw [e7]; exact Iff.rfl
        by_cases c : sCand t p
        · obtain ⟨M1, k1, k2⟩ := hP M (sHow t B) w p h (how_ok o B) hTM hw p8
          have h1 : RX u M1 (sHow t B) := h.fr (fun q a b => k2 q (by omega) (by omega))
          have T1 : TX M1 := hT M M1 (fun q hq => k2 q (by omega) (by omega)) hTM
          have f1 : frL u M M1 := fun q _ a b => k2 q a b
          have pe : π (sHow t B) p = π t p := hC (sHow t B) t (fun i => rfl) (fun i => rfl) (fun i => rfl) (fun i => by
            unfold sHow
            by_cases q : 7 = 7 ∧ i < 8 ∧ B.testBit i = true
            · rw [if_pos q]
              have := (hB.2.1 i q.2.2).2.1.1
              omega
            · rw [if_neg q]) p
          rw [if_pos (cc.mpr c), if_neg n10, k1, xb2_some, pe]
          by_cases cp : π t p = true
          · have lz : (x - z).toInt = l - lv := i_sub hx hz (by have := hB.2.2.1; omega) (by omega)
            have h2 : RX u (up2 M1 (u + 7) p 2) (sHow t (B ||| 2 ^ p)) := by
              rw [← how_step p8]; exact h1.up (by decide) rfl
            have T2 : TX (up2 M1 (u + 7) p 2) := hT M1 _ (fun q hq => by funext j; rw [up2_ap, if_neg (by omega)]) T1
            rw [if_pos cp, if_neg n10, if_pos (c := sCand t p ∧ t 5 p = lv ∧ (lv : Int) ≤ l ∧ π t p = true) ⟨c, c5, cl, cp⟩]
            obtain ⟨r, v, M', r1, r2, r3, r4, r5, r6, r7⟩ := ih (p + 1) f (B ||| 2 ^ p) (l - lv) (up2 M1 (u + 7) p 2) (x - z) (y ||| ((1 : Int32) <<< (w &&& 31))) (w + 1) (by omega) (by omega) (hB.step p8 c c5 cl) (by omega) h2 T2 lz (by
              have hw' : w = nI p := by rw [i_eq, hw, nI_toInt (by omega)]
              rw [hy, hw']; exact bit_or B hB.1 p p8) nx
            exact ⟨r, v, M', r1, r2, r3, r4, r5, r6, frL.tr (frL.tr f1 (frX.up (by decide)).l) r7⟩
          · rw [if_neg cp, if_pos rfl, if_neg (c := sCand t p ∧ t 5 p = lv ∧ (lv : Int) ≤ l ∧ π t p = true) (fun q => cp q.2.2.2)]
            obtain ⟨r, v, M', r1, r2, r3, r4, r5, r6, r7⟩ := ih (p + 1) f B l M1 x y (w + 1) (by omega) (by omega) hB.next hl h1 T1 hx hy nx
            exact ⟨r, v, M', r1, r2, r3, r4, r5, r6, frL.tr f1 r7⟩
        · rw [if_neg (fun q => c (cc.mp q)), if_pos rfl, if_neg (c := sCand t p ∧ t 5 p = lv ∧ (lv : Int) ≤ l ∧ π t p = true) (fun q => c q.1)]
          exact stay
      · rw [if_pos (by rw [i_lt, hx, hz]; omega), if_neg (c := sCand t p ∧ t 5 p = lv ∧ (lv : Int) ≤ l ∧ π t p = true) (fun q => cl q.2.2.1)]
        exact stay
    · rw [if_neg (by rw [i_eq, h5, hz]; exact c5), if_neg (c := sCand t p ∧ t 5 p = lv ∧ (lv : Int) ≤ l ∧ π t p = true) (fun q => c5 q.2.1)]
      exact stay
theorem BI.next_lv {t : hs} {L0 : Int} {lv B : Nat} {l : Int} (h : BI t L0 lv 8 B l) : BI t L0 (lv + 1) 0 B l := by
  obtain ⟨b1, b2, b3, b4⟩ := h
  refine ⟨b1, fun q hq => ?_, b3, b4⟩
  have := b2 q hq
  exact ⟨this.1, this.2.1, by have := this.2.2; omega⟩
theorem x_pick {TX : xm → Prop} {u : Nat} {ot : Option Nat} {π : hs → Nat → Bool} (hu : u + 15 ≤ 1004) (hT : TXs TX) (hP : PkX TX u ot π) (hC : PiC π) {t : hs} (o : Ok t) {L0 : Int} (hL : L0 ≤ 1000) : ∀ (d lv f B : Nat) (l : Int) (M : xm) (x y z : Int32), lv + d = 9 → d < f → BI t L0 lv 0 B l → l ≤ 1000 → RX u M (sHow t B) → TX M → x.toInt = l → y = nI B → z.toInt = (lv : Int) → ∃ v M', g_X1_pickPages_16 u ot f M x y z = some (v, M') ∧ v = nI (sSel t π d lv B l).1 ∧ RX u M' (sHow t (sSel t π d lv B l).1) ∧ TX M' ∧ frL u M M' := by
  intro d
  induction d with
  | zero =>
    intro lv f B l M x y z hp hf hB hl h hTM hx hy hz
    obtain ⟨f, rfl⟩ : ∃ q, f = q + 1 := ⟨f - 1, by omega⟩
    unfold g_X1_pickPages_16
    rw [if_pos (by rw [i_lt, hz]; simp only [Int32.reduceToInt]; omega)]
    exact ⟨y, M, rfl, hy, h, hTM, frL.rfl⟩
  | succ d ih =>
    intro lv f B l M x y z hp hf hB hl h hTM hx hy hz
    obtain ⟨f, rfl⟩ : ∃ q, f = q + 1 := ⟨f - 1, by omega⟩
    obtain ⟨r, v, M1, r1, r2, r3, r4, r5, r6, r7⟩ := x_pick1 hu hT hP hC o (L0 := L0) (lv := lv) (by omega) hz hL 8 0 xfuel B l M x y 0 (by omega) (by unfold xfuel; omega) hB hl h hTM hx hy rfl
    unfold g_X1_pickPages_16 sSel
    rw [if_neg (by rw [i_lt, hz]; simp only [Int32.reduceToInt]; omega), r1, xb3_some, xlet_eq]
    obtain ⟨v', M', k1, k2, k3, k4, k5⟩ := ih (lv + 1) f _ _ M1 r v (z + 1) (by omega) (by omega) (BI.sel1 (π := π) 8 0 B l (by omega) hB).next_lv r4 r5 r6 r2 r3 (by rw [i_add hz (b := 1) rfl (by omega) (by omega)]; omega)
    exact ⟨v', M', k1, k2, k3, k4, frL.tr r7 k5⟩
theorem how_0 (t : hs) : sHow t 0 = t := by
  funext k i
  unfold sHow
  rw [if_neg (fun q => by have := q.2.2; rw [Nat.zero_testBit] at this; exact absurd this (by decide))]
theorem BI.zero (t : hs) : BI t (5 * popc (sFB t)) 1 0 0 (5 * popc (sFB t)) := by
  refine ⟨by omega, fun q hq => ?_, by omega, ?_⟩
  · rw [Nat.zero_testBit] at hq; exact absurd hq (by decide)
  · have : sm (fun q => if Nat.testBit 0 q = true then t 5 q else 0) 8 = sm (fun _ => 0) 8 := sm_eq 8 (fun i _ => by
      show (if Nat.testBit 0 i = true then t 5 i else 0) = 0
      rw [Nat.zero_testBit, if_neg (by decide)])
    rw [this, sm_const]; omega
theorem x_turnToMoving {TX : xm → Prop} {u : Nat} {ot : Option Nat} {π : hs → Nat → Bool} (hu : u + 15 ≤ 1004) (hT : TXs TX) (hP : PkX TX u ot π) (hC : PiC π) {M : xm} {s : hs} {G : Nat → Prop} (h : RX u M s) (hi : In s G no 6) (h1 : s 0 14 = 1) (hs0 : s 0 13 = 0) (ht : s 10 0 = -1 ∧ s 10 1 = -1) (hTM : TX M) : ∃ M', f_X1_turnToMoving u ot M = some (nI (popc (sBts (sC2 s) π)), M') ∧ RX u M' (sC4 s π) ∧ TX M' ∧ frL u M M' := by
  have o := hi.1
  have tx : ∀ {A B : xm}, frX u A B → TX A → TX B := fun {A B} f t => hT A B (fun q hq => f q (by omega)) t
  have i4 := hi.c4 h1 hs0 ht π
  have ofl : Ok (sFl s 2 64 (-1)) := by
    refine ⟨fun k i hd => ?_, o.2.1, fun j hj => o.2.2 j hj⟩
    unfold sFl
    split
    · rename_i q; rw [q.1]; exact ⟨by omega, by omega⟩
    · exact o.1 k i hd
  obtain ⟨M1, a1, a2, a3⟩ := x_fill h (k := 2) (n := 64) (v := -1) (z := -1) (by decide) (by decide) rfl
  obtain ⟨M2, b1, b2, b3⟩ := x_nl_loop s 8 0 xfuel M1 (sFl s 2 64 (-1)) 0 (by omega) (by unfold xfuel; omega) a2 ofl (fun q _ => ⟨rfl, rfl⟩) (fun q => rfl) rfl
  have o1 := Ok_FS (Q := qNL s) 8 0 _ (by omega) ofl
  have h3 : RX u (up2 (up2 M2 (u + 0) 15 2) (u + 0) 14 2) (sC2 s) := (b2.up (k := 0) (by decide) rfl).up (k := 0) (by decide) rfl
  have o2 : Ok (sC2 s) := by
    unfold sC2
    refine Ok.up ?_ (by decide) ⟨fun q => absurd q (by decide), fun _ => ⟨by omega, by omega⟩, fun q => absurd q (by decide), fun q => absurd q (by decide), fun q => absurd q (by decide), fun q => absurd q (by decide)⟩
    exact Ok.up o1 (by decide) ⟨fun q => absurd q (by decide), fun q => absurd q (by decide), fun _ => ⟨by omega, by omega⟩, fun q => absurd q (by decide), fun q => absurd q (by decide), fun q => absurd q (by decide)⟩
  have pl := popc_le _ (sFB_lt (sC2 s))
  have T2 := tx (frX.tr a3 b3) hTM
  have T3 : TX (up2 (up2 M2 (u + 0) 15 2) (u + 0) 14 2) := tx (frX.tr (frX.up (k := 0) (by decide)) (frX.up (k := 0) (by decide))) T2
  have fp := x_freePages h3
  obtain ⟨v, M4, c1, c2, c3, c4, c5⟩ := x_pick hu hT hP hC o2 (L0 := 5 * popc (sFB (sC2 s))) (by omega) 8 1 xfuel 0 (5 * popc (sFB (sC2 s))) _ (5 * nI (popc (sFB (sC2 s)))) 0 1 (by omega) (by unfold xfuel; omega) (BI.zero _) (by omega) (by rw [how_0]; exact h3) T3 (by rw [i_mul (x := 5) (a := 5) rfl (nI_toInt (n := popc (sFB (sC2 s))) (by omega)) (by omega) (by omega)]) rfl rfl
  have c2 : v = nI (sBts (sC2 s) π) := c2
  have c3 : RX u M4 (sHow (sC2 s) (sBts (sC2 s) π)) := c3
  obtain ⟨lf, B1, _⟩ := BI.bts (sC2 s) π
  have h5 : RX u (up2 M4 (u + 9) 1 (-1)) (sC3 s π) := c3.up (by decide) rfl
  have o3 : Ok (sC3 s π) := (how_ok o2 _).up (by decide) ⟨by omega, by omega⟩
  obtain ⟨M6, d1, d2, d3⟩ := x_write h5 o3 (z := (up2 M4 (u + 9) 1 (-1)) u 17) (a := 2) (b := v) (kd := 2) (v := sBts (sC2 s) π) h5.clock rfl (by rw [c2, nI_toInt (by omega)])
  have f3 : frL u M (up2 (up2 M2 (u + 0) 15 2) (u + 0) 14 2) := (frX.tr (frX.tr a3 b3) (frX.tr (frX.up (k := 0) (by decide)) (frX.up (k := 0) (by decide)))).l
  unfold f_X1_turnToMoving f_X1_freePagesWithoutLife f_X1_pickPages
  rw [a1, xb1_some, b1, xb1_some, xb1_some]
  simp only [xlet_eq]
  have fp' : f_X1_freePages u (up2 (up2 M2 u 15 2) u 14 2) = some (nI (sFB (sC2 s))) := fp
  rw [fp', xb1_some, bit_count _ (sFB_lt (sC2 s))]
  have c1' : g_X1_pickPages_16 u ot xfuel (up2 (up2 M2 u 15 2) u 14 2) (5 * nI (popc (sFB (sC2 s)))) 0 1 = some (v, M4) := c1
  rw [c1', xb2_some, xb2_some, d1, xb1_some, c2, bit_count _ B1]
  have f4 : frX u M4 M6 := frX.tr (frX.up (by decide)) d3
  exact ⟨M6, rfl, d2, tx f4 c4, frL.tr (frL.tr f3 c5) f4.l⟩
