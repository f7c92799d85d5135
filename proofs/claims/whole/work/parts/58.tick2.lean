/-! a tick, by both -/
theorem x_canChoose {u : Nat} {M : xm} {s : hs} (h : RX u M s) : f_X1_canChoose u M = some (if s 0 14 = 1 ∧ s 0 13 = 0 ∧ s 10 0 = -1 ∧ s 10 1 = -1 then 1 else 0) := by
  unfold f_X1_canChoose
  rw [x_threadsBegun h]
  by_cases c1 : s 0 14 = 1
  · rw [if_pos (by rw [i_eq, h.phase, c1]; rfl)]
    by_cases c2 : s 0 13 = 0
    · rw [if_pos (by rw [i_eq, h.stacked, c2]; rfl), xb1_some]
      by_cases t0 : s 10 0 = -1
      · by_cases t1 : s 10 1 = -1
        · rw [if_pos t0, if_pos t1, if_pos (by decide), if_pos ⟨c1, c2, t0, t1⟩]
        · rw [if_pos t0, if_neg t1, if_neg (by decide), if_neg (fun q => t1 q.2.2.2)]
      · rw [if_neg t0]
        by_cases t1 : s 10 1 = -1
        · rw [if_pos t1, if_neg (by decide), if_neg (fun q => t0 q.2.2.1)]
        · rw [if_neg t1, if_neg (by decide), if_neg (fun q => t0 q.2.2.1)]
    · rw [if_neg (by rw [i_eq, h.stacked]; exact c2), if_neg (fun q => c2 q.2.1)]
  · rw [if_neg (by rw [i_eq, h.phase]; exact c1), if_neg (fun q => c1 q.1)]
theorem x_canMark {u : Nat} {M : xm} {s : hs} (h : RX u M s) : f_X1_canMark u M = some (if s 0 14 = 0 ∧ s 10 0 = -1 ∧ s 10 1 = -1 then 1 else 0) := by
  unfold f_X1_canMark
  rw [x_threadsBegun h]
  by_cases c1 : s 0 14 = 0
  · rw [if_pos (by rw [i_eq, h.phase, c1]; rfl), xb1_some]
    by_cases t0 : s 10 0 = -1
    · by_cases t1 : s 10 1 = -1
      · rw [if_pos t0, if_pos t1, if_pos (by decide), if_pos ⟨c1, t0, t1⟩]
      · rw [if_pos t0, if_neg t1, if_neg (by decide), if_neg (fun q => t1 q.2.2)]
    · rw [if_neg t0]
      by_cases t1 : s 10 1 = -1
      · rw [if_pos t1, if_neg (by decide), if_neg (fun q => t0 q.2.1)]
      · rw [if_neg t1, if_neg (by decide), if_neg (fun q => t0 q.2.1)]
  · rw [if_neg (by rw [i_eq, h.phase]; exact c1), if_neg (fun q => c1 q.1)]
theorem y_canChoose {M : xm} {s : hs} (h : RY M s) : f_X10_canChoose M = some (if s 0 14 = 1 ∧ s 0 13 = 0 ∧ s 10 0 = -1 ∧ s 10 1 = -1 then 1 else 0) := by
  unfold f_X10_canChoose
  rw [y_areThreads h]
  by_cases c1 : s 0 14 = 1
  · rw [if_pos (by rw [i_eq, h.phase, c1]; rfl)]
    by_cases c2 : s 0 13 = 0
    · rw [if_pos (by rw [i_eq, h.stacked, c2]; rfl), xb1_some]
      by_cases t : s 10 0 = -1 ∧ s 10 1 = -1
      · rw [if_pos t, if_pos rfl, if_pos ⟨c1, c2, t⟩]
      · rw [if_neg t, if_neg n10, if_neg (fun q => t q.2.2)]
    · rw [if_neg (by rw [i_eq, h.stacked]; exact c2), if_neg (fun q => c2 q.2.1)]
  · rw [if_neg (by rw [i_eq, h.phase]; exact c1), if_neg (fun q => c1 q.1)]
theorem y_canStart {M : xm} {s : hs} (h : RY M s) : f_X10_canStart M = some (if s 0 14 = 0 ∧ s 10 0 = -1 ∧ s 10 1 = -1 then 1 else 0) := by
  unfold f_X10_canStart
  rw [y_areThreads h]
  by_cases c1 : s 0 14 = 0
  · rw [if_pos (by rw [i_eq, h.phase, c1]; rfl), xb1_some]
    by_cases t : s 10 0 = -1 ∧ s 10 1 = -1
    · rw [if_pos t, if_pos rfl, if_pos ⟨c1, t⟩]
    · rw [if_neg t, if_neg n10, if_neg (fun q => t q.2)]
  · rw [if_neg (by rw [i_eq, h.phase]; exact c1), if_neg (fun q => c1 q.1)]
theorem x_tick {TX : xm → Prop} {u : Nat} {ot : Option Nat} {π : hs → Nat → Bool} (hu : u + 15 ≤ 1004) (hT : TXs TX) (hP : PkX TX u ot π) (hC : PiC π) {M : xm} {s : hs} {G : Nat → Prop} (h : RX u M s) (hi : In s G no 6) (hc : s 0 17 < 10500) (hTM : TX M) : ∃ M', f_X1_tick u ot M = some M' ∧ RX u M' (sTick s π) ∧ TX M' ∧ frL u M M' := by
  have o := hi.1
  have oc := o.clock
  have os := o.stacked
  have tx : ∀ {A B : xm}, frX u A B → TX A → TX B := fun {A B} f t => hT A B (fun q hq => f q (by omega)) t
  have s17 : sOp s π 0 17 = s 0 17 := sOp_17 (Or.inl rfl)
  -- the clock goes on
  have fin : ∀ M', RX u M' (sOp s π) → TX M' → frL u M M' → RX u (up2 M' (u + 0) 17 (M' u 17 + 1)) (sTick s π) ∧ TX (up2 M' (u + 0) 17 (M' u 17 + 1)) ∧ frL u M (up2 M' (u + 0) 17 (M' u 17 + 1)) := by
    intro M' h' t' f'
    have c17 : (M' u 17).toInt = s 0 17 := by rw [h'.clock, s17]
    exact ⟨h'.up (by decide) (i_add c17 (b := 1) rfl (by omega) (by omega)), tx (frX.up (k := 0) (by decide)) t', frL.tr f' (frX.up (k := 0) (by decide)).l⟩
  unfold f_X1_tick
  simp only [xlet_eq]
  by_cases c2 : s 0 14 = 2
  · obtain ⟨M', k1, k2, k3⟩ := x_moveOne h hi c2
    have e : sOp s π = sMoveOne s := by unfold sOp; rw [if_pos c2]
    rw [if_pos (by rw [i_eq, h.phase, c2]; rfl), k1, xb1_some]
    have := fin M' (by rw [e]; exact k2) (tx k3 hTM) k3.l
    exact ⟨_, rfl, this.1, this.2.1, this.2.2⟩
  · rw [if_neg (by rw [i_eq, h.phase]; exact c2), x_canChoose h, x_canMark h, xb1_some]
    by_cases cm : s 0 14 = 1 ∧ 0 < s 0 13
    · obtain ⟨M', k1, k2, k3⟩ := x_markOne h hi cm.1 cm.2
      have e : sOp s π = sMark1 s := by unfold sOp; rw [if_neg c2, if_pos cm]
      rw [if_pos (c := M u 14 = 1) (by rw [i_eq, h.phase, cm.1]; rfl), if_neg (c := M u 13 ≤ 0) (by rw [i_le, h.stacked]; simp only [Int32.reduceToInt]; omega), k1, xb1_some]
      have := fin M' (by rw [e]; exact k2) (tx k3 hTM) k3.l
      exact ⟨_, rfl, this.1, this.2.1, this.2.2⟩
    · have go : ∃ M', (if (if s 0 14 = 1 ∧ s 0 13 = 0 ∧ s 10 0 = -1 ∧ s 10 1 = -1 then (1 : Int32) else 0) = 0 then xb1 (some (if s 0 14 = 0 ∧ s 10 0 = -1 ∧ s 10 1 = -1 then (1 : Int32) else 0)) (fun v8 => if v8 = 0 then some (up2 M u 17 (M u 17 + 1)) else xb1 (f_X1_turnToMarking u M) (fun M13 => xb1 (f_X1_mendRoots u M13) (fun M16 => some (up2 M16 u 17 (M16 u 17 + 1))))) else xb2 (f_X1_turnToMoving u ot M) (fun _ M21 => xb1 (f_X1_mendRoots u M21) (fun M24 => some (up2 M24 u 17 (M24 u 17 + 1))))) = some M' ∧ RX u M' (sTick s π) ∧ TX M' ∧ frL u M M' := by
        by_cases cc : s 0 14 = 1 ∧ s 0 13 = 0 ∧ s 10 0 = -1 ∧ s 10 1 = -1
        · obtain ⟨M1, k1, k2, k3, k4⟩ := x_turnToMoving hu hT hP hC h hi cc.1 cc.2.1 cc.2.2 hTM
          obtain ⟨M2, r1, r2, r3⟩ := x_mendRoots k2 (hi.c4 cc.1 cc.2.1 cc.2.2 π)
          have e : sOp s π = sChoose s π := by unfold sOp; rw [if_neg c2, if_neg cm, if_pos ⟨cc.1, cc.2.2⟩]
          rw [if_pos cc, if_neg n10, k1, xb2_some, r1, xb1_some]
          have := fin M2 (by rw [e]; exact r2) (tx r3 k3) (frL.tr k4 r3.l)
          exact ⟨_, rfl, this.1, this.2.1, this.2.2⟩
        · have nc : ¬ (s 0 14 = 1 ∧ s 10 0 = -1 ∧ s 10 1 = -1) := fun q => cc ⟨q.1, by have : ¬ 0 < s 0 13 := fun z => cm ⟨q.1, z⟩; omega, q.2⟩
          rw [if_neg cc, if_pos rfl, xb1_some]
          by_cases cs : s 0 14 = 0 ∧ s 10 0 = -1 ∧ s 10 1 = -1
          · obtain ⟨M1, k1, k2, k3⟩ := x_turnToMarking h o
            obtain ⟨M2, r1, r2, r3⟩ := x_mendRoots k2 (hi.tm cs.1 cs.2)
            have e : sOp s π = sStart s := by unfold sOp; rw [if_neg c2, if_neg cm, if_neg nc, if_pos cs]
            rw [if_pos cs, if_neg n10, k1, xb1_some, r1, xb1_some]
            have := fin M2 (by rw [e]; exact r2) (tx (frX.tr k3 r3) hTM) (frX.tr k3 r3).l
            exact ⟨_, rfl, this.1, this.2.1, this.2.2⟩
          · have e : sOp s π = s := by unfold sOp; rw [if_neg c2, if_neg cm, if_neg nc, if_neg cs]
            rw [if_neg cs, if_pos rfl]
            have := fin M (by rw [e]; exact h) hTM frL.rfl
            exact ⟨_, rfl, this.1, this.2.1, this.2.2⟩
      by_cases c1 : s 0 14 = 1
      · rw [if_pos (c := M u 14 = 1) (by rw [i_eq, h.phase, c1]; rfl), if_pos (c := M u 13 ≤ 0) (by rw [i_le, h.stacked]; simp only [Int32.reduceToInt]; have : ¬ 0 < s 0 13 := fun z => cm ⟨c1, z⟩; omega)]
        exact go
      · rw [if_neg (c := M u 14 = 1) (by rw [i_eq, h.phase]; exact c1)]
        exact go
theorem y_tick {TY : xm → Prop} {π : hs → Nat → Bool} (hT : TYs TY) (hP : PkY TY π) {M : xm} {L : xn} {s : hs} {G : Nat → Prop} (h : RY M s) (hi : In s G no 6) (hc : s 0 17 < 10500) (hTM : TY M) : ∃ M' L', f_X10_tick M L = some (M', L') ∧ RY M' (sTick s π) ∧ TY M' ∧ frP M M' := by
  have o := hi.1
  have oc := o.clock
  have os := o.stacked
  have ty : ∀ {A B : xm}, frY A B → TY A → TY B := fun {A B} f t => hT A B (f.1 3 (by decide)) (fun j hj => f.2 j (by omega)) t
  have s17 : sOp s π 0 17 = s 0 17 := sOp_17 (Or.inl rfl)
  have fin : ∀ M', RY M' (sOp s π) → TY M' → frP M M' → RY (up2 M' 1 4 (M' 1 4 + 1)) (sTick s π) ∧ TY (up2 M' 1 4 (M' 1 4 + 1)) ∧ frP M (up2 M' 1 4 (M' 1 4 + 1)) := by
    intro M' h' t' f'
    have c17 : (M' 1 4).toInt = s 0 17 := by rw [h'.clock, s17]
    exact ⟨RY.up h' (k := 0) (i := 17) (by decide) (by decide) (i_add c17 (b := 1) rfl (by omega) (by omega)), ty (frY.up (by omega)) t', frP.tr f' (frY.up (by omega)).p⟩
  unfold f_X10_tick
  simp only [xlet_eq]
  by_cases c2 : s 0 14 = 2
  · obtain ⟨M', k1, k2, k3⟩ := y_oneMove h hi c2
    have e : sOp s π = sMoveOne s := by unfold sOp; rw [if_pos c2]
    rw [if_pos (by rw [i_eq, h.phase, c2]; rfl), k1, xb1_some]
    have := fin M' (by rw [e]; exact k2) (ty k3 hTM) k3.p
    exact ⟨_, L, rfl, this.1, this.2.1, this.2.2⟩
  · rw [if_neg (by rw [i_eq, h.phase]; exact c2), y_canChoose h, y_canStart h, xb1_some]
    by_cases cm : s 0 14 = 1 ∧ 0 < s 0 13
    · obtain ⟨M', k1, k2, k3⟩ := y_markNow h hi cm.1 cm.2
      have e : sOp s π = sMark1 s := by unfold sOp; rw [if_neg c2, if_pos cm]
      rw [if_pos (c := M 1 6 = 1) (by rw [i_eq, h.phase, cm.1]; rfl), if_neg (c := M 1 8 ≤ 0) (by rw [i_le, h.stacked]; simp only [Int32.reduceToInt]; omega), k1, xb1_some]
      have := fin M' (by rw [e]; exact k2) (ty k3 hTM) k3.p
      exact ⟨_, L, rfl, this.1, this.2.1, this.2.2⟩
    · have go : ∃ M' L', (if (if s 0 14 = 1 ∧ s 0 13 = 0 ∧ s 10 0 = -1 ∧ s 10 1 = -1 then (1 : Int32) else 0) = 0 then xb1 (some (if s 0 14 = 0 ∧ s 10 0 = -1 ∧ s 10 1 = -1 then (1 : Int32) else 0)) (fun v8 => if v8 = 0 then some (up2 M 1 4 (M 1 4 + 1), L) else xb1 (f_X10_startNow M) (fun M13 => some (up2 M13 1 4 (M13 1 4 + 1), L))) else xb3 (f_X10_chooseNow M L) (fun _ M18 L19 => some (up2 M18 1 4 (M18 1 4 + 1), L19))) = some (M', L') ∧ RY M' (sTick s π) ∧ TY M' ∧ frP M M' := by
        by_cases cc : s 0 14 = 1 ∧ s 0 13 = 0 ∧ s 10 0 = -1 ∧ s 10 1 = -1
        · obtain ⟨M1, L1, k1, k2, k3, k4⟩ := y_chooseNow hT hP (L := L) h hi cc.1 cc.2.1 cc.2.2 hTM
          have e : sOp s π = sChoose s π := by unfold sOp; rw [if_neg c2, if_neg cm, if_pos ⟨cc.1, cc.2.2⟩]
          rw [if_pos cc, if_neg n10, k1, xb3_some]
          have := fin M1 (by rw [e]; exact k2) k3 k4
          exact ⟨_, L1, rfl, this.1, this.2.1, this.2.2⟩
        · have nc : ¬ (s 0 14 = 1 ∧ s 10 0 = -1 ∧ s 10 1 = -1) := fun q => cc ⟨q.1, by have : ¬ 0 < s 0 13 := fun z => cm ⟨q.1, z⟩; omega, q.2⟩
          rw [if_neg cc, if_pos rfl, xb1_some]
          by_cases cs : s 0 14 = 0 ∧ s 10 0 = -1 ∧ s 10 1 = -1
          · obtain ⟨M1, k1, k2, k3⟩ := y_startNow h hi cs.1 cs.2
            have e : sOp s π = sStart s := by unfold sOp; rw [if_neg c2, if_neg cm, if_neg nc, if_pos cs]
            rw [if_pos cs, if_neg n10, k1, xb1_some]
            have := fin M1 (by rw [e]; exact k2) (ty k3 hTM) k3.p
            exact ⟨_, L, rfl, this.1, this.2.1, this.2.2⟩
          · have e : sOp s π = s := by unfold sOp; rw [if_neg c2, if_neg cm, if_neg nc, if_neg cs]
            rw [if_neg cs, if_pos rfl]
            have := fin M (by rw [e]; exact h) hTM frP.rfl
            exact ⟨_, L, rfl, this.1, this.2.1, this.2.2⟩
      by_cases c1 : s 0 14 = 1
      · rw [if_pos (c := M 1 6 = 1) (by rw [i_eq, h.phase, c1]; rfl), if_pos (c := M 1 8 ≤ 0) (by rw [i_le, h.stacked]; simp only [Int32.reduceToInt]; have : ¬ 0 < s 0 13 := fun z => cm ⟨c1, z⟩; omega)]
        exact go
      · rw [if_neg (c := M 1 6 = 1) (by rw [i_eq, h.phase]; exact c1)]
        exact go
