/-! marking begins; one is marked -/
def sFl (s : hs) (k n : Nat) (v : Int) : hs := fun q i => if q = k ∧ i < n then v else s q i
theorem sFl_k {s : hs} {k n q : Nat} {v : Int} (i : Nat) (h : q ≠ k) : sFl s k n v q i = s q i := by
  unfold sFl; rw [if_neg (fun z => h z.1)]
theorem sFl_up {s : hs} {k n k' i : Nat} {v z : Int} (h : k' ≠ k) : sFl (up2 s k' i z) k n v = up2 (sFl s k n v) k' i z := by
  funext q j
  rw [up2_ap]
  unfold sFl
  rw [up2_ap]
  by_cases c : q = k' ∧ j = i
  · rw [if_pos c, if_neg (fun y => h (by rw [← c.1, y.1])), if_pos c]
  · rw [if_neg c, if_neg c]
theorem sFl_fl {s : hs} {k n k' n' : Nat} {v v' : Int} (h : k' ≠ k) : sFl (sFl s k' n' v') k n v = sFl (sFl s k n v) k' n' v' := by
  funext q j
  unfold sFl
  by_cases c : q = k ∧ j < n
  · rw [if_pos c, if_neg (fun y => h (by rw [← c.1, y.1])), if_pos c]
  · rw [if_neg c, if_neg c]
/-- a row filled, in memory -/
theorem fillLoop {o n : Nat} {v : Int32} {m : Int32} (hm : m.toInt = (n : Int)) (hn : n < 90000) : ∀ (d i f : Nat), i + d = n → d < f → ∀ (M : xm) (x : Int32), x.toInt = (i : Int) → ∃ M', g_J7_fill_53178_5 o n v m f M x = some M' ∧ ∀ q j, M' q j = if q = o ∧ i ≤ j ∧ j < n then v else M q j := by
  intro d
  induction d with
  | zero =>
    intro i f hi hf M x hx
    obtain ⟨f, rfl⟩ : ∃ q, f = q + 1 := ⟨f - 1, by omega⟩
    unfold g_J7_fill_53178_5
    rw [if_pos (by rw [i_le, hm, hx]; omega)]
    exact ⟨M, rfl, fun q j => by rw [if_neg (by omega)]⟩
  | succ d ih =>
    intro i f hi hf M x hx
    obtain ⟨f, rfl⟩ : ∃ q, f = q + 1 := ⟨f - 1, by omega⟩
    unfold g_J7_fill_53178_5
    rw [if_neg (by rw [i_le, hm, hx]; omega), if_pos (i_in hx (by omega)), i_ix hx, xlet_eq, xlet_eq]
    obtain ⟨M', k1, k2⟩ := ih (i + 1) f (by omega) (by omega) (up2 M o i v) (x + 1) (by rw [i_add hx (b := 1) rfl (by omega) (by omega)]; omega)
    refine ⟨M', k1, fun q j => ?_⟩
    rw [k2, up2_ap]
    by_cases c : q = o ∧ i + 1 ≤ j ∧ j < n
    · rw [if_pos c, if_pos (by omega)]
    · rw [if_neg c]
      by_cases c2 : q = o ∧ j = i
      · rw [if_pos c2, if_pos (by omega)]
      · rw [if_neg c2, if_neg (by omega)]
theorem fill_raw {o n : Nat} (hn : n < 90000) (M : xm) (v : Int32) : ∃ M', f_J7_fill_53178 o n M v = some M' ∧ ∀ q j, M' q j = if q = o ∧ j < n then v else M q j := by
  have hm : (Int32.ofNat n).toInt = (n : Int) := nI_toInt (by omega)
  obtain ⟨M', k1, k2⟩ := fillLoop (o := o) (v := v) hm hn n 0 xfuel (by omega) (by unfold xfuel; omega) M 0 rfl
  unfold f_J7_fill_53178
  rw [xlet_eq, k1, xb1_some]
  exact ⟨M', rfl, fun q j => by rw [k2]; simp⟩
theorem RX.fill {u : Nat} {M M' : xm} {s : hs} (h : RX u M s) {k n : Nat} (hk : k < 13) {v : Int32} {z : Int} (hv : v.toInt = z) (hM : ∀ q j, M' q j = if q = u + k ∧ j < n then v else M q j) : RX u M' (sFl s k n z) ∧ frX u M M' := by
  refine ⟨⟨fun k' i' hd => ?_, ?_⟩, fun q hq => ?_⟩
  · rw [hM]
    unfold sFl
    by_cases c : k' = k ∧ i' < n
    · rw [if_pos ⟨by omega, c.2⟩, if_pos c, hv]
    · rw [if_neg (fun y => c ⟨by omega, y.2⟩), if_neg c]
      exact h.1 k' i' hd
  · obtain ⟨h1, h2, h3, h4⟩ := h.2
    have a : ∀ i' : Nat, M' (u + 13) i' = M (u + 13) i' := fun i' => by rw [hM, if_neg (by omega)]
    have b : ∀ i' : Nat, M' (u + 14) i' = M (u + 14) i' := fun i' => by rw [hM, if_neg (by omega)]
    have c : ∀ i' : Nat, sFl s k n z 13 i' = s 13 i' := fun i' => sFl_k i' (by omega)
    refine ⟨by rw [a, c]; exact h1, by rw [a]; exact h2, by rw [a]; exact h3, fun i' j' q q' => ?_⟩
    rw [c] at q
    rw [a, b, c]
    exact h4 i' j' q q'
  · funext j; rw [hM, if_neg (by omega)]
theorem x_fill {u : Nat} {M : xm} {s : hs} (h : RX u M s) {k n : Nat} (hk : k < 13) (hn : n < 90000) {v : Int32} {z : Int} (hv : v.toInt = z) : ∃ M', f_J7_fill_53178 (u + k) n M v = some M' ∧ RX u M' (sFl s k n z) ∧ frX u M M' := by
  obtain ⟨M', k1, k2⟩ := fill_raw (o := u + k) hn M v
  exact ⟨M', k1, h.fill hk hv k2⟩
theorem RYr.fl5 {a : Nat → Int32} {s : hs} (h : RYr a s) {n : Nat} {z : Int} : RYr a (sFl s 5 n z) := by
  refine ⟨fun k j hd hc => ?_, ?_, fun q hq => ?_⟩
  · have := (yd_x hd).2
    rw [sFl_k j this]
    exact h.1 k j hd (fun c => hc c)
  · exact h.2.1
  · exact h.2.2 q hq
/-- the marks' row, in the reference -/
theorem y_fill3_loop : ∀ (d i f : Nat), i + d = 64 → d < f → ∀ (M : xm) (s : hs) (x : Int32), RY M (fun k j => if k = 3 ∧ j < i then 0 else s k j) → x.toInt = (i : Int) → ∃ M', g_X10_startNow_48 f M x = some M' ∧ RY M' (sFl s 3 64 0) ∧ frY M M' := by
  intro d
  induction d with
  | zero =>
    intro i f hi hf M s x h hx
    obtain ⟨f, rfl⟩ : ∃ q, f = q + 1 := ⟨f - 1, by omega⟩
    unfold g_X10_startNow_48
    rw [if_pos (by rw [i_le, hx]; simp only [Int32.reduceToInt]; omega)]
    exact ⟨M, rfl, by rw [show i = 64 by omega] at h; exact h, frY.rfl⟩
  | succ d ih =>
    intro i f hi hf M s x h hx
    obtain ⟨f, rfl⟩ : ∃ q, f = q + 1 := ⟨f - 1, by omega⟩
    have e := yx 169 (b := 169) rfl hx (by omega)
    unfold g_X10_startNow_48
    rw [if_neg (by rw [i_le, hx]; simp only [Int32.reduceToInt]; omega), if_pos e.1, e.2, xlet_eq, xlet_eq]
    have h1 : RY (up2 M 1 (169 + i) 0) (up2 (fun k j => if k = 3 ∧ j < i then 0 else s k j) 3 i 0) := RY.up h (k := 3) (i := i) (yd_i (show i < 64 by omega) (by decide) (by decide)) (by decide) rfl
    have eq : up2 (fun k j => if k = 3 ∧ j < i then 0 else s k j) 3 i 0 = fun k j => if k = 3 ∧ j < i + 1 then 0 else s k j := by
      funext k j
      rw [up2_ap]
      by_cases c : k = 3 ∧ j = i
      · rw [if_pos c, if_pos (by omega)]
      · rw [if_neg c]
        by_cases c2 : k = 3 ∧ j < i
        · rw [if_pos c2, if_pos (by omega)]
        · rw [if_neg c2, if_neg (by omega)]
    rw [eq] at h1
    obtain ⟨M', k1, k2, k3⟩ := ih (i + 1) f (by omega) (by omega) _ s (x + 1) h1 (by rw [i_add hx (b := 1) rfl (by omega) (by omega)]; omega)
    exact ⟨M', k1, k2, frY.tr (frY.up (by omega)) k3⟩
/-- marking begins; the roots not yet mended -/
def sTM0 (s : hs) : hs := up2 (sFl (sFl (up2 (up2 (up2 s 0 16 (1 - s 0 16)) 0 15 (1 - s 0 16)) 0 14 1) 3 64 0) 5 8 0) 0 13 0
def sTM (s : hs) : hs := sWr (sTM0 s) 1 (1 - s 0 16)
theorem sTM0_0 (s : hs) : sTM0 s 0 13 = 0 ∧ sTM0 s 0 14 = 1 ∧ sTM0 s 0 15 = 1 - s 0 16 ∧ sTM0 s 0 16 = 1 - s 0 16 ∧ sTM0 s 0 17 = s 0 17 ∧ sTM0 s 0 18 = s 0 18 := ⟨rfl, rfl, rfl, rfl, rfl, rfl⟩
theorem sTM0_k {s : hs} {k : Nat} (i : Nat) (h0 : k ≠ 0) (h3 : k ≠ 3) (h5 : k ≠ 5) : sTM0 s k i = s k i := by
  unfold sTM0
  rw [up2_ap, if_neg (fun z => h0 z.1), sFl_k i h5, sFl_k i h3, up2_ap, if_neg (fun z => h0 z.1), up2_ap, if_neg (fun z => h0 z.1), up2_ap, if_neg (fun z => h0 z.1)]
theorem sTM0_3 {s : hs} (i : Nat) : sTM0 s 3 i = if i < 64 then 0 else s 3 i := by
  unfold sTM0
  rw [up2_ap, if_neg (by omega), sFl_k i (by decide)]
  unfold sFl
  by_cases c : i < 64
  · rw [if_pos ⟨rfl, c⟩, if_pos c]
  · rw [if_neg (fun z => c z.2), if_neg c]; rfl
theorem sTM0_5 {s : hs} (i : Nat) : sTM0 s 5 i = if i < 8 then 0 else s 5 i := by
  unfold sTM0
  rw [up2_ap, if_neg (by omega)]
  unfold sFl
  by_cases c : i < 8
  · rw [if_pos ⟨rfl, c⟩, if_pos c]
  · rw [if_neg (fun z => c z.2), if_neg c]; rfl
theorem Ok_TM0 {s : hs} (o : Ok s) : Ok (sTM0 s) := by
  have ol := o.latest
  have oc := o.clock
  have ox := o.x
  refine ⟨fun k i hd => ?_, ?_, fun j hj => ?_⟩
  · by_cases k0 : k = 0
    · subst k0
      refine ⟨fun q => ?_, fun q => ?_, fun q => ?_, fun q => ?_, fun q => ?_, fun q => ?_⟩
      · subst q; show (0 : Int) ≤ 0 ∧ (0 : Int) ≤ 64; omega
      · subst q; show (0 : Int) ≤ 1 ∧ (1 : Int) ≤ 2; omega
      · subst q; show 0 ≤ 1 - s 0 16 ∧ 1 - s 0 16 ≤ 2; omega
      · subst q; show 0 ≤ 1 - s 0 16 ∧ 1 - s 0 16 ≤ 1; omega
      · subst q; exact oc
      · subst q; exact ox
    · by_cases k3 : k = 3
      · subst k3; rw [sTM0_3]
        split
        · exact ⟨by omega, by omega⟩
        · exact o.1 3 i hd
      · by_cases k5 : k = 5
        · subst k5; rw [sTM0_5]
          split
          · exact ⟨by omega, by omega⟩
          · exact o.1 5 i hd
        · rw [sTM0_k i k0 k3 k5]; exact o.1 k i hd
  · exact o.2.1
  · exact o.2.2 j hj
theorem In.tm {s : hs} {G : Nat → Prop} (h : In s G no 6) (h0 : s 0 14 = 0) (ht : s 10 0 = -1 ∧ s 10 1 = -1) : In (sTM s) G no 0 := by
  obtain ⟨o, ⟨l1, l2, l3, l4, l5, l6, l7⟩, f2, ⟨g1, g2, g3, g4, g5, g6, g7, g8, g9, g10, g11, g12, g13, g14, g15⟩, rg⟩ := h
  have ol := o.latest
  have thr : ∀ t, t < 2 → s 10 t = -1 := fun t h2 => by
    by_cases q : t = 0
    · rw [q]; exact ht.1
    · rw [show t = 1 by omega]; exact ht.2
  have gd : s 0 15 = 2 := g14.2 (by omega)
  have wh : ∀ p, cOk s p → sWh (sTM0 s) p = sWh s p := fun p hc => by
    have col := hc.2.1 (by omega)
    show (if p / 64 = 1 - s 0 16 ∨ p / 64 = 2 ∨ s 2 (p % 64).toNat = -1 then (p % 64).toNat else (s 2 (p % 64).toNat).toNat) = if p / 64 = s 0 15 ∨ p / 64 = 2 ∨ s 2 (p % 64).toNat = -1 then (p % 64).toNat else (s 2 (p % 64).toNat).toNat
    rw [gd]
    by_cases c2 : p / 64 = 2
    · rw [if_pos (Or.inr (Or.inl c2)), if_pos (Or.inl c2)]
    · by_cases c3 : s 2 (p % 64).toNat = -1
      · rw [if_pos (Or.inr (Or.inr c3)), if_pos (Or.inr (Or.inr c3))]
      · rw [if_neg (fun q => q.elim (fun q => by omega) (fun q => q.elim c2 c3)), if_neg (fun q => q.elim c2 (fun q => q.elim c2 c3))]
  have pp : ∀ p, ptr s G p → ptr (sTM0 s) G p := fun p hp => by
    rcases hp with q | ⟨hc, hg⟩
    · exact Or.inl q
    · refine Or.inr ⟨⟨hc.1, fun q => absurd rfl q, fun _ q => ?_, fun q => ?_⟩, by rw [wh p hc]; exact hg⟩
      · have col := hc.2.1 (by omega)
        have q : p / 64 = 1 - s 0 16 := q
        omega
      · have q : (1 : Int) = 2 := q
        omega
  have base : In (sTM0 s) G no 0 := by
    refine ⟨Ok_TM0 o, ⟨l1, l2, ?_, ?_, l5, l6, ?_⟩, fun q => ?_, ⟨g1, ?_, ?_, ?_, ?_, g6, ?_, ?_, ?_, ?_, fun q => ?_, fun q => ?_, fun q => ?_, ?_, ?_⟩, fun r hr => absurd hr (by omega)⟩
    · intro w hw hu
      refine ⟨(l3 w hw hu).1, ?_⟩
      rw [sTM0_3, if_pos hw]
    · intro w hw hm
      rw [sTM0_3, if_pos hw] at hm; omega
    · intro p hp
      rw [sTM0_5, if_pos hp]
      unfold sLive
      have : sLv (sTM0 s) 8 (8 * p) = sLv (fun _ _ => 0) 8 (8 * p) := sLv_eq 8 _ (fun i _ _ => by
        rw [sTM0_3, if_pos (by omega)]
        exact ⟨by omega, by omega⟩)
      rw [this]
      simp [sLv]
    · have q : (1 : Int) = 2 := q
      omega
    · intro r hr; exact pp _ (g2 r hr)
    · intro w hw j j1 j2; exact pp _ (g3 w hw j j1 j2)
    · intro t ht' h10; exact absurd (thr t ht') h10
    · intro t ht' h10; exact absurd (thr t ht') h10
    · intro t ht' h10; exact absurd (thr t ht') h10
    · intro _ w hw hm
      rw [sTM0_3, if_pos hw] at hm; omega
    · intro _ i hi
      have hi : (i : Int) < 0 := hi
      omega
    · intro _
      show (0 : Int) ≤ _
      have : sm (sTM0 s 3) 64 = sm (fun _ => 0) 64 := sm_eq 64 (fun i hi => by rw [sTM0_3, if_pos hi])
      rw [this, sm_const]
      omega
    · have q : (1 : Int) = 2 := q
      omega
    · have q : (1 : Int) = 2 := q
      omega
    · have q : (1 : Int) = 2 := q
      omega
    · exact ⟨fun _ => rfl, fun q => absurd rfl q⟩
    · intro _ p hp; exact g15 (by omega) p hp
  exact base.wr (by omega) (by omega)
def sStart (s : hs) : hs := sMRs (sTM s) 6 0
theorem In.start {s : hs} {G : Nat → Prop} (h : In s G no 6) (h0 : s 0 14 = 0) (ht : s 10 0 = -1 ∧ s 10 1 = -1) : Inv (sStart s) :=
  In.mrs1 6 0 (sTM s) G (by omega) (h.tm h0 ht) rfl
theorem x_turnToMarking {u : Nat} {M : xm} {s : hs} (h : RX u M s) (o : Ok s) : ∃ M', f_X1_turnToMarking u M = some M' ∧ RX u M' (sTM s) ∧ frX u M M' := by
  have ol := o.latest
  unfold f_X1_turnToMarking
  simp only [xlet_eq]
  have h1 : RX u (up2 M (u + 0) 16 (1 - M u 16)) (up2 s 0 16 (1 - s 0 16)) := h.up (by decide) (i_sub (a := 1) rfl h.latest (by omega) (by omega))
  have h2 : RX u (up2 (up2 M (u + 0) 16 (1 - M u 16)) (u + 0) 15 ((up2 M (u + 0) 16 (1 - M u 16)) u 16)) (up2 (up2 s 0 16 (1 - s 0 16)) 0 15 (1 - s 0 16)) := h1.up (by decide) h1.latest
  have h3 : RX u (up2 (up2 (up2 M (u + 0) 16 (1 - M u 16)) (u + 0) 15 ((up2 M (u + 0) 16 (1 - M u 16)) u 16)) (u + 0) 14 1) (up2 (up2 (up2 s 0 16 (1 - s 0 16)) 0 15 (1 - s 0 16)) 0 14 1) := h2.up (by decide) rfl
  obtain ⟨M1, a1, a2, a3⟩ := x_fill h3 (k := 3) (n := 64) (v := 0) (z := 0) (by decide) (by decide) rfl
  obtain ⟨M2, b1, b2, b3⟩ := x_fill a2 (k := 5) (n := 8) (v := 0) (z := 0) (by decide) (by decide) rfl
  have h4 : RX u (up2 M2 (u + 0) 13 0) (sTM0 s) := b2.up (by decide) rfl
  obtain ⟨M3, c1, c2, c3⟩ := x_write h4 (Ok_TM0 o) (z := (up2 M2 (u + 0) 13 0) u 17) (a := 1) (b := (up2 M2 (u + 0) 13 0) u 15) (kd := 1) (v := 1 - s 0 16) h4.clock rfl h4.good
  have a1' : f_J7_fill_53178 (u + 3) 64 (up2 (up2 (up2 M u 16 (1 - M u 16)) u 15 ((up2 M u 16 (1 - M u 16)) u 16)) u 14 1) 0 = some M1 := a1
  rw [a1', xb1_some, b1, xb1_some]
  have c1' : f_X0_write (u + 13) (up2 M2 u 13 0) ((up2 M2 u 13 0) u 17) 1 ((up2 M2 u 13 0) u 15) = some M3 := c1
  rw [c1', xb1_some]
  refine ⟨M3, rfl, c2, ?_⟩
  exact frX.tr (frX.tr (frX.tr (frX.tr (frX.tr (frX.tr (frX.up (k := 0) (by decide)) (frX.up (k := 0) (by decide))) (frX.up (k := 0) (by decide))) a3) b3) (frX.up (k := 0) (by decide))) c3
theorem y_startNow {M : xm} {s : hs} {G : Nat → Prop} (h : RY M s) (hi : In s G no 6) (h0 : s 0 14 = 0) (ht : s 10 0 = -1 ∧ s 10 1 = -1) : ∃ M', f_X10_startNow M = some M' ∧ RY M' (sStart s) ∧ frY M M' := by
  have o := hi.1
  have ol := o.latest
  unfold f_X10_startNow
  simp only [xlet_eq]
  have h1 : RY (up2 M 1 11 (1 - M 1 11)) (up2 s 0 16 (1 - s 0 16)) := RY.up h (k := 0) (i := 16) (by decide) (by decide) (i_sub (a := 1) rfl h.latest (by omega) (by omega))
  have h2 : RY (up2 (up2 M 1 11 (1 - M 1 11)) 1 7 ((up2 M 1 11 (1 - M 1 11)) 1 11)) (up2 (up2 s 0 16 (1 - s 0 16)) 0 15 (1 - s 0 16)) := RY.up h1 (k := 0) (i := 15) (by decide) (by decide) h1.latest
  have h3 : RY (up2 (up2 (up2 M 1 11 (1 - M 1 11)) 1 7 ((up2 M 1 11 (1 - M 1 11)) 1 11)) 1 6 1) (up2 (up2 (up2 s 0 16 (1 - s 0 16)) 0 15 (1 - s 0 16)) 0 14 1) := RY.up h2 (k := 0) (i := 14) (by decide) (by decide) rfl
  have h4 : RY (up2 (up2 (up2 (up2 M 1 11 (1 - M 1 11)) 1 7 ((up2 M 1 11 (1 - M 1 11)) 1 11)) 1 6 1) 1 8 0) (up2 (up2 (up2 (up2 s 0 16 (1 - s 0 16)) 0 15 (1 - s 0 16)) 0 14 1) 0 13 0) := RY.up h3 (k := 0) (i := 13) (by decide) (by decide) rfl
  obtain ⟨M1, a1, a2, a3⟩ := y_fill3_loop 64 0 xfuel (by omega) (by unfold xfuel; omega) _ (up2 (up2 (up2 (up2 s 0 16 (1 - s 0 16)) 0 15 (1 - s 0 16)) 0 14 1) 0 13 0) 0 (by
    have : (fun k j => if k = 3 ∧ j < 0 then 0 else (up2 (up2 (up2 (up2 s 0 16 (1 - s 0 16)) 0 15 (1 - s 0 16)) 0 14 1) 0 13 0) k j) = (up2 (up2 (up2 (up2 s 0 16 (1 - s 0 16)) 0 15 (1 - s 0 16)) 0 14 1) 0 13 0) := by
      funext k j; rw [if_neg (by omega)]
    rw [this]; exact h4) rfl
  have a4 := RYr.fl5 (n := 8) (z := 0) a2
  have eq : sFl (sFl (up2 (up2 (up2 (up2 s 0 16 (1 - s 0 16)) 0 15 (1 - s 0 16)) 0 14 1) 0 13 0) 3 64 0) 5 8 0 = sTM0 s := by
    unfold sTM0
    rw [sFl_up (k := 3) (k' := 0) (i := 13) (by decide), sFl_up (k := 5) (k' := 0) (i := 13) (by decide)]
  rw [eq] at a4
  obtain ⟨M2, c1, c2, c3⟩ := y_write a4 (Ok_TM0 o) (a := 1) (b := M1 1 7) (kd := 1) (v := 1 - s 0 16) rfl a4.good (by omega) (by omega)
  obtain ⟨M3, d1, d2, d3⟩ := y_mendRoots c2 (hi.tm h0 ht)
  rw [a1, xb1_some, c1, xb1_some, d1, xb1_some]
  exact ⟨M3, rfl, d2, frY.tr (frY.tr (frY.tr (frY.tr (frY.tr (frY.tr (frY.up (by omega)) (frY.up (by omega))) (frY.up (by omega))) (frY.up (by omega))) a3) c3) d3⟩
