/-! making, fields, loading, storing -/
def sNew (s : hs) (b n : Nat) : hs := fun k i => if k = 1 ∧ i = b then 1000 + n else if k = 1 ∧ b < i ∧ i ≤ b + n then -1 else s k i
def cNew (n : Nat) (j : Nat) : Int := if j = 0 then 1000 + n else -1
def sMake (s : hs) (r n : Nat) : hs := sWr (if s 0 14 = 0 then up2 (sNew (sGive s 0 (n + 1)) (sAt s 0 (n + 1)) n) 8 r (s 0 15 * 64 + sAt s 0 (n + 1)) else sMark (up2 (sNew (sGive s 0 (n + 1)) (sAt s 0 (n + 1)) n) 8 r (s 0 15 * 64 + sAt s 0 (n + 1))) (sAt s 0 (n + 1))) 0 (sAt s 0 (n + 1))
theorem new_al {s : hs} (o : Ok s) (l : Lay s) {n : Nat} (hn : n ≤ 3) (hr : sRoom s 0 (n + 1)) : sNew (sGive s 0 (n + 1)) (sAt s 0 (n + 1)) n = sAl s 0 (n + 1) (cNew n) false := by
  have al := copy_al o l (u := 0) (n := n + 1) (a := 0) (by omega) (by omega) hr
  funext k i
  by_cases k1 : k = 1
  · subst k1
    rw [sAl_1]
    unfold sNew cNew
    by_cases q : i = sAt s 0 (n + 1)
    · rw [if_pos ⟨rfl, q⟩, if_pos (by omega), if_pos (by omega)]
    · rw [if_neg (fun z => q z.2)]
      by_cases q2 : sAt s 0 (n + 1) < i ∧ i ≤ sAt s 0 (n + 1) + n
      · rw [if_pos ⟨rfl, q2⟩, if_pos (by omega), if_neg (by omega)]
      · rw [if_neg (fun z => q2 z.2), if_neg (by omega), sGive_k _ (by decide) (by decide) (by decide)]
  · have h1 : sNew (sGive s 0 (n + 1)) (sAt s 0 (n + 1)) n k i = sGive s 0 (n + 1) k i := by
      unfold sNew; rw [if_neg (fun z => k1 z.1), if_neg (fun z => k1 z.1)]
    have h2 := congrFun (congrFun al k) i
    rw [sCopy_k i k1] at h2
    rw [h1, h2]
    unfold sAl
    rw [if_neg k1, if_neg k1]
theorem mark_al {s : hs} (o : Ok s) (l : Lay s) {u n : Nat} (hu : u < 2) (hn : 1 ≤ n ∧ n ≤ 4) (hr : sRoom s u n) {c : Nat → Int} (hc : nwOk n c) (r : Nat) (v : Int) : sMark (up2 (sAl s u n c false) 8 r v) (sAt s u n) = up2 (sAl s u n c true) 8 r v := by
  obtain ⟨p8, bb, d, d1, d2, d3, ee, f⟩ := give_facts o l hu hn hr
  have fr := give_fresh o l hu hn hr (i := sAt s u n) (by omega) (by omega)
  have c1 : (up2 (sAl s u n c false) 8 r v) 1 (sAt s u n) = 999 + n := by
    rw [up2_ap, if_neg (by omega), sAl_1, if_pos (by omega), show sAt s u n - sAt s u n = 0 by omega, hc.1]
  have c3 : (up2 (sAl s u n c false) 8 r v) 3 (sAt s u n) = 0 := by
    rw [up2_ap, if_neg (by omega), sAl_3, if_neg (by simp)]; exact fr.2
  unfold sMark
  rw [if_pos ⟨c3, by omega⟩, c1]
  funext k i
  by_cases k5 : k = 5
  · subst k5
    by_cases q : i = sAt s u n / 8
    · simp [up2_ap, sAl_5, q]; omega
    · simp [up2_ap, sAl_5, q]
  · by_cases k3 : k = 3
    · subst k3
      by_cases q : i = sAt s u n
      · simp [up2_ap, sAl_3, q]
      · simp [up2_ap, sAl_3, q]
    · have : sAl s u n c false k i = sAl s u n c true k i := by
        unfold sAl
        rw [if_neg k3, if_neg k3, if_neg k5, if_neg k5]
      simp [up2_ap, k5, k3, this]
theorem cNew_ok {n : Nat} (hn : n ≤ 3) : nwOk (n + 1) (cNew n) := by
  refine ⟨?_, fun j j1 j2 => ?_⟩
  · unfold cNew; rw [if_pos rfl]; omega
  · unfold cNew; rw [if_neg (by omega)]; omega
theorem sMake_eq {s : hs} (o : Ok s) (l : Lay s) {r n : Nat} (hn : n ≤ 3) (hr : sRoom s 0 (n + 1)) : sMake s r n = sWr (up2 (sAl s 0 (n + 1) (cNew n) (decide (s 0 14 ≠ 0))) 8 r (s 0 15 * 64 + sAt s 0 (n + 1))) 0 (sAt s 0 (n + 1)) := by
  unfold sMake
  rw [new_al o l hn hr]
  by_cases c : s 0 14 = 0
  · rw [if_pos c, show decide (s 0 14 ≠ 0) = false from decide_eq_false (fun q => q c)]
  · rw [if_neg c, show decide (s 0 14 ≠ 0) = true from decide_eq_true c, mark_al o l (by omega) (by omega) hr (cNew_ok hn)]
theorem In.make {s : hs} {G : Nat → Prop} {r n : Nat} (h : In s G no 6) (hn : n ≤ 3) (hr : sRoom s 0 (n + 1)) : Inv (sMake s r n) := by
  have ⟨o, l, f2, g, rg⟩ := h
  obtain ⟨p8, bb, d, d1, d2, d3, ee, f⟩ := give_facts o l (u := 0) (n := n + 1) (by omega) (by omega) hr
  rw [sMake_eq o l hn hr]
  obtain ⟨i1, i2⟩ := h.al (u := 0) (n := n + 1) (by omega) (by omega) hr (cNew_ok hn) (decide (s 0 14 ≠ 0)) True (fun _ => trivial) (fun z _ => decide_eq_true (by omega)) (fun _ j j1 j2 => Or.inl (by unfold cNew; rw [if_neg (by omega)])) (fun _ _ j j1 j2 => Or.inl (by unfold cNew; rw [if_neg (by omega)]))
  have e14 : sAl s 0 (n + 1) (cNew n) (decide (s 0 14 ≠ 0)) 0 14 = s 0 14 := rfl
  have e15 : sAl s 0 (n + 1) (cNew n) (decide (s 0 14 ≠ 0)) 0 15 = s 0 15 := rfl
  have y := ptr.mk (s := sAl s 0 (n + 1) (cNew n) (decide (s 0 14 ≠ 0))) (G := gA G True (sAt s 0 (n + 1))) (w := sAt s 0 (n + 1)) i1.1 i1.2.2.2.1.2.2.2.2.2.2.2.2.2.2.2.2.2.1 (by omega) (Or.inr ⟨trivial, rfl⟩) (fun z => by
    rw [sAl_3, if_pos ⟨rfl, decide_eq_true (by rw [e14] at z; omega)⟩]) (fun z => by rw [sAl_7, if_pos rfl]; decide)
  rw [e15] at y
  exact ⟨_, (i1.root (r := r) y.2.2 y.1 (fun _ => y.2.1)).wr (by omega) (by omega)⟩
theorem sNew_0 (s : hs) (b n : Nat) : (fun k i => if k = 1 ∧ i = b then (1000 : Int) + n else if k = 1 ∧ b < i ∧ i < b + 1 then -1 else s k i) = up2 s 1 b (1000 + n) := by
  funext k i
  rw [up2_ap]
  by_cases c : k = 1 ∧ i = b
  · rw [if_pos c, if_pos c]
  · rw [if_neg c, if_neg c, if_neg (by omega)]
/-- the new object's fields, one behind the other -/
def sNw (s : hs) (b n j : Nat) : hs := fun k i => if k = 1 ∧ i = b then 1000 + n else if k = 1 ∧ b < i ∧ i < b + j then -1 else s k i
theorem sNw_1 (s : hs) (b n : Nat) : sNw s b n 1 = up2 s 1 b (1000 + n) := sNew_0 s b n
theorem sNw_step (s : hs) {b n j : Nat} (hj : 1 ≤ j) : up2 (sNw s b n j) 1 (b + j) (-1) = sNw s b n (j + 1) := by
  funext k i
  rw [up2_ap]
  unfold sNw
  by_cases c : k = 1 ∧ i = b + j
  · rw [if_pos c, if_neg (by omega), if_pos (by omega)]
  · rw [if_neg c]
    by_cases c2 : k = 1 ∧ i = b
    · rw [if_pos c2, if_pos c2]
    · rw [if_neg c2, if_neg c2]
      by_cases c3 : k = 1 ∧ b < i ∧ i < b + j
      · rw [if_pos c3, if_pos (by omega)]
      · rw [if_neg c3, if_neg (by omega)]
theorem sNw_end (s : hs) (b n : Nat) : sNw s b n (n + 1) = sNew s b n := by
  funext k i
  unfold sNw sNew
  by_cases c2 : k = 1 ∧ i = b
  · rw [if_pos c2, if_pos c2]
  · rw [if_neg c2, if_neg c2]
    by_cases c3 : k = 1 ∧ b < i ∧ i < b + (n + 1)
    · rw [if_pos c3, if_pos (by omega)]
    · rw [if_neg c3, if_neg (by omega)]
theorem y_new_loop {r a b : Int32} {n w : Nat} (ha : a.toInt = (n : Int)) (hb : b.toInt = (w : Int)) (hw : w + n < 64) (s : hs) : ∀ (d j f : Nat), 1 ≤ j → j + d = n + 1 → d < f → ∀ (M : xm) (x : Int32), RY M (sNw s w n j) → x.toInt = (j : Int) → ∃ M', g_X10_makeNow_27 r a b f M x = some M' ∧ RY M' (sNw s w n (n + 1)) ∧ frY M M' := by
  intro d
  induction d with
  | zero =>
    intro j f j1 hj hf M x h hx
    obtain ⟨f, rfl⟩ : ∃ q, f = q + 1 := ⟨f - 1, by omega⟩
    unfold g_X10_makeNow_27
    rw [if_pos (by rw [i_lt, ha, hx]; omega)]
    exact ⟨M, rfl, by rw [show j = n + 1 by omega] at h; exact h, frY.rfl⟩
  | succ d ih =>
    intro j f j1 hj hf M x h hx
    obtain ⟨f, rfl⟩ : ∃ q, f = q + 1 := ⟨f - 1, by omega⟩
    have e := i_bx 41 (b := 41) rfl hb (by omega)
    have e' := yx _ e hx (by omega)
    have q : 41 + w + j = 41 + (w + j) := by omega
    unfold g_X10_makeNow_27
    rw [if_neg (by rw [i_lt, ha, hx]; omega), if_pos e'.1, e'.2, xlet_eq, xlet_eq, q]
    have h1 : RY (up2 M 1 (41 + (w + j)) (-1)) (up2 (sNw s w n j) 1 (w + j) (-1)) := RY.up h (k := 1) (i := w + j) (yd_i (show w + j < 64 by omega) (by decide) (by decide)) (by decide) rfl
    rw [sNw_step s j1] at h1
    obtain ⟨M', k1, k2, k3⟩ := ih (j + 1) f (by omega) (by omega) (by omega) _ (x + 1) h1 (by rw [i_add hx (b := 1) rfl (by omega) (by omega)]; omega)
    exact ⟨M', k1, k2, frY.tr (frY.up (by omega)) k3⟩
theorem up2_comm {α : Type} {M : Nat → Nat → α} {k i k' i' : Nat} {v v' : α} (h : k ≠ k') : up2 (up2 M k i v) k' i' v' = up2 (up2 M k' i' v') k i v := by
  funext q j
  rw [up2_ap, up2_ap, up2_ap, up2_ap]
  by_cases c : q = k ∧ j = i
  · rw [if_pos c, if_neg (fun z => h (by rw [← c.1, z.1])), if_pos c]
  · rw [if_neg c, if_neg c]
theorem sMark_up8 {s : hs} {w r : Nat} {v : Int} : up2 (sMark s w) 8 r v = sMark (up2 s 8 r v) w := by
  unfold sMark
  by_cases c : s 3 w = 0 ∧ 1000 ≤ s 1 w
  · rw [if_pos c, if_pos (show up2 s 8 r v 3 w = 0 ∧ 1000 ≤ up2 s 8 r v 1 w from c), up2_comm (by decide), up2_comm (k := 3) (by decide)]
    rfl
  · rw [if_neg c, if_neg (show ¬ (up2 s 8 r v 3 w = 0 ∧ 1000 ≤ up2 s 8 r v 1 w) from c)]
theorem y_makeNow {M : xm} {s : hs} (h : RY M s) (o : Ok s) (l : Lay s) {a b : Int32} {r n : Nat} (ha : a.toInt = (r : Int)) (hr6 : r < 6) (hb : b.toInt = (n : Int)) (hn : n ≤ 3) (hr : sRoom s 0 (n + 1)) : ∃ v M', f_X10_makeNow M a b = some (v, M') ∧ v.toInt = (sAt s 0 (n + 1) : Int) ∧ RY M' (sMake s r n) ∧ frY M M' := by
  obtain ⟨p8, bb, d, d1, d2, d3, ee, f⟩ := give_facts o l (u := 0) (n := n + 1) (by omega) (by omega) hr
  have og := o.good
  have sz : (b + 1).toInt = ((n + 1 : Nat) : Int) := by rw [i_add hb (b := 1) rfl (by omega) (by omega)]; omega
  obtain ⟨v, M1, v1, v2, v3, v4⟩ := y_given h o (a := b + 1) (b := 9) (u := 0) sz (by omega) rfl (by omega) hr
  have e := yx 41 (b := 41) rfl v2 (by omega)
  have hv : ((1000 : Int32) + b).toInt = 1000 + (n : Int) := i_add (a := 1000) rfl hb (by omega) (by omega)
  have h1 : RY (up2 M1 1 (41 + sAt s 0 (n + 1)) (1000 + b)) (sNw (sGive s 0 (n + 1)) (sAt s 0 (n + 1)) n 1) := by
    rw [sNw_1]
    exact RY.up v3 (k := 1) (i := sAt s 0 (n + 1)) (yd_i (show sAt s 0 (n + 1) < 64 by omega) (by decide) (by decide)) (by decide) hv
  obtain ⟨M2, k1, k2, k3⟩ := y_new_loop (r := a) hb v2 (by omega) (sGive s 0 (n + 1)) n 1 xfuel (by omega) (by omega) (by unfold xfuel; omega) _ 1 h1 rfl
  rw [sNw_end] at k2
  unfold f_X10_makeNow
  rw [v1, xb2_some, if_pos e.1, e.2, xlet_eq, k1, xb1_some]
  simp only [xlet_eq]
  have al := new_al o l hn hr
  have ot : Ok (sNew (sGive s 0 (n + 1)) (sAt s 0 (n + 1)) n) := by rw [al]; exact Ok_al o l (by omega) (by omega) hr (cNew_ok hn) false
  have t1 : sNew (sGive s 0 (n + 1)) (sAt s 0 (n + 1)) n 1 (sAt s 0 (n + 1)) = 1000 + n := by unfold sNew; rw [if_pos ⟨rfl, rfl⟩]
  have t0 : ∀ i, sNew (sGive s 0 (n + 1)) (sAt s 0 (n + 1)) n 0 i = s 0 i := fun i => by
    unfold sNew; rw [if_neg (by omega), if_neg (by omega), sGive_k i (by decide) (by decide) (by decide)]
  have t5 : sNew (sGive s 0 (n + 1)) (sAt s 0 (n + 1)) n 5 (sAt s 0 (n + 1) / 8) ≤ 8 := by
    unfold sNew; rw [if_neg (by omega), if_neg (by omega), sGive_k _ (by decide) (by decide) (by decide), ee]
    exact (l.live8 o p8).2
  have er := yx 29 (b := 29) rfl ha (by omega)
  have em := yx 169 (b := 169) rfl v2 (by omega)
  have fin : ∀ (M3 : xm) (t : hs), RY M3 t → Ok t → t 0 15 = s 0 15 → ∃ v' M', (if xin ((29 : Int32) + a) 9878 = true then xb1 (f_X10_write (up2 M3 1 (Int32.toNatClampNeg ((29 : Int32) + a)) (((64 : Int32) * (M3 1 7)) + v)) (0 : Int32) v) (fun M23 => some (v, M23)) else none) = some (v', M') ∧ v'.toInt = (sAt s 0 (n + 1) : Int) ∧ RY M' (sWr (up2 t 8 r (s 0 15 * 64 + sAt s 0 (n + 1))) 0 (sAt s 0 (n + 1))) ∧ frY M3 M' := by
    intro M3 t h3 o3 t15
    rw [if_pos er.1, er.2]
    have g7 : (M3 1 7).toInt = s 0 15 := by rw [h3.good, t15]
    have val : (((64 : Int32) * (M3 1 7)) + v).toInt = s 0 15 * 64 + sAt s 0 (n + 1) := by
      rw [i_add (i_mul (x := 64) (a := 64) rfl g7 (by omega) (by omega)) v2 (by omega) (by omega)]; omega
    have h4 : RY (up2 M3 1 (29 + r) (((64 : Int32) * (M3 1 7)) + v)) (up2 t 8 r (s 0 15 * 64 + sAt s 0 (n + 1))) := RY.up h3 (k := 8) (i := r) (yd_i hr6 (by decide) (by decide)) (by decide) val
    have o4 : Ok (up2 t 8 r (s 0 15 * 64 + sAt s 0 (n + 1))) := o3.up (by decide) ⟨by omega, by omega⟩
    obtain ⟨M', w1, w2, w3⟩ := y_write h4 o4 (a := 0) (b := v) (kd := 0) rfl v2 (by omega) (by omega)
    rw [w1, xb1_some]
    exact ⟨v, M', rfl, v2, w2, frY.tr (frY.up (by omega)) w3⟩
  have tr := frY.tr (frY.tr v4 (frY.up (j := 41 + sAt s 0 (n + 1)) (v := 1000 + b) (by omega))) k3
  by_cases c : s 0 14 = 0
  · rw [if_pos (by rw [i_eq, k2.phase, t0, c]; rfl)]
    obtain ⟨v', M', w1, w2, w3, w4⟩ := fin M2 _ k2 ot (t0 15)
    refine ⟨v', M', w1, w2, ?_, frY.tr tr w4⟩
    unfold sMake; rw [if_pos c]; exact w3
  · rw [if_neg (by rw [i_eq, k2.phase, t0]; exact c), if_pos em.1, em.2]
    have h3 := RY.mark k2 ot (show sAt s 0 (n + 1) < 64 by omega) (by rw [t1]; omega)
    have o3 := Ok_mark ot (show sAt s 0 (n + 1) < 64 by omega) t5
    obtain ⟨v', M', w1, w2, w3, w4⟩ := fin _ _ h3 o3 (by rw [sMark_k 15 (by decide) (by decide), t0])
    refine ⟨v', M', w1, w2, ?_, frY.tr (frY.tr tr (frY.up (by omega))) w4⟩
    unfold sMake; rw [if_neg c, ← sMark_up8]; exact w3
theorem x_new_loop {u : Nat} {r a b : Int32} {n w : Nat} (ha : a.toInt = (n : Int)) (hb : b.toInt = (w : Int)) (hw : w + n < 64) (s : hs) : ∀ (d j f : Nat), 1 ≤ j → j + d = n + 1 → d < f → ∀ (M : xm) (x : Int32), RX u M (sNw s w n j) → x.toInt = ((w + j : Nat) : Int) → ∃ M', g_X1_makeObject_52 u r a b f M x = some M' ∧ RX u M' (sNw s w n (n + 1)) ∧ frX u M M' := by
  intro d
  have sum := i_add hb ha (by omega) (by omega)
  induction d with
  | zero =>
    intro j f j1 hj hf M x h hx
    obtain ⟨f, rfl⟩ : ∃ q, f = q + 1 := ⟨f - 1, by omega⟩
    unfold g_X1_makeObject_52
    rw [if_pos (by rw [i_lt, sum, hx]; omega)]
    exact ⟨M, rfl, by rw [show j = n + 1 by omega] at h; exact h, frX.rfl⟩
  | succ d ih =>
    intro j f j1 hj hf M x h hx
    obtain ⟨f, rfl⟩ : ∃ q, f = q + 1 := ⟨f - 1, by omega⟩
    unfold g_X1_makeObject_52
    rw [if_neg (by rw [i_lt, sum, hx]; omega), if_neg (by rw [i_le, hx]; simp only [Int32.reduceToInt]; omega), if_pos (i_in hx (by omega)), i_ix hx, xlet_eq, xlet_eq]
    have h1 : RX u (up2 M (u + 1) (w + j) (-1)) (up2 (sNw s w n j) 1 (w + j) (-1)) := h.up (by decide) rfl
    rw [sNw_step s j1] at h1
    obtain ⟨M', k1, k2, k3⟩ := ih (j + 1) f (by omega) (by omega) (by omega) _ (x + 1) h1 (by rw [i_add hx (b := 1) rfl (by omega) (by omega)]; omega)
    exact ⟨M', k1, k2, frX.tr (frX.up (by decide)) k3⟩
theorem x_makeObject {u : Nat} {M : xm} {s : hs} (h : RX u M s) (o : Ok s) (l : Lay s) {a b : Int32} {r n : Nat} (ha : a.toInt = (r : Int)) (hr6 : r < 6) (hb : b.toInt = (n : Int)) (hn : n ≤ 3) : (sRoom s 0 (n + 1) → ∃ v M', f_X1_makeObject u M a b = some (v, M') ∧ v.toInt = (sAt s 0 (n + 1) : Int) ∧ RX u M' (sMake s r n) ∧ frX u M M') ∧ (¬ sRoom s 0 (n + 1) → f_X1_makeObject u M a b = some (-1, M)) := by
  have og := o.good
  have sz : (b + 1).toInt = ((n + 1 : Nat) : Int) := by rw [i_add hb (b := 1) rfl (by omega) (by omega)]; omega
  obtain ⟨g1, g2⟩ := x_giveOut h o (a := 0) (b := b + 1) (t := 0) rfl (by omega) sz (by omega)
  unfold f_X1_makeObject
  rw [f_isRoot_1 ha hr6, if_neg n10, if_neg (by rw [i_lt, hb]; simp only [Int32.reduceToInt]; omega), if_pos (by rw [i_le, hb]; simp only [Int32.reduceToInt]; omega)]
  refine ⟨fun hr => ?_, fun hr => ?_⟩
  · obtain ⟨v, M1, v1, v2, v3, v4⟩ := g1 hr
    obtain ⟨p8, bb, d, d1, d2, d3, ee, f⟩ := give_facts o l (u := 0) (n := n + 1) (by omega) (by omega) hr
    have hv : ((1000 : Int32) + b).toInt = 1000 + (n : Int) := i_add (a := 1000) rfl hb (by omega) (by omega)
    have h1 : RX u (up2 M1 (u + 1) (sAt s 0 (n + 1)) (1000 + b)) (sNw (sGive s 0 (n + 1)) (sAt s 0 (n + 1)) n 1) := by
      rw [sNw_1]
      exact v3.up (by decide) hv
    obtain ⟨M2, k1, k2, k3⟩ := x_new_loop (r := a) hb v2 (by omega) (sGive s 0 (n + 1)) n 1 xfuel (by omega) (by omega) (by unfold xfuel; omega) _ (v + 1) h1 (by rw [i_add v2 (b := 1) rfl (by omega) (by omega)]; omega)
    rw [sNw_end] at k2
    have al := new_al o l hn hr
    have ot : Ok (sNew (sGive s 0 (n + 1)) (sAt s 0 (n + 1)) n) := by rw [al]; exact Ok_al o l (by omega) (by omega) hr (cNew_ok hn) false
    have t0 : ∀ i, sNew (sGive s 0 (n + 1)) (sAt s 0 (n + 1)) n 0 i = s 0 i := fun i => by
      unfold sNew; rw [if_neg (by omega), if_neg (by omega), sGive_k i (by decide) (by decide) (by decide)]
    have t5 : sNew (sGive s 0 (n + 1)) (sAt s 0 (n + 1)) n 5 (sAt s 0 (n + 1) / 8) ≤ 8 := by
      unfold sNew; rw [if_neg (by omega), if_neg (by omega), sGive_k _ (by decide) (by decide) (by decide), ee]
      exact (l.live8 o p8).2
    have g15 : (M2 u 15).toInt = s 0 15 := by rw [k2.good, t0]
    have val : (((M2 u 15) * (64 : Int32)) + v).toInt = s 0 15 * 64 + sAt s 0 (n + 1) :=
      i_add (i_mul g15 (y := 64) (b := 64) rfl (by omega) (by omega)) v2 (by omega) (by omega)
    have h3 : RX u (up2 M2 (u + 8) r (((M2 u 15) * (64 : Int32)) + v)) (up2 (sNew (sGive s 0 (n + 1)) (sAt s 0 (n + 1)) n) 8 r (s 0 15 * 64 + sAt s 0 (n + 1))) := k2.up (by decide) val
    have o3 : Ok (up2 (sNew (sGive s 0 (n + 1)) (sAt s 0 (n + 1)) n) 8 r (s 0 15 * 64 + sAt s 0 (n + 1))) := ot.up (by decide) ⟨by omega, by omega⟩
    rw [v1, xb2_some, f_isAddress_1 v2 (by omega), if_neg n10, if_pos (i_in v2 (by omega)), i_ix v2, xlet_eq, xlet_eq, k1, xb1_some, if_pos (i_in ha hr6), i_ix ha]
    simp only [xlet_eq]
    have tr := frX.tr (frX.tr (frX.tr v4 (frX.up (k := 1) (i := sAt s 0 (n + 1)) (v := 1000 + b) (by decide))) k3) (frX.up (k := 8) (i := r) (v := ((M2 u 15) * (64 : Int32)) + v) (by decide))
    by_cases c : s 0 14 = 0
    · rw [if_pos (by rw [i_eq, h3.phase]; exact (t0 14).trans c)]
      obtain ⟨M', w1, w2, w3⟩ := x_write h3 o3 (z := up2 M2 (u + 8) r (((M2 u 15) * (64 : Int32)) + v) u 17) (a := 0) (b := v) (kd := 0) h3.clock rfl v2
      rw [w1, xb1_some]
      refine ⟨v, M', rfl, v2, ?_, frX.tr tr w3⟩
      unfold sMake; rw [if_pos c]; exact w2
    · rw [if_neg (by rw [i_eq, h3.phase]; exact fun q => c ((t0 14).symm.trans q))]
      obtain ⟨M4, m1, m2, m3⟩ := x_mark h3 o3 v2 (by omega) t5
      have o4 := Ok_mark o3 (show sAt s 0 (n + 1) < 64 by omega) t5
      obtain ⟨M', w1, w2, w3⟩ := x_write m2 o4 (z := M4 u 17) (a := 0) (b := v) (kd := 0) m2.clock rfl v2
      rw [m1, xb1_some, w1, xb1_some]
      refine ⟨v, M', rfl, v2, ?_, frX.tr (frX.tr tr m3) w3⟩
      unfold sMake; rw [if_neg c]; exact w2
  · rw [g2 hr, xb2_some, f_isAddress_0 (by decide), if_pos rfl]
