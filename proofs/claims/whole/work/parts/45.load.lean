/-! fields of roots; loading, storing -/
def sFA (s : hs) (r : Nat) (f : Int) : Int := if s 8 r = -1 then -1 else if 0 ≤ f ∧ f < s 1 (s 8 r % 64).toNat - 1000 then s 8 r % 64 + 1 + f else -1
theorem yIn {a b c : Int32} : f_X10_isIn a b c = if b.toInt ≤ a.toInt ∧ a.toInt ≤ c.toInt then 1 else 0 := by
  unfold f_X10_isIn
  by_cases h1 : a.toInt < b.toInt
  · rw [if_pos (by rw [i_lt]; exact h1), if_neg (by omega)]
  · rw [if_neg (by rw [i_lt]; exact h1)]
    by_cases h2 : c.toInt < a.toInt
    · rw [if_pos (by rw [i_lt]; exact h2), if_neg (by omega)]
    · rw [if_neg (by rw [i_lt]; exact h2), if_pos (by omega)]
theorem yRoot {a : Int32} : f_X10_isRoot a = if 0 ≤ a.toInt ∧ a.toInt ≤ 5 then 1 else 0 := by
  unfold f_X10_isRoot; rw [yIn]; rfl
theorem yPage {a : Int32} : f_X10_isPage a = if 0 ≤ a.toInt ∧ a.toInt ≤ 7 then 1 else 0 := by
  unfold f_X10_isPage; rw [yIn]; rfl
theorem yPlace {a : Int32} : f_X10_isPlace a = if 0 ≤ a.toInt ∧ a.toInt ≤ 63 then 1 else 0 := by
  unfold f_X10_isPlace; rw [yIn]; rfl
theorem yThread {a : Int32} : f_X10_isThread a = if 0 ≤ a.toInt ∧ a.toInt ≤ 1 then 1 else 0 := by
  unfold f_X10_isThread; rw [yIn]; rfl
/-- the field's place, whatever is asked -/
def sFAx (s : hs) (r f : Int) : Int := if 0 ≤ r ∧ r ≤ 5 then sFA s r.toNat f else -1
theorem sFA_le {s : hs} (o : Ok s) (l : Lay s) {r : Nat} (hr : r < 6) (f : Int) : -1 ≤ sFA s r f ∧ sFA s r f < 64 ∧ (sFA s r f ≠ -1 → 0 ≤ s 8 r ∧ 0 ≤ f ∧ f < s 1 (s 8 r % 64).toNat - 1000 ∧ sFA s r f = s 8 r % 64 + 1 + f) := by
  have b := o.r hr
  unfold sFA
  by_cases c1 : s 8 r = -1
  · rw [if_pos c1]; exact ⟨by omega, by omega, fun q => absurd rfl q⟩
  · rw [if_neg c1]
    by_cases c2 : 0 ≤ f ∧ f < s 1 (s 8 r % 64).toNat - 1000
    · rw [if_pos c2]
      have l1 := l.1 (s 8 r % 64).toNat (by omega) (by omega)
      have u := o.u (show (s 8 r % 64).toNat / 8 < 8 by omega)
      exact ⟨by omega, by omega, fun _ => ⟨by omega, c2.1, c2.2, rfl⟩⟩
    · rw [if_neg c2]; exact ⟨by omega, by omega, fun q => absurd rfl q⟩
theorem y_fieldAt {M : xm} {s : hs} (h : RY M s) (o : Ok s) (l : Lay s) {a b : Int32} : ∃ v, f_X10_fieldAt M a b = some v ∧ v.toInt = sFAx s a.toInt b.toInt := by
  unfold f_X10_fieldAt sFAx
  rw [yRoot]
  by_cases c0 : 0 ≤ a.toInt ∧ a.toInt ≤ 5
  · rw [if_pos c0, if_neg n10, if_pos c0]
    obtain ⟨r, hr⟩ : ∃ r : Nat, a.toInt = r := ⟨a.toInt.toNat, by omega⟩
    have r6 : r < 6 := by omega
    have br := o.r r6
    have e := yx 29 (b := 29) rfl hr (by omega)
    rw [hr, Int.toNat_natCast, if_pos e.1, e.2]
    have le := sFA_le o l r6 b.toInt
    unfold sFA at le ⊢
    by_cases c1 : s 8 r = -1
    · rw [if_pos (by rw [i_eq, h.r r6, c1]; rfl), if_pos c1]
      exact ⟨_, rfl, rfl⟩
    · rw [if_neg (by rw [i_eq, h.r r6]; exact c1), if_neg c1, xlet_eq]
      rw [if_neg c1] at le
      have e2 := i_rem (x := M 1 (29 + r)) (y := 64) (b := 64) (h.r r6) rfl (by omega) (by omega) (by omega)
      have e3 : (xrem (M 1 (29 + r)) 64).toInt = ((s 8 r % 64).toNat : Int) := by rw [e2]; omega
      have hw : (s 8 r % 64).toNat < 64 := by omega
      obtain ⟨n, n1, n2⟩ := y_fieldsOf h o e3 hw
      have bw := o.w hw
      rw [n1, xb1_some, yIn, i_sub n2 (y := 1) (b := 1) rfl (by omega) (by omega)]
      by_cases c2 : 0 ≤ b.toInt ∧ b.toInt < s 1 (s 8 r % 64).toNat - 1000
      · rw [if_pos (show (0 : Int32).toInt ≤ b.toInt ∧ b.toInt ≤ s 1 (s 8 r % 64).toNat - 1000 - 1 from ⟨c2.1, by omega⟩), if_neg n10, if_pos c2]
        rw [if_pos c2] at le
        refine ⟨_, rfl, ?_⟩
        rw [i_add (i_add e3 (y := 1) (b := 1) rfl (by omega) (by omega)) (b := b.toInt) rfl (by omega) (by omega)]
        omega
      · rw [if_neg (fun q : (0 : Int32).toInt ≤ b.toInt ∧ b.toInt ≤ s 1 (s 8 r % 64).toNat - 1000 - 1 => c2 ⟨q.1, by omega⟩), if_pos rfl, if_neg c2]
        exact ⟨_, rfl, rfl⟩
  · rw [if_neg c0, if_pos rfl, if_neg c0]
    exact ⟨_, rfl, rfl⟩
theorem x_fieldWord {u : Nat} {M : xm} {s : hs} (h : RX u M s) (o : Ok s) (l : Lay s) {a b : Int32} : ∃ v, f_X1_fieldWord u M a b = some v ∧ v.toInt = sFAx s a.toInt b.toInt := by
  unfold f_X1_fieldWord sFAx
  by_cases c0 : 0 ≤ a.toInt ∧ a.toInt ≤ 5
  · obtain ⟨r, hr⟩ : ∃ r : Nat, a.toInt = r := ⟨a.toInt.toNat, by omega⟩
    have r6 : r < 6 := by omega
    have br := o.r r6
    rw [f_isRoot_1 hr r6, if_neg n10, if_pos c0, if_pos (i_in hr r6), i_ix hr, hr, Int.toNat_natCast]
    have le := sFA_le o l r6 b.toInt
    unfold sFA at le ⊢
    by_cases c1 : s 8 r = -1
    · rw [if_pos (by rw [i_lt, h.r r6, c1]; decide), if_pos c1]
      exact ⟨_, rfl, rfl⟩
    · rw [if_neg (by rw [i_lt, h.r r6]; simp only [Int32.reduceToInt]; omega), if_neg c1]
      rw [if_neg c1] at le
      by_cases cb : 0 ≤ b.toInt
      · have e2 := i_rem (x := M (u + 8) r) (y := 64) (b := 64) (h.r r6) rfl (by omega) (by omega) (by omega)
        have e3 : (xrem (M (u + 8) r) 64).toInt = ((s 8 r % 64).toNat : Int) := by rw [e2]; omega
        have hw : (s 8 r % 64).toNat < 64 := by omega
        obtain ⟨n, n1, n2⟩ := x_sizeAt h o e3 hw
        have bw := o.w hw
        rw [if_pos (by rw [i_le]; exact cb), xlet_eq, xlet_eq, n1, xb1_some]
        have ns : (n - 1).toInt = (sSz s (s 8 r % 64).toNat : Int) - 1 := by
          have : sSz s (s 8 r % 64).toNat ≤ 4 := by unfold sSz; split <;> omega
          exact i_sub n2 (b := 1) rfl (by omega) (by omega)
        by_cases c2 : 0 ≤ b.toInt ∧ b.toInt < s 1 (s 8 r % 64).toNat - 1000
        · have sz : (sSz s (s 8 r % 64).toNat : Int) = s 1 (s 8 r % 64).toNat - 999 := by unfold sSz; rw [if_pos (by omega)]; omega
          rw [if_pos c2] at le
          have e4 := i_add (i_add e3 (y := 1) (b := 1) rfl (by omega) (by omega)) (y := b) (b := b.toInt) rfl (by omega) (by omega)
          rw [if_neg (by rw [i_le, ns, sz]; omega), if_neg (by rw [i_le, e4]; simp only [Int32.reduceToInt]; omega), if_pos c2]
          exact ⟨_, rfl, by rw [e4]; omega⟩
        · rw [if_pos (by
            rw [i_le, ns]; unfold sSz
            split <;> omega), if_neg c2]
          exact ⟨_, rfl, rfl⟩
      · rw [if_neg (by rw [i_le]; exact cb), if_neg (fun q => cb q.1)]
        exact ⟨_, rfl, rfl⟩
  · rw [f_isRoot_0 (by omega), if_pos rfl, if_neg c0]
    exact ⟨_, rfl, rfl⟩
/-- what a root's field is -/
theorem fieldFacts {s : hs} {G e : Nat → Prop} (h : In s G e 6) {r : Nat} (hr : r < 6) {f : Int} (hf : sFA s r f ≠ -1) : ∃ w : Nat, sFA s r f = w ∧ w < 64 ∧ (-1 ≤ s 1 w ∧ s 1 w ≤ 191) ∧ ptr s G (s 1 w) := by
  have ⟨o, l, f2, g, rg⟩ := h
  have le := sFA_le o l hr f
  have br := o.r hr
  obtain ⟨a1, a2, a3, a4⟩ := le.2.2 hf
  have gd := rg r hr
  have hp := g.2.1 r hr
  rcases hp with hp | hp
  · omega
  have col : s 8 r / 64 = s 0 15 := gd.elim (fun q => by omega) id
  have wh : sWh s (s 8 r) = (s 8 r % 64).toNat := by unfold sWh; rw [if_pos (Or.inl col)]
  have ga : G (s 8 r % 64).toNat := by rw [← wh]; exact hp.2
  have w64 : (s 8 r % 64).toNat < 64 := by omega
  refine ⟨(s 8 r % 64).toNat + (1 + f.toNat), by omega, by omega, ?_, ?_⟩
  · exact l.2.1 _ w64 (by omega) (1 + f.toNat) (by omega) (by omega)
  · exact g.2.2.1 _ ga (1 + f.toNat) (by omega) (by omega)
/-- loaded: the field and the root are what was mended -/
def sLoad (s : hs) (r w : Nat) : hs := up2 (sMW s w) 8 r (sMendV s (s 1 w))
theorem In.load {s : hs} {G : Nat → Prop} (h : In s G no 6) {r w : Nat} (hw : w < 64) (hv : -1 ≤ s 1 w ∧ s 1 w ≤ 191) (hp : ptr s G (s 1 w)) (hm : sMendV s (s 1 w) ≠ -2) : Inv (sLoad s r w) := by
  obtain ⟨G', i1, i2, i3, i4⟩ := h.mw hw hv hp
  obtain ⟨y1, y2, y3, y4, y5⟩ := i3 hm
  exact ⟨G', i1.root ⟨y3, y4⟩ y1 (fun _ => y2)⟩
theorem In.store {s : hs} {G : Nat → Prop} (h : In s G no 6) {r w : Nat} (hr : r < 6) (hw : w < 64) (hv : -1 ≤ s 1 w ∧ s 1 w ≤ 191) : Inv (up2 s 1 w (s 8 r)) :=
  ⟨G, h.word hw hv (h.1.r hr) (h.2.2.2.1.2.1 r hr) (h.2.2.2.2 r hr)⟩
theorem y_loadNow {M : xm} {s : hs} {G : Nat → Prop} (h : RY M s) (hi : In s G no 6) {a b c : Int32} {r w : Nat} (ha : a.toInt = (r : Int)) (hr : r < 6) (hw : w < 64) (hf : sFAx s b.toInt c.toInt = w) (hp : ptr s G (s 1 w)) (hv : -1 ≤ s 1 w ∧ s 1 w ≤ 191) (hm : sMendV s (s 1 w) ≠ -2) : ∃ v M', f_X10_loadNow M a b c = some (v, M') ∧ v.toInt = sMendV s (s 1 w) ∧ RY M' (sLoad s r w) ∧ frY M M' := by
  have ⟨o, l, f2, g, rg⟩ := hi
  have mp := ptr.mp o g hp
  obtain ⟨x, x1, x2⟩ := y_fieldAt h o l (a := b) (b := c)
  rw [hf] at x2
  obtain ⟨G', i1, i2, i3, i4⟩ := hi.mw hw hv hp
  obtain ⟨y1, y2, y3, y4, y5⟩ := i3 hm
  obtain ⟨M1, m1, m2, m3⟩ := y_mendWord h hi x2 hw hp (fun q => by
    by_cases z : sRoom s 1 (sSz s (sWh s (s 1 w)))
    · exact z
    · exact absurd ((sMendV_2 o mp.1).mpr ⟨q, z⟩) hm)
  have e := yx 41 (b := 41) rfl x2 (by omega)
  have e' := yx 29 (b := 29) rfl ha (by omega)
  unfold f_X10_loadNow
  rw [x1, xb1_some, m1, xb1_some, if_pos e.1, if_pos e'.1, e.2, e'.2, xlet_eq]
  have vv : (M1 1 (41 + w)).toInt = sMendV s (s 1 w) := by rw [m2.w hw, y5]
  refine ⟨_, _, rfl, ?_, RY.up m2 (k := 8) (i := r) (yd_i hr (by decide) (by decide)) (by decide) vv, frY.tr m3 (frY.up (by omega))⟩
  rw [up2_row, if_neg (by omega)]
  exact vv
theorem y_canLoad {M : xm} {s : hs} {G : Nat → Prop} (h : RY M s) (hi : In s G no 6) {a b c : Int32} : f_X10_canLoad M a b c = some (if (0 ≤ a.toInt ∧ a.toInt ≤ 5) ∧ sFAx s b.toInt c.toInt ≠ -1 ∧ sMendV s (s 1 (sFAx s b.toInt c.toInt).toNat) ≠ -2 then 1 else 0) := by
  have ⟨o, l, f2, g, rg⟩ := hi
  obtain ⟨x, x1, x2⟩ := y_fieldAt h o l (a := b) (b := c)
  unfold f_X10_canLoad
  rw [x1, xb1_some, yRoot]
  by_cases c0 : 0 ≤ a.toInt ∧ a.toInt ≤ 5
  · rw [if_pos c0, if_neg n10]
    by_cases c1 : sFAx s b.toInt c.toInt = -1
    · rw [if_pos (by rw [i_eq, x2, c1]; rfl), if_neg (fun q => q.2.1 c1)]
    · rw [if_neg (by rw [i_eq, x2]; exact c1)]
      have cb : 0 ≤ b.toInt ∧ b.toInt ≤ 5 := by
        by_cases q : 0 ≤ b.toInt ∧ b.toInt ≤ 5
        · exact q
        · exact absurd (by unfold sFAx; rw [if_neg q]) c1
      have ef : sFAx s b.toInt c.toInt = sFA s b.toInt.toNat c.toInt := by unfold sFAx; rw [if_pos cb]
      rw [ef] at c1 x2 ⊢
      obtain ⟨w, w1, w2, w3, w4⟩ := fieldFacts hi (r := b.toInt.toNat) (by omega) c1
      rw [w1] at x2 c1 ⊢
      have mp := ptr.mp o g w4
      have e := yx 41 (b := 41) rfl x2 (by omega)
      rw [if_pos e.1, e.2, y_canMend h o l (h.w w2) ⟨mp.1, mp.2.1⟩ (fun q => (mp.2.2 q).1), xb1_some, Int.toNat_natCast]
      by_cases c2 : sNeed s (s 1 w) ∧ ¬ sRoom s 1 (sSz s (sWh s (s 1 w)))
      · rw [if_pos c2, if_pos rfl, if_neg (fun q => q.2.2 ((sMendV_2 o mp.1).mpr c2))]
      · rw [if_neg c2, if_neg n10, if_pos ⟨c0, c1, fun q => c2 ((sMendV_2 o mp.1).mp q)⟩]
  · rw [if_neg c0, if_pos rfl, if_neg (fun q => c0 q.1)]
theorem x_loadField {u : Nat} {M : xm} {s : hs} {G : Nat → Prop} (h : RX u M s) (hi : In s G no 6) {a b c : Int32} : ((0 ≤ a.toInt ∧ a.toInt ≤ 5) ∧ sFAx s b.toInt c.toInt ≠ -1 ∧ sMendV s (s 1 (sFAx s b.toInt c.toInt).toNat) ≠ -2 → ∃ v M', f_X1_loadField u M a b c = some (v, M') ∧ v.toInt = sMendV s (s 1 (sFAx s b.toInt c.toInt).toNat) ∧ RX u M' (sLoad s a.toInt.toNat (sFAx s b.toInt c.toInt).toNat) ∧ frX u M M') ∧ (¬ ((0 ≤ a.toInt ∧ a.toInt ≤ 5) ∧ sFAx s b.toInt c.toInt ≠ -1 ∧ sMendV s (s 1 (sFAx s b.toInt c.toInt).toNat) ≠ -2) → ∃ M', f_X1_loadField u M a b c = some (-2, M') ∧ RX u M' s ∧ frX u M M') := by
  have ⟨o, l, f2, g, rg⟩ := hi
  obtain ⟨x, x1, x2⟩ := x_fieldWord h o l (a := b) (b := c)
  unfold f_X1_loadField
  rw [x1, xb1_some]
  by_cases c0 : 0 ≤ a.toInt ∧ a.toInt ≤ 5
  · obtain ⟨r, hr⟩ : ∃ r : Nat, a.toInt = r := ⟨a.toInt.toNat, by omega⟩
    have r6 : r < 6 := by omega
    rw [f_isRoot_1 hr r6, if_neg n10]
    by_cases c1 : sFAx s b.toInt c.toInt = -1
    · rw [f_isAddress_0 (by rw [x2, c1]; decide), if_pos rfl]
      exact ⟨fun q => absurd c1 q.2.1, fun _ => ⟨M, rfl, h, frX.rfl⟩⟩
    · have cb : 0 ≤ b.toInt ∧ b.toInt ≤ 5 := by
        by_cases q : 0 ≤ b.toInt ∧ b.toInt ≤ 5
        · exact q
        · exact absurd (by unfold sFAx; rw [if_neg q]) c1
      have ef : sFAx s b.toInt c.toInt = sFA s b.toInt.toNat c.toInt := by unfold sFAx; rw [if_pos cb]
      rw [ef] at c1 x2 ⊢
      obtain ⟨w, w1, w2, w3, w4⟩ := fieldFacts hi (r := b.toInt.toNat) (by omega) c1
      rw [w1] at x2 c1 ⊢
      have mp := ptr.mp o g w4
      obtain ⟨v, M1, M2, m1, m2, m3, m4, m5⟩ := x_mendWord h hi x2 w2 w4
      rw [f_isAddress_1 x2 w2, if_neg n10, if_pos (i_in x2 w2), i_ix x2, m1, xb2_some, m3, xb1_some, Int.toNat_natCast, hr, Int.toNat_natCast, if_pos (i_in hr r6), i_ix hr, xlet_eq]
      refine ⟨fun q => ?_, fun q => ?_⟩
      · rw [if_neg (by rw [i_eq, m2]; exact q.2.2)]
        exact ⟨v, _, rfl, m2, m4.up (by decide) m2, frX.tr m5 (frX.up (by decide))⟩
      · have z : sMendV s (s 1 w) = -2 := by
          by_cases z : sMendV s (s 1 w) = -2
          · exact z
          · exact absurd ⟨by omega, c1, z⟩ q
        rw [if_pos (by rw [i_eq, m2, z]; rfl)]
        have ve : v = -2 := by rw [i_eq, m2, z]; rfl
        refine ⟨M2, by rw [ve], ?_, m5⟩
        have : sMW s w = s := by
          unfold sMW sWM; rw [if_pos (Or.inl z), sMend_2 ((sMendV_2 o mp.1).mp z)]
        rw [← this]; exact m4
  · rw [f_isRoot_0 (by omega), if_pos rfl]
    exact ⟨fun q => absurd q.1 c0, fun _ => ⟨M, rfl, h, frX.rfl⟩⟩
theorem x_storeField {u : Nat} {M : xm} {s : hs} {G : Nat → Prop} (h : RX u M s) (hi : In s G no 6) {a b c : Int32} : (sFAx s a.toInt b.toInt ≠ -1 ∧ (0 ≤ c.toInt ∧ c.toInt ≤ 5) → ∃ M', f_X1_storeField u M a b c = some (1, M') ∧ RX u M' (up2 s 1 (sFAx s a.toInt b.toInt).toNat (s 8 c.toInt.toNat)) ∧ frX u M M') ∧ (¬ (sFAx s a.toInt b.toInt ≠ -1 ∧ (0 ≤ c.toInt ∧ c.toInt ≤ 5)) → f_X1_storeField u M a b c = some (0, M)) := by
  have ⟨o, l, f2, g, rg⟩ := hi
  obtain ⟨x, x1, x2⟩ := x_fieldWord h o l (a := a) (b := b)
  unfold f_X1_storeField
  rw [x1, xb1_some]
  by_cases c1 : sFAx s a.toInt b.toInt = -1
  · rw [f_isAddress_0 (by rw [x2, c1]; decide), if_pos rfl]
    exact ⟨fun q => absurd c1 q.1, fun _ => rfl⟩
  · have cb : 0 ≤ a.toInt ∧ a.toInt ≤ 5 := by
      by_cases q : 0 ≤ a.toInt ∧ a.toInt ≤ 5
      · exact q
      · exact absurd (by unfold sFAx; rw [if_neg q]) c1
    have ef : sFAx s a.toInt b.toInt = sFA s a.toInt.toNat b.toInt := by unfold sFAx; rw [if_pos cb]
    rw [ef] at c1 x2 ⊢
    obtain ⟨w, w1, w2, w3, w4⟩ := fieldFacts hi (r := a.toInt.toNat) (by omega) c1
    rw [w1] at x2 c1 ⊢
    rw [f_isAddress_1 x2 w2, if_neg n10]
    by_cases c0 : 0 ≤ c.toInt ∧ c.toInt ≤ 5
    · obtain ⟨r, hr⟩ : ∃ r : Nat, c.toInt = r := ⟨c.toInt.toNat, by omega⟩
      have r6 : r < 6 := by omega
      rw [f_isRoot_1 hr r6, if_neg n10, if_pos (i_in hr r6), if_pos (i_in x2 w2), i_ix hr, i_ix x2, xlet_eq, hr, Int.toNat_natCast, Int.toNat_natCast]
      exact ⟨fun _ => ⟨_, rfl, h.up (by decide) (h.r r6), frX.up (by decide)⟩, fun q => absurd ⟨c1, by omega⟩ q⟩
    · rw [f_isRoot_0 (by omega), if_pos rfl]
      exact ⟨fun q => absurd q.2 c0, fun _ => rfl⟩
