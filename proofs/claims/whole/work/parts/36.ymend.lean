/-! the reference: moving and mending -/
theorem sMark_k {s : hs} {w k : Nat} (i : Nat) (h3 : k ≠ 3) (h5 : k ≠ 5) : sMark s w k i = s k i := by
  unfold sMark
  split <;> simp [up2_ap, h3, h5]
theorem sCopy_k {s : hs} {a b n k : Nat} (i : Nat) (h1 : k ≠ 1) : sCopy s a b n k i = s k i := by
  unfold sCopy; rw [if_neg (fun c => h1 c.1)]
theorem sTell_k {s : hs} {a b k : Nat} (i : Nat) (h2 : k ≠ 2) (h3 : k ≠ 3) (h5 : k ≠ 5) (h13 : k ≠ 13) : sTell s a b k i = s k i := by
  unfold sTell
  rw [sWr_k i h13, sMark_k i h3 h5, up2_ap, if_neg (fun c => h2 c.1)]
theorem sTell_2 {s : hs} {a b : Nat} (i : Nat) : sTell s a b 2 i = if i = a then (b : Int) else s 2 i := by
  unfold sTell
  rw [sWr_k i (by decide), sMark_k i (by decide) (by decide), up2_ap]
  by_cases c : i = a
  · rw [if_pos ⟨rfl, c⟩, if_pos c]
  · rw [if_neg (fun q => c q.2), if_neg c]
theorem sMove_2 {s : hs} {a : Nat} (i : Nat) : sMove s a 2 i = if i = a then (sAt s 1 (sSz s a) : Int) else s 2 i := by
  unfold sMove
  rw [sTell_2, sCopy_k i (by decide), sGive_k i (by decide) (by decide) (by decide)]
theorem sMove_0 {s : hs} {a : Nat} (i : Nat) : sMove s a 0 i = s 0 i := by
  unfold sMove
  rw [sTell_k i (by decide) (by decide) (by decide) (by decide), sCopy_k i (by decide), sGive_k i (by decide) (by decide) (by decide)]
theorem head_n {s : hs} (o : Ok s) (l : Lay s) {w : Nat} (hw : w < 64) (hh : 1000 ≤ s 1 w) : ∃ n : Nat, (1 ≤ n ∧ n ≤ 4) ∧ s 1 w = 999 + n ∧ sSz s w = n ∧ w + n ≤ 64 ∧ w % 8 + n ≤ 8 := by
  have b := o.w hw
  have h1 := l.1 w hw hh
  have u := o.u (show w / 8 < 8 by omega)
  refine ⟨(s 1 w - 999).toNat, by omega, by omega, ?_, by omega, by omega⟩
  unfold sSz; rw [if_pos hh]
theorem RYr.up5 {a : Nat → Int32} {s : hs} (h : RYr a s) {i : Nat} {z : Int} : RYr a (up2 s 5 i z) := by
  refine ⟨fun k j hd hc => ?_, ?_, fun q hq => ?_⟩
  · have := (yd_x hd).2
    rw [up2_ap, if_neg (fun c => this c.1)]
    refine h.1 k j hd (fun c => ?_)
    have := hc c
    rw [up2_ap, if_neg (by omega)] at this
    exact this
  · rw [up2_ap, if_neg (by omega)]; exact h.2.1
  · rw [up2_ap, if_neg (by omega)] at hq
    rw [up2_ap, if_neg (by omega), up2_ap, if_neg (by omega), up2_ap, if_neg (by omega)]
    exact h.2.2 q hq
theorem RY.mark {M : xm} {s : hs} (h : RY M s) (o : Ok s) {w : Nat} (hw : w < 64) (hh : 1000 ≤ s 1 w) : RY (up2 M 1 (169 + w) 1) (sMark s w) := by
  have b := o.m hw
  have h1 : RY (up2 M 1 (169 + w) 1) (up2 s 3 w 1) := RY.up h (k := 3) (i := w) (yd_i hw (by decide) (by decide)) (by decide) rfl
  unfold sMark
  by_cases c : s 3 w = 0
  · rw [if_pos ⟨c, hh⟩]
    exact RYr.up5 h1
  · rw [if_neg (fun q => c q.1)]
    rw [up2_id (show s 3 w = 1 by omega)] at h1
    exact h1
theorem y_tell {M : xm} {s : hs} (h : RY M s) (o : Ok s) {a b : Int32} {x y : Nat} (ha : a.toInt = (x : Int)) (hb : b.toInt = (y : Int)) (hx : x < 64) (hy : y < 64) (hh : 1000 ≤ s 1 y) (h5 : s 5 (y / 8) ≤ 8) : ∃ M', f_X10_tellForward M a b = some M' ∧ RY M' (sTell s x y) ∧ frY M M' := by
  have e := yx 105 (b := 105) rfl ha (by omega)
  have e' := yx 169 (b := 169) rfl hb (by omega)
  unfold f_X10_tellForward
  rw [if_pos e.1, e.2, xlet_eq, if_pos e'.1, e'.2, xlet_eq]
  have h1 : RY (up2 M 1 (105 + x) b) (up2 s 2 x (y : Int)) := RY.up h (k := 2) (i := x) (yd_i hx (by decide) (by decide)) (by decide) hb
  have o1 : Ok (up2 s 2 x (y : Int)) := o.up (by decide) ⟨by omega, by omega⟩
  have h2 := RY.mark h1 o1 hy (by rw [up2_ap, if_neg (by omega)]; exact hh)
  have o2 := Ok_mark o1 hy (by rw [up2_ap, if_neg (by omega)]; exact h5)
  obtain ⟨M', k1, k2, k3⟩ := y_write h2 o2 (a := 4) (b := a) (kd := 4) rfl ha (by omega) (by omega)
  rw [k1, xb1_some]
  exact ⟨M', rfl, k2, frY.tr (frY.tr (frY.up (by omega)) (frY.up (by omega))) k3⟩
theorem move_facts {s : hs} (o : Ok s) (l : Lay s) {x : Nat} (hx : x < 64) (hh : 1000 ≤ s 1 x) (hr : sRoom s 1 (sSz s x)) : ∃ n b : Nat, (1 ≤ n ∧ n ≤ 4) ∧ s 1 x = 999 + n ∧ sSz s x = n ∧ x + n ≤ 64 ∧ sAt s 1 n = b ∧ b + n ≤ 64 ∧ (x + n ≤ b ∨ b + n ≤ x) ∧ sRoom s 1 n ∧ b / 8 < 8 ∧ s 7 (b / 8) ≠ 2 ∧ Ok (sGive s 1 n) ∧ Ok (sCopy (sGive s 1 n) x b n) ∧ sCopy (sGive s 1 n) x b n 1 b = 999 + n ∧ sCopy (sGive s 1 n) x b n 5 (b / 8) ≤ 8 ∧ b ≠ x ∧ b / 8 = sPg s 1 n := by
  obtain ⟨n, hn, e1, e2, e3, e4⟩ := head_n o l hx hh
  rw [e2] at hr
  obtain ⟨p8, b, c, d1, d2, d3, e, f⟩ := give_facts o l (show 1 < 2 by omega) hn hr
  have ap := give_apart o l (show 1 < 2 by omega) hn hr hx e1 hn.1
  have og := Ok_give o l (show 1 < 2 by omega) hn hr
  have lv := l.live8 o p8
  refine ⟨n, sAt s 1 n, hn, e1, e2, e3, rfl, d3, ap, hr, by omega, ?_, og, Ok_copy og e3 d3, ?_, ?_, by omega, e⟩
  · rw [e]
    by_cases q : sFits s 1 n
    · rw [(d1 q).1]; decide
    · rw [(d2 q).1]; decide
  · unfold sCopy
    rw [if_pos ⟨rfl, by omega, by omega⟩, sGive_k _ (by decide) (by decide) (by decide), show x + (sAt s 1 n - sAt s 1 n) = x by omega, e1]
  · rw [sCopy_k _ (by decide), sGive_k _ (by decide) (by decide) (by decide), e]
    exact lv.2
theorem y_moveNow {M : xm} {s : hs} (h : RY M s) (o : Ok s) (l : Lay s) {a : Int32} {x : Nat} (ha : a.toInt = (x : Int)) (hx : x < 64) (hh : 1000 ≤ s 1 x) (hr : sRoom s 1 (sSz s x)) : ∃ M', f_X10_moveNow M a = some M' ∧ RY M' (sMove s x) ∧ frY M M' := by
  obtain ⟨n, b, hn, e1, e2, e3, e4, e5, e6, e7, _, _, og, oc, hb1, hb5, _, _⟩ := move_facts o l hx hh hr
  obtain ⟨r, r1, r2⟩ := y_sizeOf h o ha hx
  have r2' : r.toInt = (n : Int) := by rw [r2, e1]; omega
  obtain ⟨g, M1, g1, g2, g3, g4⟩ := y_given h o (b := 10) (u := 1) r2' (by omega) rfl (by omega) e7
  rw [e4] at g2
  obtain ⟨M2, c1, c2, c3⟩ := y_copyWords g3 og ha g2 (n := n) (by rw [sGive_k _ (by decide) (by decide) (by decide)]; exact e1) e3 hx e5 e6
  obtain ⟨M3, t1, t2, t3⟩ := y_tell c2 oc ha g2 hx (by omega) (by rw [hb1]; omega) hb5
  unfold f_X10_moveNow
  rw [r1, xb1_some, g1, xb2_some, c1, xb1_some, t1, xb1_some]
  refine ⟨M3, rfl, ?_, frY.tr (frY.tr g4 c3) t3⟩
  unfold sMove
  rw [e2, e4]
  exact t2
theorem y_canMend {M : xm} {s : hs} (h : RY M s) (o : Ok s) (l : Lay s) {a : Int32} {p : Int} (ha : a.toInt = p) (hp : -1 ≤ p ∧ p ≤ 191) (hh : ¬ sGood s p → 1000 ≤ s 1 (sWh s p)) : f_X10_canMend M a = some (if sNeed s p ∧ ¬ sRoom s 1 (sSz s (sWh s p)) then 0 else 1) := by
  unfold f_X10_canMend
  rw [y_needsMove h o ha hp, xb1_some]
  by_cases c : sNeed s p
  · have hp' : 0 ≤ p ∧ p ≤ 191 := ⟨by
      have : p ≠ -1 := fun q => c.1 (Or.inl q)
      omega, hp.2⟩
    have hw := sWh_lt o hp'
    obtain ⟨r, h1, h2⟩ := y_whereOf h o ha hp'
    obtain ⟨n, hn, e1, e2, _⟩ := head_n o l hw (hh c.1)
    obtain ⟨z, z1, z2⟩ := y_sizeOf h o h2 hw
    rw [if_pos c, if_neg (by decide), h1, xb1_some, z1, xb1_some, y_hasRoom h o (n := n) (u := 1) (b := 10) (by rw [z2, e1]; omega) (by omega) rfl (by omega), xb1_some, e2]
    by_cases c2 : sRoom s 1 n
    · rw [if_pos c2, if_neg (by decide), if_neg (fun q => q.2 c2)]
    · rw [if_neg c2, if_pos rfl, if_pos ⟨c, c2⟩]
  · rw [if_neg c, if_pos rfl, if_neg (fun q => c q.1)]
def F2 (s : hs) : Prop := s 0 14 = 2 → ∀ a, a < 64 → s 2 a ≠ -1 → s 7 (a / 8) = 2
/-- what a pointer must be, so that it can be mended -/
def Mp (s : hs) (p : Int) : Prop := -1 ≤ p ∧ p ≤ 191 ∧ (¬ sGood s p → 1000 ≤ s 1 (sWh s p) ∧ (s 0 14 = 1 → s 3 (sWh s p) = 0 → s 0 13 < 64) ∧ (s 0 14 = 2 → s 2 (sWh s p) = -1))
theorem where_moved {s : hs} (o : Ok s) (f2 : F2 s) {p : Int} (hp : 0 ≤ p ∧ p ≤ 191) (hm : sMust s (sWh s p)) {b : Nat} (hb : sAt s 1 (sSz s (sWh s p)) = b) (hb64 : b < 64) (hb7 : s 7 (b / 8) ≠ 2) (hbw : b ≠ sWh s p) : (if sMove s (sWh s p) 2 (sWh (sMove s (sWh s p)) p) = -1 then sWh (sMove s (sWh s p)) p else (sMove s (sWh s p) 2 (sWh (sMove s (sWh s p)) p)).toNat) = b := by
  have hraw : (p % 64).toNat < 64 := by omega
  have fb : s 2 b = -1 := by
    by_cases c : s 2 b = -1
    · exact c
    · exact absurd (f2 hm.1 b hb64 c) hb7
  have m0 : sMove s (sWh s p) 2 (sWh s p) = b := by rw [sMove_2, if_pos rfl, hb]
  have mb : sMove s (sWh s p) 2 b = -1 := by rw [sMove_2, if_neg hbw]; exact fb
  by_cases c1 : p / 64 = s 0 15 ∨ p / 64 = 2
  · have e1 : sWh s p = (p % 64).toNat := by
      unfold sWh; rw [if_pos (c1.elim Or.inl (fun q => Or.inr (Or.inl q)))]
    have e2 : sWh (sMove s (sWh s p)) p = sWh s p := by
      rw [e1]; unfold sWh; rw [sMove_0, if_pos (c1.elim Or.inl (fun q => Or.inr (Or.inl q)))]
    rw [e2, m0, if_neg (by omega)]; rfl
  · by_cases c2 : s 2 (p % 64).toNat = -1
    · have e1 : sWh s p = (p % 64).toNat := by
        unfold sWh; rw [if_pos (Or.inr (Or.inr c2))]
      have e2 : sWh (sMove s (sWh s p)) p = b := by
        rw [sWh.eq_1 (sMove s (sWh s p)) p, sMove_0, ← e1, m0, if_neg (fun q => q.elim (fun q => c1 (Or.inl q)) (fun q => q.elim (fun q => c1 (Or.inr q)) (fun q => by omega)))]; rfl
      rw [e2, mb, if_pos rfl]
    · have e1 : sWh s p = (s 2 (p % 64).toNat).toNat := by
        unfold sWh; rw [if_neg (fun q => q.elim (fun q => c1 (Or.inl q)) (fun q => q.elim (fun q => c1 (Or.inr q)) c2))]
      have ne : (p % 64).toNat ≠ sWh s p := fun q => c2 (by rw [q]; exact hm.2.2)
      have e2 : sWh (sMove s (sWh s p)) p = sWh s p := by
        rw [sWh.eq_1 (sMove s (sWh s p)) p, sMove_0, sMove_2, if_neg ne, if_neg (fun q => q.elim (fun q => c1 (Or.inl q)) (fun q => q.elim (fun q => c1 (Or.inr q)) c2)), ← e1]
      rw [e2, m0, if_neg (by omega)]; rfl
theorem y_mended {M : xm} {s : hs} (h : RY M s) (o : Ok s) (l : Lay s) (f2 : F2 s) {a : Int32} {p : Int} (ha : a.toInt = p) (hp : Mp s p) (hr : sNeed s p → sRoom s 1 (sSz s (sWh s p))) (ho : Ok (sMend s p)) : ∃ r M', f_X10_mended M a = some (r, M') ∧ r.toInt = sMendV s p ∧ RY M' (sMend s p) ∧ frY M M' := by
  obtain ⟨hp1, hp2, hp3⟩ := hp
  unfold f_X10_mended
  rw [y_isGood h ha ⟨hp1, hp2⟩]
  by_cases cg : sGood s p
  · rw [if_pos cg, if_neg (by decide)]
    exact ⟨a, M, rfl, by unfold sMendV; rw [if_pos cg]; exact ha, by unfold sMend; rw [if_pos cg]; exact h, frY.rfl⟩
  obtain ⟨hh, hst, hfw⟩ := hp3 cg
  have hp' : 0 ≤ p ∧ p ≤ 191 := ⟨by
    have : p ≠ -1 := fun q => cg (Or.inl q)
    omega, hp2⟩
  have hw := sWh_lt o hp'
  have og := o.good
  have os := o.stacked
  obtain ⟨r, w1, w2⟩ := y_whereOf h o ha hp'
  rw [if_neg cg, if_pos rfl, y_needsMove h o ha ⟨hp1, hp2⟩, xb1_some]
  simp only [xlet_eq]
  by_cases cn : sMust s (sWh s p)
  · have cr := hr ⟨cg, cn⟩
    obtain ⟨M1, m1, m2, m3⟩ := y_moveNow h o l w2 hw hh cr
    have e1 : sMend s p = sMove s (sWh s p) := by
      unfold sMend; rw [if_neg cg, if_neg (by rw [cn.1]; decide), if_pos cn, if_pos cr]
    rw [e1] at ho ⊢
    obtain ⟨n, b, hn, q1, q2, q3, q4, q5, q6, q7, q8, q9, _, _, _, _, q10, _⟩ := move_facts o l hw hh cr
    rw [← q2] at q4
    have wm := where_moved o f2 hp' cn q4 (by omega) q9 q10
    obtain ⟨r2, v1, v2⟩ := y_whereOf m2 ho ha hp'
    have hw2 := sWh_lt ho hp'
    have e := yx 105 (b := 105) rfl v2 (by omega)
    have ph : (M1 1 6).toInt = 2 := by rw [m2.phase, sMove_0]; exact cn.1
    rw [if_pos (show sNeed s p from ⟨cg, cn⟩), if_neg (by decide), w1, xb1_some, m1, xb1_some, v1, xb1_some]
    rw [if_pos (by rw [i_eq, ph]; rfl), if_pos e.1, e.2]
    have ph1 : ¬ (M1 1 6 = 1) := by rw [i_eq, ph]; decide
    simp only [if_neg ph1]
    have f1 := m2.f hw2
    have bf := ho.f hw2
    have gd : (M1 1 7).toInt = s 0 15 := by rw [m2.good, sMove_0]
    have m64 := i_mul (x := 64) (y := M1 1 7) (a := 64) rfl gd (by omega) (by omega)
    have val : sMendV s p = s 0 15 * 64 + b := by
      unfold sMendV; rw [if_neg cg, if_neg (by rw [cn.1]; decide), if_pos cn, if_pos cr, q4]
    by_cases c : sMove s (sWh s p) 2 (sWh (sMove s (sWh s p)) p) = -1
    · rw [if_pos c] at wm
      rw [if_pos (by rw [i_eq, f1, c]; rfl)]
      refine ⟨_, _, rfl, ?_, m2, m3⟩
      rw [i_add m64 v2 (by omega) (by omega), val, wm]; omega
    · rw [if_neg c] at wm
      rw [if_neg (by rw [i_eq, f1]; exact c)]
      refine ⟨_, _, rfl, ?_, m2, m3⟩
      rw [i_add m64 f1 (by omega) (by omega), val]; omega
  · rw [if_neg (fun q : sNeed s p => cn q.2), if_pos rfl, w1, xb1_some]
    have gd := h.good
    have m64 := i_mul (x := 64) (y := M 1 7) (a := 64) rfl gd (by omega) (by omega)
    by_cases c2 : s 0 14 = 2
    · have e := yx 105 (b := 105) rfl w2 (by omega)
      have ph1 : ¬ (M 1 6 = 1) := by rw [i_eq, h.phase, c2]; decide
      rw [if_pos (by rw [i_eq, h.phase, c2]; rfl), if_pos e.1, e.2, if_pos (by rw [i_eq, h.f hw, hfw c2]; rfl)]
      simp only [if_neg ph1]
      refine ⟨_, _, rfl, ?_, ?_, frY.rfl⟩
      · rw [i_add m64 w2 (by omega) (by omega)]; unfold sMendV; rw [if_neg cg, if_neg (by rw [c2]; decide), if_neg cn]; omega
      · unfold sMend; rw [if_neg cg, if_neg (by rw [c2]; decide), if_neg cn]; exact h
    · rw [if_neg (by rw [i_eq, h.phase]; exact c2)]
      by_cases c1 : s 0 14 = 1
      · rw [if_pos (by rw [i_eq, h.phase, c1]; rfl), y_isMarked h w2 hw, xb1_some]
        have val : sMendV s p = s 0 15 * 64 + sWh s p := by
          unfold sMendV; rw [if_neg cg, if_pos c1]
        have e1 : sMend s p = sPush s (sWh s p) := by
          unfold sMend; rw [if_neg cg, if_pos c1]
        rw [val, e1]
        have bm := o.m hw
        by_cases c3 : s 3 (sWh s p) = 1
        · rw [if_pos c3, if_neg (by decide)]
          refine ⟨_, _, rfl, ?_, ?_, frY.rfl⟩
          · rw [i_add m64 w2 (by omega) (by omega)]; omega
          · unfold sPush; rw [if_neg (by omega)]; exact h
        · have c4 : s 3 (sWh s p) = 0 := by omega
          have st := hst c1 c4
          have e := yx 169 (b := 169) rfl w2 (by omega)
          have h1 := RY.mark h o hw hh
          have k8 : (up2 M 1 (169 + sWh s p) 1 1 8).toInt = ((s 0 13).toNat : Int) := by
            rw [up2_row, if_neg (by omega), h.stacked]; omega
          have e' := yx 233 (b := 233) rfl k8 (by omega)
          rw [if_neg c3, if_pos rfl, if_pos e.1, e.2, if_pos e'.1, e'.2]
          have h2 : RY (up2 (up2 M 1 (169 + sWh s p) 1) 1 (233 + (s 0 13).toNat) r) (up2 (sMark s (sWh s p)) 4 (s 0 13).toNat (sWh s p : Int)) := RY.up h1 (k := 4) (i := (s 0 13).toNat) (yd_i (show (s 0 13).toNat < 64 by omega) (by decide) (by decide)) (by decide) w2
          have k8' : ((up2 (up2 M 1 (169 + sWh s p) 1) 1 (233 + (s 0 13).toNat) r) 1 8 + 1).toInt = s 0 13 + 1 := by
            rw [up2_row, if_neg (by omega)]
            rw [i_add k8 (b := 1) rfl (by omega) (by omega)]; omega
          have h3 := RY.up h2 (k := 0) (i := 13) (by decide) (by decide) k8'
          refine ⟨_, _, rfl, ?_, ?_, frY.tr (frY.tr (frY.up (by omega)) (frY.up (by omega))) (frY.up (by decide))⟩
          · have : (up2 (up2 (up2 M 1 (169 + sWh s p) 1) 1 (233 + (s 0 13).toNat) r) 1 8 ((up2 (up2 M 1 (169 + sWh s p) 1) 1 (233 + (s 0 13).toNat) r) 1 8 + 1)) 1 7 = M 1 7 := by
              rw [up2_row, if_neg (by omega), up2_row, if_neg (by omega), up2_row, if_neg (by omega)]
            rw [this, i_add m64 w2 (by omega) (by omega)]; omega
          · unfold sPush; rw [if_pos c4]; exact h3
      · rw [if_neg (by rw [i_eq, h.phase]; exact c1)]
        refine ⟨_, _, rfl, ?_, ?_, frY.rfl⟩
        · rw [i_add m64 w2 (by omega) (by omega)]; unfold sMendV; rw [if_neg cg, if_neg c1, if_neg cn]; omega
        · unfold sMend; rw [if_neg cg, if_neg c1, if_neg cn]; exact h
