/-! loads in two parts -/
theorem give_setT {s : hs} {t n k : Nat} {w p c : Int} (i : Nat) (h0 : k ≠ 10) (h1 : k ≠ 11) (h2 : k ≠ 12) : sGive (sSetT s t w p c) 1 n k i = sGive s 1 n k i := by
  have e : ∀ k i, k ≠ 10 → k ≠ 11 → k ≠ 12 → sSetT s t w p c k i = s k i := fun k i a b c => sSetT_k i a b c
  have ef : sFree (sSetT s t w p c) = sFree s := rfl
  unfold sGive
  by_cases q : sFits s 1 n
  · rw [if_pos (show sFits (sSetT s t w p c) 1 n from q), if_pos q, up2_ap, up2_ap, e k i h0 h1 h2]
    rfl
  · rw [if_neg (show ¬ sFits (sSetT s t w p c) 1 n from q), if_neg q, ef]
    simp only [up2_ap]
    rw [e k i h0 h1 h2, e 6 _ (by decide) (by decide) (by decide)]
theorem begin_eq {s : hs} {t n a b : Nat} {w p : Int} : sCopy (up2 (sGive (sSetT s t w p (-1)) 1 n) 12 t b) a b n = sSetT (sCopy (sGive s 1 n) a b n) t w p b := by
  funext k i
  by_cases k10 : k = 10
  · subst k10
    rw [sCopy_k i (by decide), up2_ap, if_neg (by omega), sGive_k i (by decide) (by decide) (by decide), sSetT_10, sSetT_10, sCopy_k i (by decide), sGive_k i (by decide) (by decide) (by decide)]
  · by_cases k11 : k = 11
    · subst k11
      rw [sCopy_k i (by decide), up2_ap, if_neg (by omega), sGive_k i (by decide) (by decide) (by decide), sSetT_11, sSetT_11, sCopy_k i (by decide), sGive_k i (by decide) (by decide) (by decide)]
    · by_cases k12 : k = 12
      · subst k12
        rw [sCopy_k i (by decide), up2_ap, sGive_k i (by decide) (by decide) (by decide), sSetT_12, sSetT_12, sCopy_k i (by decide), sGive_k i (by decide) (by decide) (by decide)]
        by_cases q : i = t
        · rw [if_pos ⟨rfl, q⟩, if_pos q]
        · rw [if_neg (fun z => q z.2), if_neg q, if_neg q]
      · rw [sSetT_k i k10 k11 k12]
        unfold sCopy
        rw [up2_ap, up2_ap, if_neg (c := 1 = 12 ∧ _) (by omega), if_neg (c := k = 12 ∧ _) (fun z => k12 z.1), give_setT _ (by decide) (by decide) (by decide), give_setT i k10 k11 k12]
theorem s_begin : sim_begin Rel := by
  intro MX MY LY a0 b0 c0 h
  have hr := h
  obtain ⟨nt, nti, ⟨s, St, n, ru, sd, sp, sk, hs⟩, _⟩ := h
  have ⟨a1, a2, ⟨⟨G, hi⟩, hc, hrw⟩, a4, a5, a6, a7, a8, a9⟩ := hs
  have o := hi.1
  have l := hi.2.1
  have f2 := hi.2.2.1
  have g := hi.2.2.2.1
  obtain ⟨x, x1, x2⟩ := y_fieldAt a2 o l (a := b0) (b := c0)
  unfold f_X9_begin f_X10_begin
  obtain ⟨M1, M2, N1, p1, p2, p3, p4, p5, p6, p7, p8, p9, p10, p11, p12⟩ := kept hs
  obtain ⟨s1, s2⟩ := x_beginRead p4 hi (a := a0) (b := b0) (c := c0)
  rw [p1, xb1_some, x1, xb1_some, yThread]
  have fail : ¬ ((0 ≤ a0.toInt ∧ a0.toInt ≤ 1) ∧ s 10 a0.toInt.toNat = -1 ∧ sFAx s b0.toInt c0.toInt ≠ -1 ∧ sMendV s (s 1 (sFAx s b0.toInt c0.toInt).toNat) ≠ -2) → xb2 (f_X1_beginRead 1 M1 a0 b0 c0) (fun v5 M6 => (if v5 = (-1 : Int32) then some (v5, M6) else xb1 (f_X5_keep 16 M6) (fun M10 => some (v5, M10)))) = some (-1, M1) ∧ Rel M1 MY LY := fun q => by
    rw [s2 q, xb2_some, if_pos rfl]
    exact ⟨rfl, hr.prep hs p4 p5.1 (fun q q1 _ => p9 q q1)⟩
  by_cases d : 0 ≤ a0.toInt ∧ a0.toInt ≤ 1
  · obtain ⟨t, ht0⟩ : ∃ t : Nat, a0.toInt = t := ⟨a0.toInt.toNat, by omega⟩
    have t2 : t < 2 := by omega
    have tn : a0.toInt.toNat = t := by omega
    rw [if_pos d, if_neg n10, y_isBegun a2 ht0 t2, xb1_some]
    by_cases c10 : s 10 t = -1
    · rw [if_pos c10, if_pos rfl]
      by_cases f0 : sFAx s b0.toInt c0.toInt = -1
      · have := fail (fun q => q.2.2.1 f0)
        rw [this.1, if_pos (by rw [i_eq, x2, f0]; rfl)]
        exact ⟨_, M1, MY, rfl, rfl, this.2⟩
      · have cb : 0 ≤ b0.toInt ∧ b0.toInt ≤ 5 := by
          by_cases q : 0 ≤ b0.toInt ∧ b0.toInt ≤ 5
          · exact q
          · exact absurd (by unfold sFAx; rw [if_neg q]) f0
        have ef : sFAx s b0.toInt c0.toInt = sFA s b0.toInt.toNat c0.toInt := by unfold sFAx; rw [if_pos cb]
        have f1 : sFA s b0.toInt.toNat c0.toInt ≠ -1 := by rw [← ef]; exact f0
        obtain ⟨w, w1, w2, w3, w4⟩ := fieldFacts hi (r := b0.toInt.toNat) (by omega) f1
        have ew : sFAx s b0.toInt c0.toInt = w := by rw [ef, w1]
        have mp := ptr.mp o g w4
        have x2' : x.toInt = (w : Int) := by rw [x2, ew]
        have e41 := yx 41 (b := 41) rfl x2' (by omega)
        rw [if_neg (by rw [i_eq, x2]; exact f0), if_pos e41.1, e41.2, y_canMend a2 o l (a2.w w2) ⟨mp.1, mp.2.1⟩ (fun q => (mp.2.2 q).1), xb1_some]
        by_cases cn : sNeed s (s 1 w) ∧ ¬ sRoom s 1 (sSz s (sWh s (s 1 w)))
        · have := fail (fun q => by
            have := q.2.2.2
            rw [ew, Int.toNat_natCast] at this
            exact this ((sMendV_2 o mp.1).mpr cn))
          rw [this.1, if_pos cn, if_pos rfl]
          exact ⟨_, M1, MY, rfl, rfl, this.2⟩
        · have nv : sMendV s (s 1 w) ≠ -2 := fun q => cn ((sMendV_2 o mp.1).mp q)
          obtain ⟨M3, k1, k2, k3⟩ := s1 ⟨d, by rw [tn]; exact c10, f0, by rw [ew, Int.toNat_natCast]; exact nv⟩
          rw [ew, Int.toNat_natCast, tn] at k2
          rw [ew, Int.toNat_natCast] at k1
          have p5' : PrX 16 M3 St n s := p5.fr (fun q _ _ => k3 q (by omega))
          obtain ⟨M4, m1, m2, m3⟩ := x_keep p5'
          have nm1 : ¬ (if sNeed s (s 1 w) then (1 : Int32) else 0) = -1 := by split <;> decide
          rw [k1, xb2_some, if_neg nm1, m1, xb1_some, if_neg cn, if_neg n10, p3, xb1_some]
          have e35 := yx 35 (b := 35) rfl ht0 (by omega)
          have e37 := yx 37 (b := 37) rfl ht0 (by omega)
          have e39 := yx 39 (b := 39) rfl ht0 (by omega)
          simp only [xlet_eq]
          rw [if_pos e35.1, if_pos e37.1, if_pos e39.1, e35.2, e37.2, e39.2]
          have hw1 := p7.w w2
          have h25 : RY (up2 (up2 (up2 N1 1 (35 + t) x) 1 (37 + t) (N1 1 (41 + w))) 1 (39 + t) (-1)) (sSetT s t w (s 1 w) (-1)) := p7.setT t2 x2' (fun _ => ⟨hw1, rfl⟩)
          have o25 : Ok (sSetT s t w (s 1 w) (-1)) := o.setT (by omega) w3 (by omega)
          have f25 : frY N1 (up2 (up2 (up2 N1 1 (35 + t) x) 1 (37 + t) (N1 1 (41 + w))) 1 (39 + t) (-1)) := frY.tr (frY.tr (frY.up (by omega)) (frY.up (by omega))) (frY.up (by omega))
          rw [y_needsMove h25 o25 hw1 w3, xb1_some]
          obtain ⟨q1, q2, q3, q4, q5, q6, q7, q8, q9⟩ := p8
          -- what is left when both are done
          have fin : ∀ N2, RY N2 (sBegin s t w) → frY N1 N2 → Rel M4 N2 LY := fun N2 hy fy => by
            refine hr.done nt (fun nt' h' => (Snp.of hs).nt h') ?_ (fun q hq => (m3 q (by omega)).trans ((k3 q (by omega)).trans (p9 q (by omega)))) (fun q hq => (fy.1 q (by omega)).trans (p11 q (by omega)))
            have ho : HO (sBegin s t w) := ⟨hi.begin t2 w2 w3 w4 nv, by
              have : sBegin s t w 0 17 = s 0 17 := by
                unfold sBegin; split
                · rw [sSetT_k _ (by decide) (by decide) (by decide), sCopy_k _ (by decide), sGive_k _ (by decide) (by decide) (by decide)]
                · rw [sSetT_k _ (by decide) (by decide) (by decide)]
              rw [this]; exact hc, hrw.begin hi (r := b0.toInt.toNat) (f := c0.toInt) (by omega) w1 t2 c10 nv⟩
            refine Snp.of (St := kSt St n s) ⟨k2.fr (fun q _ _ => m3 q (by omega)), hy, ho, m2, ⟨q5.1, by rw [fy.2 2 (by omega)]; exact q5.2.1, fun i hi => ?_⟩, q6, a7.fr (fun q _ _ => (m3 q (by omega)).trans ((k3 q (by omega)).trans (p9 q (by omega)))), q8.fr q9.2.2.1 (fun j j1 j2 => fy.2 j (by omega)) (fun j j1 j2 => fy.2 j (by omega)), q9⟩
            refine (q5.2.2 i hi).fr (q6 i hi).ok (fun j j1 j2 => ?_)
            unfold rwY
            exact fy.2 _ (by omega)
          by_cases nd : sNeed s (s 1 w)
          · have cr : sRoom s 1 (sSz s (sWh s (s 1 w))) := by
              by_cases z : sRoom s 1 (sSz s (sWh s (s 1 w)))
              · exact z
              · exact absurd ⟨nd, z⟩ cn
            have p0 : 0 ≤ s 1 w ∧ s 1 w ≤ 191 := ⟨by
              have : s 1 w ≠ -1 := fun q => nd.1 (Or.inl q)
              omega, w3.2⟩
            have wl := sWh_lt o p0
            have hh := (mp.2.2 nd.1).1
            obtain ⟨m, b, hm, v1, v2, v3, v4, v5, v6, v7, _, _, og, _⟩ := move_facts o l wl hh cr
            obtain ⟨L, L1, L2⟩ := y_whereOf h25 o25 hw1 p0
            have L2 : L.toInt = (sWh s (s 1 w) : Int) := L2
            obtain ⟨z, z1, z2⟩ := y_sizeOf h25 o25 L2 wl
            have z2' : z.toInt = (m : Int) := by rw [z2]; show s 1 (sWh s (s 1 w)) - 999 = _; rw [v1]; omega
            obtain ⟨gv, N3, g1, g2, g3, g4⟩ := y_given h25 o25 (b := 10) (u := 1) z2' (by omega) rfl (by omega) v7
            have g2 : gv.toInt = (sAt s 1 m : Int) := g2
            rw [v4] at g2
            have h40 : RY (up2 N3 1 (39 + t) gv) (up2 (sGive (sSetT s t w (s 1 w) (-1)) 1 m) 12 t b) := RY.up g3 (k := 12) (i := t) (yd_i t2 (by decide) (by decide)) (by decide) g2
            have ogt : Ok (sGive (sSetT s t w (s 1 w) (-1)) 1 m) := by
              have l25 : Lay (sSetT s t w (s 1 w) (-1)) := l
              exact Ok_give o25 l25 (by omega) hm v7
            have o40 : Ok (up2 (sGive (sSetT s t w (s 1 w) (-1)) 1 m) 12 t b) := ogt.up (by decide) ⟨by omega, by omega⟩
            have rd : (up2 N3 1 (39 + t) gv) 1 (39 + t) = gv := by rw [up2_same]
            obtain ⟨N5, c1, c2, c3⟩ := y_copyWords h40 o40 (a := L) (b := gv) (x := sWh s (s 1 w)) (y := b) (n := m) L2 g2 (by
              rw [up2_ap, if_neg (by omega), give_setT _ (by decide) (by decide) (by decide), sGive_k _ (by decide) (by decide) (by decide)]; exact v1) v3 wl v5 v6
            rw [if_pos (show sNeed (sSetT s t w (s 1 w) (-1)) (s 1 w) from nd), if_neg n10, L1, xb1_some, z1, xb1_some, g1, xb2_some, rd, c1, xb1_some, if_pos nd]
            rw [begin_eq] at c2
            have c2' : RY N5 (sBegin s t w) := by unfold sBegin; rw [if_pos nd, v2, v4]; exact c2
            exact ⟨_, M4, N5, rfl, rfl, fin N5 c2' (frY.tr (frY.tr (frY.tr f25 g4) (frY.up (by omega))) c3)⟩
          · rw [if_neg (show ¬ sNeed (sSetT s t w (s 1 w) (-1)) (s 1 w) from nd), if_pos rfl, if_neg nd]
            have h25' : RY (up2 (up2 (up2 N1 1 (35 + t) x) 1 (37 + t) (N1 1 (41 + w))) 1 (39 + t) (-1)) (sBegin s t w) := by unfold sBegin; rw [if_neg nd]; exact h25
            exact ⟨_, M4, _, rfl, rfl, fin _ h25' f25⟩
    · have := fail (fun q => c10 (by rw [← tn]; exact q.2.1))
      rw [this.1, if_neg c10, if_neg n10]
      exact ⟨_, M1, MY, rfl, rfl, this.2⟩
  · have := fail (fun q => d q.1)
    rw [this.1, if_neg d, if_pos rfl]
    exact ⟨_, M1, MY, rfl, rfl, this.2⟩
theorem sFin_17 {s : hs} {t r : Nat} : sFin s t r 0 17 = s 0 17 := by
  have e1 : sFin1 s t 0 17 = s 0 17 := by
    unfold sFin1 sSettle
    split
    · rfl
    · split
      · rw [sTell_k _ (by decide) (by decide) (by decide) (by decide)]; rfl
      · split
        · rw [sClr_k _ (by decide) (by decide)]; rfl
        · rfl
  have e2 : sMend (sFin1 s t) (s 11 t) 0 17 = s 0 17 := by rw [sMend_0 (by decide)]; exact e1
  unfold sFin
  rw [up2_ap, if_neg (by omega)]
  split
  · unfold sWM
    split
    · exact e2
    · rw [sWr_k _ (by decide), up2_ap, if_neg (by omega)]; exact e2
  · exact e2
theorem s_finish : sim_finish Rel := by
  intro MX MY LY a0 b0 h
  have hr := h
  obtain ⟨nt, nti, ⟨s, St, n, ru, sd, sp, sk, hs⟩, _⟩ := h
  have ⟨a1, a2, ⟨⟨G, hi⟩, hc, hrw⟩, a4, a5, a6, a7, a8, a9⟩ := hs
  unfold f_X9_finish f_X10_finish
  rw [f_isRoot_eq, yRoot, yThread, x_hasBegun a1, xb1_some]
  by_cases d : 0 ≤ b0.toInt ∧ b0.toInt ≤ 5
  · obtain ⟨r, hr0⟩ : ∃ r : Nat, b0.toInt = r := ⟨b0.toInt.toNat, by omega⟩
    rw [if_pos (c := 0 ≤ b0.toInt ∧ b0.toInt < 6) (by omega), if_neg n10, if_pos (c := 0 ≤ b0.toInt ∧ b0.toInt ≤ 5) d, if_neg (c := (1 : Int32) = 0) n10]
    by_cases e : 0 ≤ a0.toInt ∧ a0.toInt ≤ 1
    · obtain ⟨t, ht0⟩ : ∃ t : Nat, a0.toInt = t := ⟨a0.toInt.toNat, by omega⟩
      have tn : a0.toInt.toNat = t := by omega
      rw [if_pos (c := 0 ≤ a0.toInt ∧ a0.toInt ≤ 1) e, if_neg (c := (1 : Int32) = 0) n10, y_isBegun a2 ht0 (by omega), xb1_some, tn]
      by_cases c10 : s 10 t = -1
      · rw [if_neg (c := (0 ≤ a0.toInt ∧ a0.toInt ≤ 1) ∧ s 10 t ≠ -1) (fun q => q.2 c10), if_pos rfl, if_pos c10, if_pos rfl]
        exact ⟨_, MX, MY, rfl, rfl, hr⟩
      · obtain ⟨M1, M2, N1, p1, p2, p3, p4, p5, p6, p7, p8, p9, p10, p11, p12⟩ := kept hs
        obtain ⟨v, M3, x1, x2, x3, x4⟩ := x_finishRead p6 hi ht0 (by omega) hr0 (by omega) c10
        obtain ⟨v', N2, y1, y2, y3, y4⟩ := y_finishNow p7 hi ht0 (by omega) hr0 (by omega) c10
        rw [if_pos (c := (0 ≤ a0.toInt ∧ a0.toInt ≤ 1) ∧ s 10 t ≠ -1) ⟨e, c10⟩, if_neg n10, if_neg c10, if_neg n10, p1, xb1_some, p2, xb1_some, x1, xb2_some, p3, xb1_some, y1, xb2_some, i_inj x2 y2]
        refine ⟨_, M3, N2, rfl, rfl, ?_⟩
        refine hr.done nt (fun nt' h' => (Snp.of hs).nt h') ?_ (fun q hq => (x4 q (by omega)).trans (p10 q (by omega))) (fun q hq => (y4.1 q (by omega)).trans (p11 q (by omega)))
        exact Snp.of (p8.heap x3 y3 ⟨hi.fin (by omega) c10, by rw [sFin_17]; exact hc, (hrw.fin hi (by omega) c10).1⟩ x4.l y4.p)
    · rw [if_neg (c := 0 ≤ a0.toInt ∧ a0.toInt ≤ 1) e, if_pos rfl, if_neg (c := (0 ≤ a0.toInt ∧ a0.toInt ≤ 1) ∧ s 10 a0.toInt.toNat ≠ -1) (fun q => e q.1), if_pos rfl]
      exact ⟨_, MX, MY, rfl, rfl, hr⟩
  · rw [if_neg (c := 0 ≤ b0.toInt ∧ b0.toInt < 6) (by omega), if_pos rfl, if_neg (c := 0 ≤ b0.toInt ∧ b0.toInt ≤ 5) d]
    refine ⟨-2, MX, MY, rfl, ?_, hr⟩
    split
    · rfl
    · rw [if_pos rfl]
