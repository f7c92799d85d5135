/-! threads: begun -/
def sSetT (s : hs) (t : Nat) (w p c : Int) : hs := up2 (up2 (up2 s 10 t w) 11 t p) 12 t c
theorem sSetT_k {s : hs} {t k : Nat} {w p c : Int} (i : Nat) (h0 : k ≠ 10) (h1 : k ≠ 11) (h2 : k ≠ 12) : sSetT s t w p c k i = s k i := by
  unfold sSetT
  rw [up2_ap, if_neg (fun z => h2 z.1), up2_ap, if_neg (fun z => h1 z.1), up2_ap, if_neg (fun z => h0 z.1)]
theorem sSetT_10 {s : hs} {t : Nat} {w p c : Int} (i : Nat) : sSetT s t w p c 10 i = if i = t then w else s 10 i := by
  unfold sSetT
  rw [up2_ap, if_neg (by omega), up2_ap, if_neg (by omega), up2_ap]
  by_cases q : i = t
  · rw [if_pos ⟨rfl, q⟩, if_pos q]
  · rw [if_neg (fun z => q z.2), if_neg q]
theorem sSetT_11 {s : hs} {t : Nat} {w p c : Int} (i : Nat) : sSetT s t w p c 11 i = if i = t then p else s 11 i := by
  unfold sSetT
  rw [up2_ap, if_neg (by omega), up2_ap]
  by_cases q : i = t
  · rw [if_pos ⟨rfl, q⟩, if_pos q]
  · rw [if_neg (fun z => q z.2), if_neg q, up2_ap, if_neg (by omega)]
theorem sSetT_12 {s : hs} {t : Nat} {w p c : Int} (i : Nat) : sSetT s t w p c 12 i = if i = t then c else s 12 i := by
  unfold sSetT
  rw [up2_ap]
  by_cases q : i = t
  · rw [if_pos ⟨rfl, q⟩, if_pos q]
  · rw [if_neg (fun z => q z.2), if_neg q, up2_ap, if_neg (by omega), up2_ap, if_neg (by omega)]
theorem RY.setT {M : xm} {s : hs} (h : RY M s) {t : Nat} (ht : t < 2) {x y z : Int32} {w p c : Int} (hx : x.toInt = w) (hy : w ≠ -1 → y.toInt = p ∧ z.toInt = c) : RY (up2 (up2 (up2 M 1 (35 + t) x) 1 (37 + t) y) 1 (39 + t) z) (sSetT s t w p c) := by
  have d10 : yd 10 t = true := yd_i ht (by decide) (by decide)
  have d11 : yd 11 t = true := yd_i ht (by decide) (by decide)
  have d12 : yd 12 t = true := yd_i ht (by decide) (by decide)
  refine ⟨fun k i hd hc => ?_, ?_, fun q hq => ?_⟩
  · rw [up2_row, up2_row, up2_row]
    by_cases c12 : k = 12 ∧ i = t
    · obtain ⟨rfl, rfl⟩ := c12
      have := hc (Or.inr rfl)
      rw [sSetT_10, if_pos rfl] at this
      rw [if_pos (show yf 12 i = 39 + i from rfl), sSetT_12, if_pos rfl]; exact (hy this).2
    · rw [if_neg (show ¬ yf k i = 39 + t from fun q => c12 (yf_inj hd d12 q))]
      by_cases c11 : k = 11 ∧ i = t
      · obtain ⟨rfl, rfl⟩ := c11
        have := hc (Or.inl rfl)
        rw [sSetT_10, if_pos rfl] at this
        rw [if_pos (show yf 11 i = 37 + i from rfl), sSetT_11, if_pos rfl]; exact (hy this).1
      · rw [if_neg (show ¬ yf k i = 37 + t from fun q => c11 (yf_inj hd d11 q))]
        by_cases c10 : k = 10 ∧ i = t
        · obtain ⟨rfl, rfl⟩ := c10
          rw [if_pos (show yf 10 i = 35 + i from rfl), sSetT_10, if_pos rfl]; exact hx
        · rw [if_neg (show ¬ yf k i = 35 + t from fun q => c10 (yf_inj hd d10 q))]
          have e : sSetT s t w p c k i = s k i := by
            unfold sSetT; rw [up2_ap, if_neg c12, up2_ap, if_neg c11, up2_ap, if_neg c10]
          rw [e]
          refine h.1 k i hd (fun q => ?_)
          have := hc q
          rw [sSetT_10, if_neg (by omega)] at this
          exact this
  · rw [up2_row, if_neg (by omega), up2_row, if_neg (by omega), up2_row, if_neg (by omega), sSetT_k 0 (by decide) (by decide) (by decide)]
    exact h.2.1
  · rw [sSetT_k 0 (by decide) (by decide) (by decide)] at hq
    rw [up2_row, if_neg (by omega), up2_row, if_neg (by omega), up2_row, if_neg (by omega), sSetT_k _ (by decide) (by decide) (by decide), sSetT_k _ (by decide) (by decide) (by decide), sSetT_k _ (by decide) (by decide) (by decide)]
    exact h.2.2 q hq
theorem RX.setT {u : Nat} {M : xm} {s : hs} (h : RX u M s) {t : Nat} {x y z : Int32} {w p c : Int} (hx : x.toInt = w) (hy : y.toInt = p) (hz : z.toInt = c) : RX u (up2 (up2 (up2 M (u + 10) t x) (u + 11) t y) (u + 12) t z) (sSetT s t w p c) :=
  ((h.up (by decide) hx).up (by decide) hy).up (by decide) hz
theorem Ok.setT {s : hs} (o : Ok s) {t : Nat} {w p c : Int} (hw : -1 ≤ w ∧ w ≤ 63) (hp : -1 ≤ p ∧ p ≤ 191) (hc : -1 ≤ c ∧ c ≤ 63) : Ok (sSetT s t w p c) := by
  unfold sSetT
  refine Ok.up ?_ (by decide) hc
  refine Ok.up ?_ (by decide) hp
  exact Ok.up o (by decide) hw
/-- a thread is set: what holds stays -/
theorem In.setT {s : hs} {G e : Nat → Prop} {k t : Nat} (h : In s G e k) {w p c : Int} (hw : -1 ≤ w ∧ w ≤ 63) (hp : -1 ≤ p ∧ p ≤ 191) (hc : -1 ≤ c ∧ c ≤ 63) (h4 : w ≠ -1 → ptr s G p) (h5 : w ≠ -1 → c ≠ -1 → s 0 14 = 2 ∧ (1000 ≤ s 1 c.toNat ∧ s 3 c.toNat = 0 ∧ s 7 (c.toNat / 8) = 1) ∧ fld s (ptr s G) c.toNat ∧ ¬ sGood s p) (h6 : w ≠ -1 → c ≠ -1 → ∀ t', t' < 2 → t' ≠ t → s 10 t' ≠ -1 → s 12 t' ≠ c) (h7 : w ≠ -1 → sNeed s p → c ≠ -1) : In (sSetT s t w p c) G e k := by
  obtain ⟨o, l, f2, ⟨g1, g2, g3, g4, g5, g6, g7, g8, g9, g10, g11, g12, g13, g14, g15⟩, rg⟩ := h
  refine ⟨o.setT hw hp hc, l, f2, ⟨g1, g2, g3, ?_, ?_, ?_, ?_, g8, g9, g10, g11, g12, g13, g14, g15⟩, rg⟩
  · intro t' ht h10
    show ptr s G _
    rw [sSetT_10] at h10
    rw [sSetT_11]
    by_cases q : t' = t
    · rw [if_pos q] at h10 ⊢; exact h4 h10
    · rw [if_neg q] at h10 ⊢; exact g4 t' ht h10
  · intro t' ht h10 h12
    rw [sSetT_10] at h10
    rw [sSetT_12] at h12
    rw [sSetT_12, sSetT_11]
    by_cases q : t' = t
    · rw [if_pos q] at h10 h12
      rw [if_pos q, if_pos q]
      exact h5 h10 h12
    · rw [if_neg q] at h10 h12
      rw [if_neg q, if_neg q]
      exact g5 t' ht h10 h12
  · intro a b c'
    rw [sSetT_10] at a b
    rw [sSetT_12] at c'
    rw [sSetT_12, sSetT_12]
    by_cases q0 : 0 = t
    · rw [if_pos q0] at a c'
      rw [if_pos q0, if_neg (by omega)]
      rw [if_neg (by omega)] at b
      exact Ne.symm (h6 a c' 1 (by omega) (by omega) b)
    · rw [if_neg q0] at a c'
      rw [if_neg q0]
      by_cases q1 : 1 = t
      · rw [if_pos q1] at b
        rw [if_pos q1]
        intro z
        exact h6 b (by rw [← z]; exact c') 0 (by omega) q0 a z
      · rw [if_neg q1] at b
        rw [if_neg q1]
        exact g6 a b c'
  · intro t' ht h10 hn
    rw [sSetT_10] at h10
    rw [sSetT_12]
    rw [sSetT_11] at hn
    by_cases q : t' = t
    · rw [if_pos q] at h10 hn ⊢
      exact h7 h10 hn
    · rw [if_neg q] at h10 hn ⊢
      exact g7 t' ht h10 hn
def sBegin (s : hs) (t w : Nat) : hs := if sNeed s (s 1 w) then sSetT (sCopy (sGive s 1 (sSz s (sWh s (s 1 w)))) (sWh s (s 1 w)) (sAt s 1 (sSz s (sWh s (s 1 w)))) (sSz s (sWh s (s 1 w)))) t w (s 1 w) (sAt s 1 (sSz s (sWh s (s 1 w)))) else sSetT s t w (s 1 w) (-1)
theorem In.begin {s : hs} {G : Nat → Prop} (h : In s G no 6) {t w : Nat} (ht : t < 2) (hw : w < 64) (hv : -1 ≤ s 1 w ∧ s 1 w ≤ 191) (hp : ptr s G (s 1 w)) (hm : sMendV s (s 1 w) ≠ -2) : Inv (sBegin s t w) := by
  have hin := h
  obtain ⟨o, l, f2, g, rg⟩ := h
  have mp := ptr.mp o g hp
  unfold sBegin
  by_cases c : sNeed s (s 1 w)
  · rw [if_pos c]
    have cr : sRoom s 1 (sSz s (sWh s (s 1 w))) := by
      by_cases z : sRoom s 1 (sSz s (sWh s (s 1 w)))
      · exact z
      · exact absurd ((sMendV_2 o mp.1).mpr ⟨c, z⟩) hm
    have hg : G (sWh s (s 1 w)) := hp.elim (fun q => absurd (Or.inl q) c.1) (fun q => q.2)
    obtain ⟨g1, g2, g3, g4, g5, g6, g7, g8, g9, g10, g11, g12, g13, g14, g15⟩ := g
    obtain ⟨a64, ah, _⟩ := g1 _ hg
    obtain ⟨n, b, hn, m1, m2, m3, m4, m5, m6, m7, m8, m9, _, _, _, _, m10, m11⟩ := move_facts o l a64 ah cr
    have al := copy_al o l (u := 1) (n := n) (a := sWh s (s 1 w)) (by omega) hn m7
    have fresh := @give_fresh s o l 1 n (by omega) hn m7
    obtain ⟨p8, bb, _, d1, d2, d3, ee, ff⟩ := give_facts o l (show 1 < 2 by omega) hn m7
    have hc : nwOk n (fun j => s 1 (sWh s (s 1 w) + j)) := ⟨by simpa using m1, fun j j1 j2 => l.2.1 _ a64 ah j j1 (by omega)⟩
    obtain ⟨i1, i2⟩ := hin.al (u := 1) (by omega) hn m7 hc false False (by simp) (by simp) (by simp) (by simp)
    rw [m4] at i1 i2 bb ee ff d3
    rw [m2, m4]
    rw [m4] at al
    rw [al]
    have fr : ∀ i, b ≤ i → i < b + n → s 1 i = -2 ∧ s 3 i = 0 := fun i h1 h2 => fresh (by rw [m4]; exact h1) (by omega)
    refine ⟨_, i1.setT (by omega) ⟨by omega, by omega⟩ (by omega) (fun _ => i2 _ hp) (fun _ _ => ⟨c.2.1, ⟨?_, ?_, ?_⟩, ?_, c.1⟩) (fun _ _ t' ht' _ h10 => ?_) (fun _ _ => by omega)⟩
    · rw [Int.toNat_natCast, sAl_1, m4, if_pos (by omega), show b - b = 0 by omega]; exact ah
    · rw [Int.toNat_natCast, sAl_3, if_neg (by simp)]; exact (fr b (by omega) (by omega)).2
    · rw [Int.toNat_natCast, sAl_7, m4, if_pos rfl]
    · intro j j1 j2
      rw [Int.toNat_natCast, sAl_1, m4, if_pos (by omega), show b - b = 0 by omega] at j2
      have j2 : (j : Int) ≤ s 1 (sWh s (s 1 w)) - 1000 := j2
      rw [Int.toNat_natCast, sAl_1, m4, if_pos (by omega), show b + j - b = j by omega]
      exact i2 _ (g3 _ hg j j1 j2)
    · show s 12 t' ≠ b
      intro q
      have h10 : s 10 t' ≠ -1 := h10
      have := (g5 t' ht' h10 (by omega)).2.1.1
      rw [q, Int.toNat_natCast] at this
      have := (fr b (by omega) (by omega)).1
      omega
  · rw [if_neg c]
    exact ⟨G, hin.setT (by omega) hv (by omega) (fun _ => hp) (fun _ q => absurd rfl q) (fun _ q => absurd rfl q) (fun _ q => absurd q c)⟩
theorem x_hasBegun {u : Nat} {M : xm} {s : hs} (h : RX u M s) {a : Int32} : f_X1_hasBegun u M a = some (if (0 ≤ a.toInt ∧ a.toInt ≤ 1) ∧ s 10 a.toInt.toNat ≠ -1 then 1 else 0) := by
  unfold f_X1_hasBegun
  by_cases c : 0 ≤ a.toInt ∧ a.toInt ≤ 1
  · obtain ⟨t, ht⟩ : ∃ t : Nat, a.toInt = t := ⟨a.toInt.toNat, by omega⟩
    rw [if_neg (by rw [i_lt]; simp only [Int32.reduceToInt]; omega), if_neg (by rw [i_le]; simp only [Int32.reduceToInt]; omega), if_pos (i_in ht (by omega)), i_ix ht, ht, Int.toNat_natCast]
    by_cases c2 : s 10 t = -1
    · rw [if_pos (by rw [i_eq, h.t (show t < 2 by omega), c2]; rfl), if_neg (fun q => q.2 c2)]
    · rw [if_neg (by rw [i_eq, h.t (show t < 2 by omega)]; exact c2), if_pos ⟨by omega, c2⟩]
  · rw [if_neg (c := (0 ≤ a.toInt ∧ a.toInt ≤ 1) ∧ s 10 a.toInt.toNat ≠ -1) (fun q => c q.1)]
    by_cases c1 : a.toInt < 0
    · rw [if_pos (by rw [i_lt]; exact c1)]
    · rw [if_neg (by rw [i_lt]; exact c1), if_pos (by rw [i_le]; simp only [Int32.reduceToInt]; omega)]
theorem x_threadsBegun {u : Nat} {M : xm} {s : hs} (h : RX u M s) : f_X1_threadsBegun u M = some ((if s 10 0 = -1 then 0 else 1) + (if s 10 1 = -1 then 0 else 2)) := by
  unfold f_X1_threadsBegun
  rw [x_hasBegun h, x_hasBegun h]
  have e0 : (0 : Int32).toInt = 0 := rfl
  have e1 : (1 : Int32).toInt = 1 := rfl
  rw [e0, e1]
  by_cases h0 : s 10 0 = -1 <;> by_cases h1 : s 10 1 = -1 <;> simp [h0, h1, xb1, xlet]
theorem x_beginRead {u : Nat} {M : xm} {s : hs} {G : Nat → Prop} (h : RX u M s) (hi : In s G no 6) {a b c : Int32} : ((0 ≤ a.toInt ∧ a.toInt ≤ 1) ∧ s 10 a.toInt.toNat = -1 ∧ sFAx s b.toInt c.toInt ≠ -1 ∧ sMendV s (s 1 (sFAx s b.toInt c.toInt).toNat) ≠ -2 → ∃ M', f_X1_beginRead u M a b c = some (if sNeed s (s 1 (sFAx s b.toInt c.toInt).toNat) then 1 else 0, M') ∧ RX u M' (sBegin s a.toInt.toNat (sFAx s b.toInt c.toInt).toNat) ∧ frX u M M') ∧ (¬ ((0 ≤ a.toInt ∧ a.toInt ≤ 1) ∧ s 10 a.toInt.toNat = -1 ∧ sFAx s b.toInt c.toInt ≠ -1 ∧ sMendV s (s 1 (sFAx s b.toInt c.toInt).toNat) ≠ -2) → f_X1_beginRead u M a b c = some (-1, M)) := by
  have ⟨o, l, f2, g, rg⟩ := hi
  obtain ⟨x, x1, x2⟩ := x_fieldWord h o l (a := b) (b := c)
  unfold f_X1_beginRead
  rw [x1, xb1_some, x_hasBegun h]
  by_cases c0 : 0 ≤ a.toInt ∧ a.toInt ≤ 1
  · obtain ⟨t, ht⟩ : ∃ t : Nat, a.toInt = t := ⟨a.toInt.toNat, by omega⟩
    have t2 : t < 2 := by omega
    rw [if_neg (by rw [i_lt]; simp only [Int32.reduceToInt]; omega), if_neg (by rw [i_le]; simp only [Int32.reduceToInt]; omega), xb1_some, ht, Int.toNat_natCast]
    by_cases c2 : s 10 t = -1
    · rw [if_neg (c := _ ∧ s 10 t ≠ -1) (fun q => q.2 c2), if_pos rfl]
      by_cases c1 : sFAx s b.toInt c.toInt = -1
      · rw [f_isAddress_0 (by rw [x2, c1]; decide), if_pos rfl]
        exact ⟨fun q => absurd c1 q.2.2.1, fun _ => rfl⟩
      · have cb : 0 ≤ b.toInt ∧ b.toInt ≤ 5 := by
          by_cases q : 0 ≤ b.toInt ∧ b.toInt ≤ 5
          · exact q
          · exact absurd (by unfold sFAx; rw [if_neg q]) c1
        have ef : sFAx s b.toInt c.toInt = sFA s b.toInt.toNat c.toInt := by unfold sFAx; rw [if_pos cb]
        rw [ef] at c1 x2 ⊢
        obtain ⟨w, w1, w2, w3, w4⟩ := fieldFacts hi (r := b.toInt.toNat) (by omega) c1
        rw [w1] at x2 c1 ⊢
        have mp := ptr.mp o g w4
        rw [f_isAddress_1 x2 w2, if_neg n10, if_pos (i_in x2 w2), i_ix x2, Int.toNat_natCast]
        simp only [xlet_eq]
        have hval := h.w w2
        have fin : ∀ (M8 : xm) (s8 : hs) (d : Int32) (z : Int), RX u M8 s8 → d.toInt = z → ∃ M', (if xin a 2 = true then (if d = (-1 : Int32) then some ((0 : Int32), up2 (up2 (up2 M8 (u + 10) (Int32.toNatClampNeg a) x) (u + 11) (Int32.toNatClampNeg a) (M (u + 1) w)) (u + 12) (Int32.toNatClampNeg a) d) else some ((1 : Int32), up2 (up2 (up2 M8 (u + 10) (Int32.toNatClampNeg a) x) (u + 11) (Int32.toNatClampNeg a) (M (u + 1) w)) (u + 12) (Int32.toNatClampNeg a) d)) else none) = some (if z = -1 then 0 else 1, M') ∧ RX u M' (sSetT s8 t w (s 1 w) z) ∧ frX u M8 M' := by
          intro M8 s8 d z h8 hd
          rw [if_pos (i_in ht t2), i_ix ht]
          refine ⟨up2 (up2 (up2 M8 (u + 10) t x) (u + 11) t (M (u + 1) w)) (u + 12) t d, ?_, h8.setT x2 hval hd, frX.tr (frX.tr (frX.up (by decide)) (frX.up (by decide))) (frX.up (by decide))⟩
          by_cases q : z = -1
          · rw [if_pos (by rw [i_eq, hd, q]; rfl), if_pos q]
          · rw [if_neg (by rw [i_eq, hd]; exact q), if_neg q]
        have none_case : ¬ sNeed s (s 1 w) → sBegin s t w = sSetT s t w (s 1 w) (-1) := fun q => by unfold sBegin; rw [if_neg q]
        obtain ⟨L, L1, L2⟩ : ∃ L, f_X1_leadsTo u M (M (u + 1) w) = some L ∧ (0 ≤ s 1 w → L.toInt = (sWh s (s 1 w) : Int)) := by
          by_cases q : 0 ≤ s 1 w
          · obtain ⟨L, L1, L2⟩ := x_leadsTo h o hval ⟨q, w3.2⟩
            exact ⟨L, L1, fun _ => L2⟩
          · exact ⟨-1, x_leadsTo0 (by rw [hval]; omega), fun z => absurd z q⟩
        rw [L1, xb1_some]
        by_cases d1 : s 1 w = -1
        · have nn : ¬ sNeed s (s 1 w) := fun q => q.1 (Or.inl d1)
          have nv : sMendV s (s 1 w) ≠ -2 := fun q => nn ((sMendV_2 o mp.1).mp q).1
          rw [if_pos (by rw [i_lt, hval, d1]; decide)]
          obtain ⟨M', k1, k2, k3⟩ := fin M s (-1) (-1) h rfl
          refine ⟨fun _ => ⟨M', ?_, ?_, k3⟩, fun q => absurd ⟨by omega, c2, c1, nv⟩ q⟩
          · rw [if_neg nn]; exact k1
          · rw [none_case nn]; exact k2
        · have p0 : 0 ≤ s 1 w := by omega
          have e1 := i_div (x := M (u + 1) w) (y := 64) (b := 64) hval rfl (by omega) (by omega) (by omega)
          rw [if_neg (by rw [i_lt, hval]; simp only [Int32.reduceToInt]; omega)]
          by_cases d2 : s 1 w / 64 = s 0 15
          · have nn : ¬ sNeed s (s 1 w) := fun q => q.1 (Or.inr d2)
            have nv : sMendV s (s 1 w) ≠ -2 := fun q => nn ((sMendV_2 o mp.1).mp q).1
            rw [if_pos (by rw [i_eq, e1, h.good]; exact d2)]
            obtain ⟨M', k1, k2, k3⟩ := fin M s (-1) (-1) h rfl
            refine ⟨fun _ => ⟨M', ?_, ?_, k3⟩, fun q => absurd ⟨by omega, c2, c1, nv⟩ q⟩
            · rw [if_neg nn]; exact k1
            · rw [none_case nn]; exact k2
          · have cg : ¬ sGood s (s 1 w) := fun q => q.elim d1 d2
            have wl := sWh_lt o ⟨p0, w3.2⟩
            rw [if_neg (by rw [i_eq, e1, h.good]; exact d2), x_mustMove h (L2 p0) wl, xb1_some]
            by_cases d3 : sMust s (sWh s (s 1 w))
            · have nn : sNeed s (s 1 w) := ⟨cg, d3⟩
              have hh := (mp.2.2 cg).1
              obtain ⟨z, z1, z2⟩ := x_sizeAt h o (L2 p0) wl
              obtain ⟨n0, hn0, y1, y2, y3, y4⟩ := head_n o l wl hh
              rw [y2] at z2
              obtain ⟨g1, g2⟩ := x_giveOut h o (a := 1) (t := 1) rfl (by omega) z2 (by omega)
              rw [if_pos d3, if_neg n10, z1, xb1_some]
              by_cases cr : sRoom s 1 (sSz s (sWh s (s 1 w)))
              · have nv : sMendV s (s 1 w) ≠ -2 := fun q => ((sMendV_2 o mp.1).mp q).2 cr
                obtain ⟨n, bb, hn, q1, q2, q3, q4, q5, q6, q7, _, _, og, oc, hb1, hb5, _, _⟩ := move_facts o l wl hh cr
                have : n0 = n := by rw [← y2, q2]
                subst this
                obtain ⟨gv, M1, k1, k2, k3, k4⟩ := g1 q7
                rw [q4] at k2
                obtain ⟨z', z1', z2'⟩ := x_sizeAt k3 og (L2 p0) wl
                have z2'' : z'.toInt = (n0 : Int) := by
                  rw [z2']; unfold sSz; rw [sGive_k _ (by decide) (by decide) (by decide)]; unfold sSz at q2; rw [q2]
                obtain ⟨M2, c1', c2', c3'⟩ := x_copyWords k3 (L2 p0) k2 z2'' q3 q5 q6
                obtain ⟨M', r1, r2, r3⟩ := fin M2 _ gv bb c2' k2
                rw [k1, xb2_some, if_neg (by rw [i_eq, k2]; simp only [Int32.reduceToInt]; omega), z1', xb1_some, c1', xb1_some]
                refine ⟨fun _ => ⟨M', ?_, ?_, frX.tr (frX.tr k4 c3') r3⟩, fun q => absurd ⟨by omega, c2, c1, nv⟩ q⟩
                · rw [r1, if_neg (by omega), if_pos nn]
                · unfold sBegin; rw [if_pos nn, q2, q4]; exact r2
              · rw [g2 (by rw [← y2]; exact cr), xb2_some, if_pos rfl]
                exact ⟨fun q => absurd ((sMendV_2 o mp.1).mpr ⟨nn, cr⟩) q.2.2.2, fun _ => rfl⟩
            · have nn : ¬ sNeed s (s 1 w) := fun q => d3 q.2
              have nv : sMendV s (s 1 w) ≠ -2 := fun q => nn ((sMendV_2 o mp.1).mp q).1
              rw [if_neg d3, if_pos rfl]
              obtain ⟨M', k1, k2, k3⟩ := fin M s (-1) (-1) h rfl
              refine ⟨fun _ => ⟨M', ?_, ?_, k3⟩, fun q => absurd ⟨by omega, c2, c1, nv⟩ q⟩
              · rw [if_neg nn]; exact k1
              · rw [none_case nn]; exact k2
    · rw [if_pos (c := _ ∧ s 10 t ≠ -1) ⟨by omega, c2⟩, if_neg n10]
      exact ⟨fun q => absurd q.2.1 c2, fun _ => rfl⟩
  · refine ⟨fun q => absurd q.1 c0, fun _ => ?_⟩
    by_cases c1 : a.toInt < 0
    · rw [if_pos (by rw [i_lt]; exact c1)]
    · rw [if_neg (by rw [i_lt]; exact c1), if_pos (by rw [i_le]; simp only [Int32.reduceToInt]; omega)]
