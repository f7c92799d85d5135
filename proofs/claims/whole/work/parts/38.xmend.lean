/-! the class: copies, the book, moving, mending -/
theorem sCopy_up (s : hs) {a b k n : Nat} (hd : a + n ≤ b ∨ b + n ≤ a) (hk : k < n) : up2 (sCopy s a b k) 1 (b + k) (sCopy s a b k 1 (a + k)) = sCopy s a b (k + 1) := by
  funext q i
  have e : sCopy s a b k 1 (a + k) = s 1 (a + k) := by unfold sCopy; rw [if_neg (by omega)]
  rw [e, up2_ap]
  unfold sCopy
  by_cases h1 : q = 1
  · subst h1
    by_cases h3 : i = b + k
    · subst h3
      rw [if_pos ⟨rfl, rfl⟩, if_pos ⟨rfl, by omega⟩, show b + k - b = k by omega]
    · rw [if_neg (by omega)]
      by_cases h2 : b ≤ i ∧ i < b + k
      · rw [if_pos ⟨rfl, h2⟩, if_pos ⟨rfl, by omega⟩]
      · rw [if_neg (by omega), if_neg (by omega)]
  · rw [if_neg (fun c => h1 c.1), if_neg (fun c => h1 c.1), if_neg (fun c => h1 c.1)]
theorem x_copy_loop {u : Nat} {a b c : Int32} {x y n : Nat} (s : hs) (ha : a.toInt = (x : Int)) (hb : b.toInt = (y : Int)) (hc : c.toInt = (n : Int)) (hx : x + n ≤ 64) (hy : y + n ≤ 64) (hd : x + n ≤ y ∨ y + n ≤ x) : ∀ (d k f : Nat), k + d = n → d < f → ∀ (M : xm) (e : Int32), RX u M (sCopy s x y k) → e.toInt = (k : Int) → ∃ M', g_X1_copyWords_3 u a b c f M e = some M' ∧ RX u M' (sCopy s x y n) ∧ frX u M M' := by
  intro d
  induction d with
  | zero =>
    intro k f hk hf M e h he
    obtain ⟨f, rfl⟩ : ∃ q, f = q + 1 := ⟨f - 1, by omega⟩
    unfold g_X1_copyWords_3
    rw [if_pos (by rw [i_le, hc, he]; omega)]
    exact ⟨M, rfl, by rw [show k = n by omega] at h; exact h, frX.rfl⟩
  | succ d ih =>
    intro k f hk hf M e h he
    obtain ⟨f, rfl⟩ : ∃ q, f = q + 1 := ⟨f - 1, by omega⟩
    have ea := i_add ha he (by omega) (by omega)
    have eb := i_add hb he (by omega) (by omega)
    have ea' : (a + e).toInt = ((x + k : Nat) : Int) := by rw [ea]; omega
    have eb' : (b + e).toInt = ((y + k : Nat) : Int) := by rw [eb]; omega
    unfold g_X1_copyWords_3
    rw [if_neg (by rw [i_le, hc, he]; omega), if_neg (by rw [i_lt, ha]; simp only [Int32.reduceToInt]; omega), if_neg (by rw [i_lt, hb]; simp only [Int32.reduceToInt]; omega), if_neg (by rw [i_le, ea']; simp only [Int32.reduceToInt]; omega), if_neg (by rw [i_le, eb']; simp only [Int32.reduceToInt]; omega), if_pos (i_in ea' (by omega)), if_pos (i_in eb' (by omega)), i_ix ea', i_ix eb', xlet_eq, xlet_eq]
    have h1 : RX u (up2 M (u + 1) (y + k) (M (u + 1) (x + k))) (up2 (sCopy s x y k) 1 (y + k) (sCopy s x y k 1 (x + k))) := h.up (by decide) (h.w (show x + k < 64 by omega))
    rw [sCopy_up s hd (by omega)] at h1
    obtain ⟨M', k1, k2, k3⟩ := ih (k + 1) f (by omega) (by omega) _ (e + 1) h1 (by rw [i_add he (b := 1) rfl (by omega) (by omega)]; omega)
    exact ⟨M', k1, k2, frX.tr (frX.up (by decide)) k3⟩
theorem x_copyWords {u : Nat} {M : xm} {s : hs} (h : RX u M s) {a b c : Int32} {x y n : Nat} (ha : a.toInt = (x : Int)) (hb : b.toInt = (y : Int)) (hc : c.toInt = (n : Int)) (hx : x + n ≤ 64) (hy : y + n ≤ 64) (hd : x + n ≤ y ∨ y + n ≤ x) : ∃ M', f_X1_copyWords u M a b c = some M' ∧ RX u M' (sCopy s x y n) ∧ frX u M M' := by
  obtain ⟨M', k1, k2, k3⟩ := x_copy_loop s ha hb hc hx hy hd n 0 xfuel (by omega) (by unfold xfuel; omega) M 0 (by rw [sCopy_0]; exact h) rfl
  unfold f_X1_copyWords
  rw [k1, xb1_some]
  exact ⟨M', rfl, k2, k3⟩
theorem x_mark {u : Nat} {M : xm} {s : hs} (h : RX u M s) (o : Ok s) {a : Int32} {w : Nat} (ha : a.toInt = (w : Int)) (hw : w < 64) (h5 : s 5 (w / 8) ≤ 8) : ∃ M', f_X1_mark u M a = some M' ∧ RX u M' (sMark s w) ∧ frX u M M' := by
  have b := o.w hw
  have b5 := o.l (show w / 8 < 8 by omega)
  have e8 := i_div (x := a) (y := 8) (b := 8) ha rfl (by omega) (by omega) (by omega)
  have e8' : (a / 8).toInt = ((w / 8 : Nat) : Int) := by rw [e8]; omega
  unfold f_X1_mark sMark
  rw [if_neg (by rw [i_lt, ha]; simp only [Int32.reduceToInt]; omega), if_neg (by rw [i_le, ha]; simp only [Int32.reduceToInt]; omega), if_pos (i_in ha hw), i_ix ha]
  by_cases c3 : s 3 w = 0
  · rw [if_pos (by rw [i_eq, h.m hw, c3]; rfl)]
    by_cases c1 : 1000 ≤ s 1 w
    · rw [if_neg (by rw [i_lt, h.w hw]; simp only [Int32.reduceToInt]; omega), xlet_eq, if_pos (i_in e8' (by omega)), i_ix e8', xlet_eq, if_pos ⟨c3, c1⟩]
      have h1 : RX u (up2 M (u + 3) w 1) (up2 s 3 w 1) := h.up (by decide) rfl
      refine ⟨_, rfl, h1.up (by decide) ?_, frX.tr (frX.up (by decide)) (frX.up (by decide))⟩
      have q1 : (up2 M (u + 3) w 1 (u + 5) (w / 8)).toInt = s 5 (w / 8) := by
        rw [up2_ap, if_neg (by omega)]; exact h.l (by omega)
      have q2 : (up2 M (u + 3) w 1 (u + 1) w).toInt = s 1 w := by
        rw [up2_ap, if_neg (by omega)]; exact h.w hw
      rw [i_add q1 (i_add (i_sub q2 (b := 1000) rfl (by omega) (by omega)) (b := 1) rfl (by omega) (by omega)) (by omega) (by omega)]
      omega
    · rw [if_pos (by rw [i_lt, h.w hw]; simp only [Int32.reduceToInt]; omega), if_neg (fun q => c1 q.2)]
      exact ⟨M, rfl, h, frX.rfl⟩
  · rw [if_neg (by rw [i_eq, h.m hw]; exact c3), if_neg (fun q => c3 q.1)]
    exact ⟨M, rfl, h, frX.rfl⟩
theorem RX.book {u : Nat} {M M' : xm} {s t : hs} (h : RX u M s) (h1 : ∀ k, k < 13 → M' (u + k) = M (u + k)) (h2 : ∀ k i, k ≠ 13 → t k i = s k i) (h3 : RXb u M' t) : RX u M' t := by
  refine ⟨fun k i hd => ?_, h3⟩
  have hx := xd_lt hd
  rw [h1 k hx.1, h2 k i (by omega)]
  exact h.1 k i hd
theorem x_write {u : Nat} {M : xm} {s : hs} (h : RX u M s) (o : Ok s) {z a b : Int32} {kd v : Int} (hz : z.toInt = s 0 17) (ha : a.toInt = kd) (hb : b.toInt = v) : ∃ M', f_X0_write (u + 13) M z a b = some M' ∧ RX u M' (sWr s kd v) ∧ frX u M M' := by
  have on := o.n
  obtain ⟨b1, b2, b3, b4⟩ := h.2
  obtain ⟨n, hn⟩ : ∃ n : Nat, s 13 0 = n := ⟨(s 13 0).toNat, by omega⟩
  obtain ⟨f, hf⟩ : ∃ f : Nat, (M (u + 13) 1).toInt = f := ⟨(M (u + 13) 1).toInt.toNat, by omega⟩
  rw [hn] at b1
  have hn25 : n ≤ 25 := by omega
  have hf25 : f < 25 := by omega
  have e1 := i_add hf b1 (by omega) (by omega)
  have e2 := i_rem e1 (y := 25) (b := 25) rfl (by omega) (by omega) (by omega)
  have e3 := i_mul e2 (y := 3) (b := 3) rfl (by omega) (by omega)
  obtain ⟨L, hL⟩ : ∃ L : Nat, L = (f + n) % 25 := ⟨_, rfl⟩
  have hL25 : L < 25 := by omega
  have e4 : (xrem (M (u + 13) 1 + M (u + 13) 2) 25 * 3).toInt = ((L * 3 : Nat) : Int) := by rw [e3]; omega
  have e5 : (xrem (M (u + 13) 1 + M (u + 13) 2) 25 * 3 + 1).toInt = ((L * 3 + 1 : Nat) : Int) := by rw [i_add e4 (b := 1) rfl (by omega) (by omega)]; omega
  have e6 : (xrem (M (u + 13) 1 + M (u + 13) 2) 25 * 3 + 2).toInt = ((L * 3 + 2 : Nat) : Int) := by rw [i_add e4 (b := 2) rfl (by omega) (by omega)]; omega
  unfold f_X0_write
  simp only [xlet_eq]
  rw [if_neg (by rw [i_lt, e4]; simp only [Int32.reduceToInt]; omega), if_pos (by rw [i_lt, e6]; simp only [Int32.reduceToInt]; omega), if_pos (i_in e4 (by omega)), if_pos (i_in e5 (by omega)), if_pos (i_in e6 (by omega)), i_ix e4, i_ix e5, i_ix e6]
  have q2 : up2 (up2 (up2 M (u + 13 + 1) (L * 3) z) (u + 13 + 1) (L * 3 + 1) a) (u + 13 + 1) (L * 3 + 2) b (u + 13) 2 = M (u + 13) 2 := by
    simp only [up2_ap]; rw [if_neg (by omega), if_neg (by omega), if_neg (by omega)]
  have q1 : up2 (up2 (up2 M (u + 13 + 1) (L * 3) z) (u + 13 + 1) (L * 3 + 1) a) (u + 13 + 1) (L * 3 + 2) b (u + 13) 1 = M (u + 13) 1 := by
    simp only [up2_ap]; rw [if_neg (by omega), if_neg (by omega), if_neg (by omega)]
  rw [q2, q1]
  have rows : ∀ i : Nat, i < 25 → ∀ j : Nat, j < 3 → up2 (up2 (up2 M (u + 13 + 1) (L * 3) z) (u + 13 + 1) (L * 3 + 1) a) (u + 13 + 1) (L * 3 + 2) b (u + 14) (i * 3 + j) = if i = L then (if j = 0 then z else if j = 1 then a else b) else M (u + 14) (i * 3 + j) := by
    intro i hi j hj
    simp only [up2_ap]
    by_cases c : i = L
    · subst c
      rw [if_pos rfl]
      by_cases j0 : j = 0
      · rw [if_neg (by omega), if_neg (by omega), if_pos ⟨trivial, by omega⟩, if_pos j0]
      · by_cases j1 : j = 1
        · rw [if_neg (by omega), if_pos ⟨trivial, by omega⟩, if_neg j0, if_pos j1]
        · rw [if_pos ⟨trivial, by omega⟩, if_neg j0, if_neg j1]
    · rw [if_neg (by omega), if_neg (by omega), if_neg (by omega), if_neg c]
  by_cases c : n = 25
  · have c' : s 13 0 = 25 := by omega
    rw [if_pos (by rw [i_le, b1]; simp only [Int32.reduceToInt]; omega)]
    have g1 := i_rem (i_add hf (y := 1) (b := 1) rfl (by omega) (by omega)) (y := 25) (b := 25) rfl (by omega) (by omega) (by omega)
    refine ⟨_, rfl, RX.book h (fun k hk => ?_) (fun k i hk => sWr_k i hk) ⟨?_, ?_, ?_, fun i j hi hj => ?_⟩, ?_⟩
    · funext i; simp only [up2_ap]; rw [if_neg (by omega), if_neg (by omega), if_neg (by omega), if_neg (by omega)]
    · rw [up2_ap, if_neg (by omega), q2, b1]; unfold sWr; rw [if_pos rfl, if_pos c', if_pos rfl]; omega
    · rw [up2_ap, if_pos ⟨rfl, rfl⟩, g1]; omega
    · rw [up2_ap, if_pos ⟨rfl, rfl⟩, g1]; omega
    · have hi : i < 25 := by
        have q : sWr s kd v 13 0 = 25 := by unfold sWr; rw [if_pos rfl, if_pos c', if_pos rfl]
        rw [q] at hi; omega
      rw [up2_ap (q := u + 13) (j := 1), if_pos ⟨rfl, rfl⟩, g1, up2_ap, if_neg (by omega), rows _ (by omega) _ hj]
      have fe : ((f : Int) + 1) % 25 = (((f + 1) % 25 : Nat) : Int) := by omega
      rw [fe, Int.toNat_natCast]
      by_cases c2 : i = 24
      · subst c2
        rw [if_pos (by omega)]
        unfold sWr; rw [if_pos rfl, if_pos c']
        by_cases j0 : j = 0
        · subst j0; simp; exact hz
        · by_cases j1 : j = 1
          · subst j1; simp; exact ha
          · have j2 : j = 2 := by omega
            subst j2; simp; exact hb
      · rw [if_neg (by omega)]
        have w1 : sWr s kd v 13 (1 + 3 * i + j) = s 13 (1 + 3 * (i + 1) + j) := by
          unfold sWr; rw [if_pos rfl, if_pos c', if_neg (by omega), if_neg (by omega), if_neg (by omega), if_neg (by omega)]
          congr 1; omega
        have := b4 (i + 1) j (by omega) hj
        rw [hf, Int.toNat_natCast] at this
        rw [w1, ← this, show ((f + 1) % 25 + i) % 25 = (f + (i + 1)) % 25 by omega]
    · refine frX.tr (frX.tr (frX.tr (frX.up (k := 14) (by decide)) (frX.up (k := 14) (by decide))) (frX.up (k := 14) (by decide))) (frX.up (k := 13) (by decide))
  · have c' : ¬ s 13 0 = 25 := by omega
    have hn' : (s 13 0).toNat = n := by omega
    rw [if_neg (by rw [i_le, b1]; simp only [Int32.reduceToInt]; omega)]
    have g1 := i_add b1 (y := 1) (b := 1) rfl (by omega) (by omega)
    refine ⟨_, rfl, RX.book h (fun k hk => ?_) (fun k i hk => sWr_k i hk) ⟨?_, ?_, ?_, fun i j hi hj => ?_⟩, ?_⟩
    · funext i; simp only [up2_ap]; rw [if_neg (by omega), if_neg (by omega), if_neg (by omega), if_neg (by omega)]
    · rw [up2_ap, if_pos ⟨rfl, rfl⟩, g1]; unfold sWr; rw [if_pos rfl, if_neg c', if_pos rfl]; omega
    · rw [up2_ap, if_neg (by omega), q1]; exact b2
    · rw [up2_ap, if_neg (by omega), q1]; exact b3
    · have hi : i < n + 1 := by
        have q : sWr s kd v 13 0 = s 13 0 + 1 := by unfold sWr; rw [if_pos rfl, if_neg c', if_pos rfl]
        rw [q] at hi; omega
      rw [up2_ap (q := u + 13) (j := 1), if_neg (by omega), q1, hf, Int.toNat_natCast, up2_ap, if_neg (by omega), rows _ (by omega) _ hj]
      by_cases c2 : i = n
      · subst c2
        rw [if_pos (by omega)]
        unfold sWr; rw [if_pos rfl, if_neg c', hn']
        by_cases j0 : j = 0
        · subst j0
          rw [if_pos rfl, if_neg (by omega), if_pos (by omega)]; exact hz
        · by_cases j1 : j = 1
          · subst j1
            rw [if_neg (by omega), if_pos rfl, if_neg (by omega), if_neg (by omega), if_pos (by omega)]; exact ha
          · have j2 : j = 2 := by omega
            subst j2
            rw [if_neg (by omega), if_neg (by omega), if_neg (by omega), if_neg (by omega), if_neg (by omega), if_pos (by omega)]; exact hb
      · rw [if_neg (by omega)]
        have w1 : sWr s kd v 13 (1 + 3 * i + j) = s 13 (1 + 3 * i + j) := by
          unfold sWr; rw [if_pos rfl, if_neg c', hn', if_neg (by omega), if_neg (by omega), if_neg (by omega), if_neg (by omega)]
        have := b4 i j (by omega) hj
        rw [hf, Int.toNat_natCast] at this
        rw [w1, ← this]
    · refine frX.tr (frX.tr (frX.tr (frX.up (k := 14) (by decide)) (frX.up (k := 14) (by decide))) (frX.up (k := 14) (by decide))) (frX.up (k := 13) (by decide))
theorem x_tell {u : Nat} {M : xm} {s : hs} (h : RX u M s) (o : Ok s) {a b : Int32} {x y : Nat} (ha : a.toInt = (x : Int)) (hb : b.toInt = (y : Int)) (hx : x < 64) (hy : y < 64) (h5 : s 5 (y / 8) ≤ 8) : ∃ M', f_X1_tellForward u M a b = some M' ∧ RX u M' (sTell s x y) ∧ frX u M M' := by
  unfold f_X1_tellForward
  rw [f_isAddress_1 ha hx, if_neg n10, if_pos (i_in ha hx), i_ix ha, xlet_eq]
  have h1 : RX u (up2 M (u + 2) x b) (up2 s 2 x (y : Int)) := h.up (by decide) hb
  have o1 : Ok (up2 s 2 x (y : Int)) := o.up (by decide) ⟨by omega, by omega⟩
  obtain ⟨M1, m1, m2, m3⟩ := x_mark h1 o1 hb hy (by rw [up2_ap, if_neg (by omega)]; exact h5)
  have o2 := Ok_mark o1 hy (by rw [up2_ap, if_neg (by omega)]; exact h5)
  obtain ⟨M', k1, k2, k3⟩ := x_write m2 o2 (z := M1 u 17) (a := 4) (b := a) (kd := 4) m2.clock rfl ha
  rw [m1, xb1_some, k1, xb1_some]
  exact ⟨M', rfl, k2, frX.tr (frX.tr (frX.up (by decide)) m3) k3⟩
theorem x_moveObject {u : Nat} {M : xm} {s : hs} (h : RX u M s) (o : Ok s) (l : Lay s) {a : Int32} {x : Nat} (ha : a.toInt = (x : Int)) (hx : x < 64) (hh : 1000 ≤ s 1 x) : (sRoom s 1 (sSz s x) → ∃ r M', f_X1_moveObject u M a = some (r, M') ∧ r.toInt = (sAt s 1 (sSz s x) : Int) ∧ RX u M' (sMove s x) ∧ frX u M M') ∧ (¬ sRoom s 1 (sSz s x) → f_X1_moveObject u M a = some (-1, M)) := by
  obtain ⟨r, r1, r2⟩ := x_sizeAt h o ha hx
  obtain ⟨n0, hn0, z1, z2, z3, z4⟩ := head_n o l hx hh
  rw [z2] at r2
  obtain ⟨g1, g2⟩ := x_giveOut h o (a := 1) (t := 1) rfl (by omega) r2 (by omega)
  unfold f_X1_moveObject
  rw [r1, xb1_some]
  refine ⟨fun hr => ?_, fun hr => ?_⟩
  · obtain ⟨n, b, hn, e1, e2, e3, e4, e5, e6, e7, _, _, og, oc, hb1, hb5, _, _⟩ := move_facts o l hx hh hr
    have : n0 = n := by rw [← z2, e2]
    subst this
    obtain ⟨g, M1, k1, k2, k3, k4⟩ := g1 e7
    rw [e4] at k2
    obtain ⟨M2, c1, c2, c3⟩ := x_copyWords k3 ha k2 r2 e3 e5 e6
    obtain ⟨M3, t1, t2, t3⟩ := x_tell c2 oc ha k2 hx (by omega) hb5
    rw [k1, xb2_some, if_neg (by rw [i_eq, k2]; simp only [Int32.reduceToInt]; omega), c1, xb1_some, t1, xb1_some, e2, e4]
    refine ⟨g, M3, rfl, k2, ?_, frX.tr (frX.tr k4 c3) t3⟩
    unfold sMove
    rw [e2, e4]
    exact t2
  · rw [z2] at hr
    rw [g2 hr, xb2_some, if_pos rfl]
theorem x_mend {u : Nat} {M : xm} {s : hs} (h : RX u M s) (o : Ok s) (l : Lay s) {a : Int32} {p : Int} (ha : a.toInt = p) (hp : Mp s p) : ∃ r M', f_X1_mend u M a = some (r, M') ∧ r.toInt = sMendV s p ∧ RX u M' (sMend s p) ∧ frX u M M' := by
  obtain ⟨hp1, hp2, hp3⟩ := hp
  unfold f_X1_mend
  by_cases c0 : p = -1
  · rw [if_pos (by rw [i_lt, ha]; simp only [Int32.reduceToInt]; omega)]
    exact ⟨a, M, rfl, by unfold sMendV; rw [if_pos (Or.inl c0)]; exact ha, by unfold sMend; rw [if_pos (Or.inl c0)]; exact h, frX.rfl⟩
  have hp' : 0 ≤ p ∧ p ≤ 191 := by omega
  have e1 := i_div (x := a) (y := 64) (b := 64) ha rfl (by omega) (by omega) (by omega)
  rw [if_neg (by rw [i_lt, ha]; simp only [Int32.reduceToInt]; omega)]
  by_cases cg0 : p / 64 = s 0 15
  · rw [if_pos (by rw [i_eq, e1, h.good]; exact cg0)]
    exact ⟨a, M, rfl, by unfold sMendV; rw [if_pos (Or.inr cg0)]; exact ha, by unfold sMend; rw [if_pos (Or.inr cg0)]; exact h, frX.rfl⟩
  have cg : ¬ sGood s p := fun q => q.elim c0 cg0
  obtain ⟨hh, hst, hfw⟩ := hp3 cg
  have hw := sWh_lt o hp'
  have og := o.good
  have os := o.stacked
  obtain ⟨r, w1, w2⟩ := x_leadsTo h o ha hp'
  rw [if_neg (by rw [i_eq, e1, h.good]; exact cg0), w1, xb1_some]
  simp only [xlet_eq]
  have fin : ∀ (M7 : xm) (w : Int32) (b : Nat), w.toInt = (b : Int) → b < 64 → (M7 u 15).toInt = s 0 15 → ∃ q, (if w = (-1 : Int32) then some ((-2 : Int32), M7) else some ((((M7 u 15) * (64 : Int32)) + w), M7)) = some (q, M7) ∧ q.toInt = s 0 15 * 64 + b := by
    intro M7 w b hwb hb hg
    rw [if_neg (by rw [i_eq, hwb]; simp only [Int32.reduceToInt]; omega)]
    exact ⟨_, rfl, i_add (i_mul hg (y := 64) (b := 64) rfl (by omega) (by omega)) hwb (by omega) (by omega)⟩
  by_cases c1 : s 0 14 = 1
  · rw [if_pos (by rw [i_eq, h.phase, c1]; rfl)]
    have val : sMendV s p = s 0 15 * 64 + sWh s p := by
      unfold sMendV; rw [if_neg cg, if_pos c1]
    have e1 : sMend s p = sPush s (sWh s p) := by
      unfold sMend; rw [if_neg cg, if_pos c1]
    rw [val, e1]
    unfold f_X1_markAndStack sPush
    rw [f_isAddress_1 w2 hw, if_neg n10, if_pos (i_in w2 hw), i_ix w2]
    by_cases c3 : s 3 (sWh s p) = 0
    · have st := hst c1 c3
      have lv := l.live8 o (show sWh s p / 8 < 8 by omega)
      obtain ⟨M1, m1, m2, m3⟩ := x_mark h o w2 hw lv.2
      have k13 : (M1 u 13).toInt = ((s 0 13).toNat : Int) := by rw [m2.stacked, sMark_k _ (by decide) (by decide)]; omega
      rw [if_pos (by rw [i_eq, h.m hw, c3]; rfl), if_neg (by rw [i_le, h.stacked]; simp only [Int32.reduceToInt]; omega), m1, xb1_some, if_pos (i_in k13 (by omega)), i_ix k13, xlet_eq, xlet_eq, xb1_some, if_pos c3]
      have h2 : RX u (up2 M1 (u + 4) (s 0 13).toNat r) (up2 (sMark s (sWh s p)) 4 (s 0 13).toNat (sWh s p : Int)) := m2.up (by decide) w2
      have k13' : ((up2 M1 (u + 4) (s 0 13).toNat r) u 13 + 1).toInt = s 0 13 + 1 := by
        rw [up2_ap, if_neg (by omega), i_add k13 (b := 1) rfl (by omega) (by omega)]; omega
      have h3 : RX u (up2 (up2 M1 (u + 4) (s 0 13).toNat r) (u + 0) 13 ((up2 M1 (u + 4) (s 0 13).toNat r) u 13 + 1)) (up2 (up2 (sMark s (sWh s p)) 4 (s 0 13).toNat (sWh s p : Int)) 0 13 (s 0 13 + 1)) := h2.up (by decide) k13'
      obtain ⟨q, q1, q2⟩ := fin (up2 (up2 M1 (u + 4) (s 0 13).toNat r) (u + 0) 13 ((up2 M1 (u + 4) (s 0 13).toNat r) u 13 + 1)) r (sWh s p) w2 hw (by rw [h3.good, up2_ap, if_neg (by omega), up2_ap, if_neg (by omega), sMark_k _ (by decide) (by decide)])
      exact ⟨q, _, q1, q2, h3, frX.tr (frX.tr m3 (frX.up (by decide))) (frX.up (by decide))⟩
    · rw [if_neg (by rw [i_eq, h.m hw]; exact c3), xb1_some, if_neg c3]
      obtain ⟨q, q1, q2⟩ := fin M r (sWh s p) w2 hw h.good
      exact ⟨q, _, q1, q2, h, frX.rfl⟩
  · rw [if_neg (by rw [i_eq, h.phase]; exact c1), x_mustMove h w2 hw, xb1_some]
    by_cases cn : sMust s (sWh s p)
    · rw [if_pos cn, if_neg n10]
      obtain ⟨g1, g2⟩ := x_moveObject h o l w2 hw hh
      by_cases cr : sRoom s 1 (sSz s (sWh s p))
      · obtain ⟨q, M1, m1, m2, m3, m4⟩ := g1 cr
        obtain ⟨n, b, hn, q1, q2, q3, q4, q5, q6, q7, q8, q9, _, _, _, _, q10, _⟩ := move_facts o l hw hh cr
        rw [← q2] at q4
        rw [q4] at m2
        rw [m1, xb2_some]
        obtain ⟨v, v1, v2⟩ := fin M1 q b m2 (by omega) (by rw [m3.good, sMove_0])
        refine ⟨v, M1, v1, ?_, ?_, m4⟩
        · rw [v2]; unfold sMendV; rw [if_neg cg, if_neg c1, if_pos cn, if_pos cr, q4]
        · unfold sMend; rw [if_neg cg, if_neg c1, if_pos cn, if_pos cr]; exact m3
      · rw [g2 cr, xb2_some, if_pos rfl]
        refine ⟨_, M, rfl, ?_, ?_, frX.rfl⟩
        · unfold sMendV; rw [if_neg cg, if_neg c1, if_pos cn, if_neg cr]; rfl
        · unfold sMend; rw [if_neg cg, if_neg c1, if_pos cn, if_neg cr]; exact h
    · rw [if_neg cn, if_pos rfl]
      obtain ⟨q, q1, q2⟩ := fin M r (sWh s p) w2 hw h.good
      refine ⟨q, M, q1, ?_, ?_, frX.rfl⟩
      · rw [q2]; unfold sMendV; rw [if_neg cg, if_neg c1, if_neg cn]
      · unfold sMend; rw [if_neg cg, if_neg c1, if_neg cn]; exact h
