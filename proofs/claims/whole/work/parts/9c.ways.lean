/-! both readers of sums: what holds on the way -/
def Qc : Type := { q : (Nat → Int) × Nat × Nat × (Nat → Nat) × (Nat → Nat) × (Nat → Nat) × (Nat → Nat) × Nat × Nat × Bool // Tks q.1 q.2.1 q.2.2.1 q.2.2.2.1 q.2.2.2.2.1 q.2.2.2.2.2.1 q.2.2.2.2.2.2.1 }
def Qc.B (G : Qc) : Nat → Int := G.1.1
def Qc.n (G : Qc) : Nat := G.1.2.1
def Qc.T (G : Qc) : Nat := G.1.2.2.1
def Qc.K (G : Qc) : Nat → Nat := G.1.2.2.2.1
def Qc.P (G : Qc) : Nat → Nat := G.1.2.2.2.2.1
def Qc.N (G : Qc) : Nat → Nat := G.1.2.2.2.2.2.1
def Qc.E (G : Qc) : Nat → Nat := G.1.2.2.2.2.2.2.1
def Qc.t (G : Qc) : Nat := G.1.2.2.2.2.2.2.2.1
def Qc.m (G : Qc) : Nat := G.1.2.2.2.2.2.2.2.2.1
def Qc.pk (G : Qc) : Bool := G.1.2.2.2.2.2.2.2.2.2
theorem Qc.ht (G : Qc) : Tks G.B G.n G.T G.K G.P G.N G.E := G.2
def Yr (n : Nat) (M : xm) (L : xn) : Option (Int32 × xm × xn) := xs2 (g_X10_summed_15 n M L) (fun q19 => xb1 (f_X10_openNow (q19.1)) (fun v21 => (if v21 < 0 then xb1 (f_X10_settle (q19.1) (1 : Int32)) (fun M25 => some ((0 : Int32), M25, q19.2)) else some ((1 : Int32), (q19.1), q19.2)))) (fun q19 => some (q19.1, (q19.2.1), q19.2.2))
def YZ (G : Qc) (i : Nat) (M : xm) (L : xn) : Option (Int32 × xm × xn) := Yr (G.m + (G.T + 2 - i)) M L
theorem YZ_at (G : Qc) {i : Nat} (hi : i ≤ G.T) (M : xm) (L : xn) : YZ G i M L = Yr (G.m + (G.T + 1 - i) + 1) M L := by
  unfold YZ
  rw [show G.m + (G.T + 2 - i) = G.m + (G.T + 1 - i) + 1 by omega]
theorem YZ_nx (G : Qc) {i : Nat} (M : xm) (L : xn) : YZ G (i + 1) M L = Yr (G.m + (G.T + 1 - i)) M L := by
  unfold YZ
  rw [show G.T + 2 - (i + 1) = G.T + 1 - i by omega]
theorem YZ_begin {G : Qc} {i : Nat} {M M' : xm} {L L' : xn} (hi : i < G.T) (hw : M 0 18 = 0) (h : f_X10_beginOne M L = some (0, M', L')) : YZ G i M L = YZ G (i + 1) M' L' := by
  rw [YZ_at G (by omega), YZ_nx]
  unfold Yr
  rw [g_X10_summed_15, if_pos hw, h, xb3_some, if_pos rfl]
theorem YZ_beginF {G : Qc} {i : Nat} {M M' : xm} {L L' : xn} {v : Int32} (hi : i ≤ G.T) (hw : M 0 18 = 0) (h : f_X10_beginOne M L = some (v, M', L')) (hv : v ≠ 0) : YZ G i M L = some (v, M', L') := by
  rw [YZ_at G hi]
  unfold Yr
  rw [g_X10_summed_15, if_pos hw, h, xb3_some, if_neg hv, xs2_r]
theorem YZ_behind {G : Qc} {i : Nat} {M M' : xm} {L L' : xn} (hi : i < G.T) (hw : M 0 18 = 1) (h : f_X10_behindOne M L = some (1, M', L')) : YZ G i M L = YZ G (i + 1) M' L' := by
  rw [YZ_at G (by omega), YZ_nx]
  unfold Yr
  rw [g_X10_summed_15, if_neg (c := M 0 18 = 0) (by rw [hw]; exact n10), h, xb3_some, if_neg n10]
theorem YZ_stop {G : Qc} {i : Nat} {M M' : xm} {L L' : xn} (hi : i ≤ G.T) (hw : M 0 18 = 1) (h : f_X10_behindOne M L = some (0, M', L')) : YZ G i M L = xb1 (f_X10_openNow M') (fun v21 => (if v21 < 0 then xb1 (f_X10_settle M' (1 : Int32)) (fun M25 => some ((0 : Int32), M25, L')) else some ((1 : Int32), M', L'))) := by
  rw [YZ_at G hi]
  unfold Yr
  rw [g_X10_summed_15, if_neg (c := M 0 18 = 0) (by rw [hw]; exact n10), h, xb3_some, if_pos rfl, xs2_l]
def pil (M : xm) (j : Nat) : Int := (M 5 j).toInt
def cXo (M : xm) (i : Nat) : Int := (M 1000 i).toInt
def cXv (M : xm) (i : Nat) : Int := (M 1001 i).toInt
def cYo (t : Nat) (M : xm) (i : Nat) : Int := (M 3 (705 * t + 97 + 2 * i)).toInt
def cYv (t : Nat) (M : xm) (i : Nat) : Int := (M 3 (705 * t + 97 + 2 * i + 1)).toInt
def sot (pk : Bool) : Int := if pk = true then 0 else 1
/-- the class at token i, k codes laid -/
def CX (G : Qc) (M : xm) (i k : Nat) : Prop := XP M G.T G.K G.P G.N i ∧ (M 995 9).toInt = (k : Int) ∧ k ≤ i ∧ (M 990 10).toInt = sot G.pk
/-- the reference at token i, b on the pile, w written, op open -/
def CY (G : Qc) (M : xm) (L : xn) (i b w : Nat) (op : Int) : Prop := YP M L G.B G.n G.K G.P G.N G.E i ∧ YQ M G.t b w op ∧ w + b ≤ i ∧ i ≤ G.T ∧ (M 0 14).toInt = sot G.pk
def frD (k : Nat) (M M' : xm) : Prop := (∀ q, q ≠ 990 → q ≠ 995 → q ≠ 1000 → q ≠ 1001 → M' q = M q) ∧ (∀ j, j ≠ 9 → M' 995 j = M 995 j) ∧ (∀ j, j ≠ 6 → j ≠ 7 → j ≠ 9 → M' 990 j = M 990 j) ∧ ∀ i, i < k → M' 1000 i = M 1000 i ∧ M' 1001 i = M 1001 i
theorem frD.re (k : Nat) (M : xm) : frD k M M := ⟨fun _ _ _ _ _ => rfl, fun _ _ => rfl, fun _ _ _ _ => rfl, fun _ _ => ⟨rfl, rfl⟩⟩
theorem frD.tr {k k' : Nat} {M M' M'' : xm} (h : frD k M M') (h' : frD k' M' M'') (hk : k ≤ k') : frD k M M'' := ⟨fun q a b c d => (h'.1 q a b c d).trans (h.1 q a b c d), fun j a => (h'.2.1 j a).trans (h.2.1 j a), fun j a b c => (h'.2.2.1 j a b c).trans (h.2.2.1 j a b c), fun i hi => ⟨(h'.2.2.2 i (by omega)).1.trans (h.2.2.2 i hi).1, (h'.2.2.2 i (by omega)).2.trans (h.2.2.2 i hi).2⟩⟩
theorem frD.F {k : Nat} {M M' : xm} {f : Int32} {p : Nat} (h : XF M M' f p) : frD k M M' := ⟨fun q a _ _ _ => h.2.2.1 q a, fun j _ => by rw [h.2.2.1 995 (by decide)], fun j a b _ => h.2.2.2 j a b, fun i _ => ⟨by rw [h.2.2.1 1000 (by decide)], by rw [h.2.2.1 1001 (by decide)]⟩⟩
theorem frD.A {k : Nat} {M : xm} {v : Int32} : frD k M (up2 M 990 9 v) := ⟨fun q a _ _ _ => up2_cell a, fun j _ => by rw [up2_cell (by decide)], fun j _ _ c => up2_ne (by omega), fun i _ => ⟨by rw [up2_cell (by decide)], by rw [up2_cell (by decide)]⟩⟩
theorem frD.E {k : Nat} {M M' : xm} {o v : Int} (h : XE M M' k o v) : frD k M M' := ⟨fun q _ a b c => h.2.2.2.2.1 q a b c, fun j a => h.2.2.2.2.2 j a, fun j _ _ _ => by rw [h.2.2.2.2.1 990 (by decide) (by decide) (by decide)], fun i hi => h.2.2.2.1 i (by omega)⟩
def frR (t w : Nat) (M M' : xm) : Prop := (∀ q, q ≠ 0 → q ≠ 3 → q ≠ 5 → M' q = M q) ∧ (∀ j, j ≠ 7 → j ≠ 8 → j ≠ 9 → j ≠ 10 → j ≠ 13 → j ≠ 16 → j ≠ 17 → j ≠ 18 → M' 0 j = M 0 j) ∧ ∀ x, x < 705 * t + 97 + 2 * w ∨ 705 * t + 705 ≤ x → M' 3 x = M 3 x
theorem frR.re (t w : Nat) (M : xm) : frR t w M M := ⟨fun _ _ _ _ => rfl, fun _ _ _ _ _ _ _ _ _ => rfl, fun _ _ => rfl⟩
theorem frR.tr {t w w' : Nat} {M M' M'' : xm} (h : frR t w M M') (h' : frR t w' M' M'') (hw : w ≤ w') : frR t w M M'' := ⟨fun q a b c => (h'.1 q a b c).trans (h.1 q a b c), fun j a b c d e f g i => (h'.2.1 j a b c d e f g i).trans (h.2.1 j a b c d e f g i), fun x hx => (h'.2.2 x (by omega)).trans (h.2.2 x hx)⟩
theorem frR.o {t w : Nat} {M M' : xm} (h : fr0 M M') : frR t w M M' := ⟨fun q a _ _ => h.1 q a, fun j a b c d _ _ _ _ => h.2 j a b c d, fun x _ => by rw [h.1 3 (by decide)]⟩
theorem frR.e {t w w' : Nat} {M M' : xm} (h : frE t w w' M M') (hw : w' ≤ 304) : frR t w M M' := ⟨fun q a b _ => h.1 q a b, fun j _ _ _ _ a b c _ => h.2.1 j a b c, fun x hx => h.2.2 x (by omega)⟩
theorem frR.p {t w : Nat} {M : xm} {j : Nat} {v : Int32} : frR t w M (up2 M 5 j v) := ⟨fun q _ _ c => up2_cell c, fun j _ _ _ _ _ _ _ _ => by rw [up2_cell (by decide)], fun x _ => by rw [up2_cell (by decide)]⟩
theorem frR.s {t w : Nat} {M : xm} {j : Nat} {v : Int32} (hj : j = 13 ∨ j = 16 ∨ j = 17 ∨ j = 18) : frR t w M (up2 M 0 j v) := ⟨fun q c _ _ => up2_cell c, fun i _ _ _ _ _ _ _ _ => up2_ne (by omega), fun x _ => by rw [up2_cell (by decide)]⟩
theorem CX.nx {G : Qc} {M : xm} {i k : Nat} (h : CX G M i k) (hi : i < G.T) : CX G (up2 M 990 9 (M 990 9 + 1)) (i + 1) k := by
  obtain ⟨a, b, c, d⟩ := h
  refine ⟨a.at (by omega) (k_add a.2.1 (y := 1) (b := 1) rfl (by have := a.2.2.1; have := a.2.2.2.1; omega)), by rw [up2_cell (by decide)]; exact b, by omega, by rw [up2_ne (by omega)]; exact d⟩
theorem CX.at {G : Qc} {M : xm} {i k : Nat} {v : Int32} (h : CX G M i k) (h' : XP (up2 M 990 9 v) G.T G.K G.P G.N (i + 1)) : CX G (up2 M 990 9 v) (i + 1) k := by
  obtain ⟨a, b, c, d⟩ := h
  exact ⟨h', by rw [up2_cell (by decide)]; exact b, by omega, by rw [up2_ne (by omega)]; exact d⟩
theorem CX.em {G : Qc} {M M' : xm} {i k : Nat} {o v : Int} (h : CX G M i k) (he : XE M M' k o v) (hk : k + 1 ≤ i) : CX G M' i (k + 1) := by
  obtain ⟨a, b, c, d⟩ := h
  have e := he.2.2.2.2.1
  have e0 : M' 990 = M 990 := e 990 (by decide) (by decide) (by decide)
  exact ⟨a.fr (fun j _ => by rw [e0]) (e 992 (by decide) (by decide) (by decide)) (e 993 (by decide) (by decide) (by decide)) (e 994 (by decide) (by decide) (by decide)), he.1, hk, by rw [e0]; exact d⟩
theorem CY.fr {G : Qc} {M M' : xm} {L : xn} {i b w b' w' : Nat} {op op' : Int} (h : CY G M L i b w op) (h4 : M' 4 = M 4) (h0 : ∀ j, j = 4 ∨ j = 7 ∨ j = 8 ∨ j = 9 ∨ j = 10 ∨ j = 14 → M' 0 j = M 0 j) (hq : YQ M' G.t b' w' op') (hw : w' + b' ≤ i) : CY G M' L i b' w' op' := ⟨h.1.fr h4 (fun j hj => h0 j (by omega)), hq, hw, h.2.2.2.1, by rw [h0 14 (by omega)]; exact h.2.2.2.2⟩
theorem CY.T3 {G : Qc} {M : xm} {L : xn} {i b w : Nat} {op : Int} (h : CY G M L i b w op) : w + b ≤ i ∧ i ≤ G.T ∧ G.T ≤ 300 ∧ G.t < 4 := ⟨h.2.2.1, h.2.2.2.1, G.ht.2.1, h.2.1.2.1⟩
theorem CY.next {G : Qc} {M : xm} {L : xn} {i b w : Nat} {op : Int} (h : CY G M L i b w op) (hi : i < G.T) : ∃ M' L', f_X10_nextToken M L = some (M', L') ∧ CY G M' L' (i + 1) b w op ∧ fr0 M M' := by
  obtain ⟨h1, h2, h3, h4, h5⟩ := h
  obtain ⟨M', L', k1, k2, k3⟩ := y_next h1 G.ht hi
  refine ⟨M', L', k1, ⟨k2, ?_, by omega, by omega, by rw [k3.2 14 (by decide) (by decide) (by decide) (by decide)]; exact h5⟩, k3⟩
  unfold YQ
  rw [k3.2 12 (by decide) (by decide) (by decide) (by decide), k3.2 13 (by decide) (by decide) (by decide) (by decide), k3.2 16 (by decide) (by decide) (by decide) (by decide), k3.2 17 (by decide) (by decide) (by decide) (by decide)]
  exact h2
theorem pil_eq {M M' : xm} (h : M' 5 = M 5) : pil M' = pil M := by
  funext j
  unfold pil
  rw [h]
theorem CY.settle {G : Qc} {M : xm} {L : xn} {i b r w : Nat} {op lv : Int} {x : Int32} (h : CY G M L i (b + r) w op) (hx : x.toInt = lv) (hb : b = 0 ∨ rk (pil M (b - 1)) < lv) (hbr : b + r ≤ 160) (h1 : -700 ≤ op) (h2 : op ≤ 700) (hl : ∀ j, j < r → lv ≤ rk (pil M (b + j))) : ∃ M', f_X10_settle M x = some M' ∧ CY G M' L i b (w + r) (op - cntO (pil M) b r) ∧ pil M' = pil M ∧ M' 0 18 = M 0 18 ∧ (∀ j, j < r → cYo G.t M' (w + j) = pil M (b + r - 1 - j)) ∧ frE G.t w (w + r) M M' := by
  have T3 := h.T3
  obtain ⟨M', k1, k2, k3, k4⟩ := y_settle_loop hx hb r xfuel M w op h.2.1 (by omega) hbr (by omega) (by omega) (by unfold xfuel; omega) (fun j _ => rfl) hl
  refine ⟨M', ?_, h.fr (k4.1 4 (by decide) (by decide)) (fun j hj => k4.2.1 j (by omega) (by omega) (by omega)) k2 (by omega), pil_eq (k4.1 5 (by decide) (by decide)), k4.2.1 18 (by decide) (by decide) (by decide), fun j hj => (k3 j hj).1, k4⟩
  unfold f_X10_settle
  rw [k1, xb1_some]
theorem tkc_one : ∀ kd, kd < 43 → ∀ c, c < 42 → 27 ≤ c → tkc kd = tkc c → kd = c := by decide +kernel
theorem TkY.sg {M : xm} {L : xn} {kd nm : Nat} (h : TkY M L kd nm) {x : Int32} {c : Nat} (hc : 27 ≤ c ∧ c < 42) (hx : x.toInt = tkc c) (h2 : x.toInt ≠ 2) (h3 : x.toInt ≠ 3) (h5 : x.toInt ≠ 58) : M 0 9 = x ↔ kd = c := by
  rw [h.is h2 h3 h5, hx]
  exact ⟨fun e => tkc_one kd (by have := h.2.2.2; omega) c hc.2 hc.1 e, fun e => by rw [e]⟩
theorem w_clock : (f_X10_w5 99 108 111 99 107).toInt = (vcd 19 : Int) := by decide +kernel
theorem w_phase : (f_X10_w5 112 104 97 115 101).toInt = (vcd 20 : Int) := by decide +kernel
theorem w_free : (f_X10_w4 102 114 101 101).toInt = (vcd 21 : Int) := by decide +kernel
theorem w_stack : (f_X10_w5 115 116 97 99 107).toInt = (vcd 22 : Int) := by decide +kernel
theorem w_page : (f_X10_w4 112 97 103 101).toInt = (vcd 23 : Int) := by decide +kernel
theorem w_lives : (f_X10_w5 108 105 118 101 115).toInt = (vcd 24 : Int) := by decide +kernel
theorem w_words : (f_X10_w5 119 111 114 100 115).toInt = (vcd 25 : Int) := by decide +kernel
theorem w_fields : (f_X10_w6 102 105 101 108 100 115).toInt = (vcd 26 : Int) := by decide +kernel
theorem TkY.wd {M : xm} {L : xn} {kd nm : Nat} (h : TkY M L kd nm) (c : M 0 9 = 2) {w : Int64} {k : Nat} (hk : k < 27) (hw : w.toInt = (vcd k : Int)) : lg_cmp (L 0 11) w = 0 ↔ kd = k := by
  rw [lc_eq, hw]
  exact h.2.2.1 (by rw [c]; rfl) k hk
theorem y_nameOf {M : xm} {L : xn} {kd nm : Nat} (h : TkY M L kd nm) : (f_X10_nameOf M L).toInt = if 19 ≤ kd ∧ kd ≤ 26 then (kd : Int) - 19 else -1 := by
  unfold f_X10_nameOf
  by_cases c : M 0 9 = 2
  · rw [if_pos c]
    simp only [h.wd c (by omega) w_clock, h.wd c (by omega) w_phase, h.wd c (by omega) w_free, h.wd c (by omega) w_stack, h.wd c (by omega) w_page, h.wd c (by omega) w_lives, h.wd c (by omega) w_words, h.wd c (by omega) w_fields]
    by_cases q : 19 ≤ kd ∧ kd ≤ 26
    · rw [if_pos q]
      have hc : kd = 19 ∨ kd = 20 ∨ kd = 21 ∨ kd = 22 ∨ kd = 23 ∨ kd = 24 ∨ kd = 25 ∨ kd = 26 := by omega
      rcases hc with rfl | rfl | rfl | rfl | rfl | rfl | rfl | rfl <;> rfl
    · rw [if_neg q, if_neg (c := kd = 19) (by omega), if_neg (c := kd = 20) (by omega), if_neg (c := kd = 21) (by omega), if_neg (c := kd = 22) (by omega), if_neg (c := kd = 23) (by omega), if_neg (c := kd = 24) (by omega), if_neg (c := kd = 25) (by omega), if_neg (c := kd = 26) (by omega)]
      rfl
  · rw [if_neg c, if_neg]
    · rfl
    · intro q
      apply c
      rw [i_eq]
      rcases h.1 with p | ⟨p1, _⟩
      · rw [p]; unfold tkc; rw [if_pos (by omega)]; rfl
      · omega
theorem y_compareOf {M : xm} {L : xn} {kd nm : Nat} (h : TkY M L kd nm) : (f_X10_compareOf M).toInt = if kd = 27 then 10 else if kd = 38 then 11 else if kd = 28 then 12 else if kd = 39 then 13 else if kd = 29 then 14 else if kd = 30 then 15 else -1 := by
  unfold f_X10_compareOf
  simp only [h.sg (c := 27) (x := 60) (by omega) rfl (by decide) (by decide) (by decide), h.sg (c := 38) (x := 4) (by omega) rfl (by decide) (by decide) (by decide), h.sg (c := 28) (x := 62) (by omega) rfl (by decide) (by decide) (by decide), h.sg (c := 39) (x := 5) (by omega) rfl (by decide) (by decide) (by decide), h.sg (c := 29) (x := 61) (by omega) rfl (by decide) (by decide) (by decide), h.sg (c := 30) (x := 35) (by omega) rfl (by decide) (by decide) (by decide)]
  repeat' split
  all_goals first | rfl | omega
