/-! the pending ones, and what code means with them -/
def PMv (G : Qc) (M : xm) (w w' b r : Nat) (f : fn) : Prop := ∀ o v : Nat → Int, (∀ i, w ≤ i → i < w' → o i = cYo G.t M i ∧ v i = cYv G.t M i) → (∀ j, j < r → o (w' + j) = pil M (b + r - 1 - j)) → VY G.pk o v w (w' + r) f
def PMc (G : Qc) (M : xm) (w w' b r : Nat) (f : cn) : Prop := ∀ o v : Nat → Int, (∀ i, w ≤ i → i < w' → o i = cYo G.t M i ∧ v i = cYv G.t M i) → (∀ j, j < r → o (w' + j) = pil M (b + r - 1 - j)) → VC G.pk o v w (w' + r) f
theorem PMv.done {G : Qc} {M M' : xm} {w w' b r : Nat} {f : fn} (h : PMv G M w w' b r f) (h3 : ∀ x, x < 705 * G.t + 97 + 2 * w' → M' 3 x = M 3 x) (hc : ∀ j, j < r → cYo G.t M' (w' + j) = pil M (b + r - 1 - j)) : VY G.pk (cYo G.t M') (cYv G.t M') w (w' + r) f := h _ _ (fun i a b => ⟨by unfold cYo; rw [h3 _ (by omega)], by unfold cYv; rw [h3 _ (by omega)]⟩) hc
theorem PMc.done {G : Qc} {M M' : xm} {w w' b r : Nat} {f : cn} (h : PMc G M w w' b r f) (h3 : ∀ x, x < 705 * G.t + 97 + 2 * w' → M' 3 x = M 3 x) (hc : ∀ j, j < r → cYo G.t M' (w' + j) = pil M (b + r - 1 - j)) : VC G.pk (cYo G.t M') (cYv G.t M') w (w' + r) f := h _ _ (fun i a b => ⟨by unfold cYo; rw [h3 _ (by omega)], by unfold cYv; rw [h3 _ (by omega)]⟩) hc
theorem PMv.of {G : Qc} {M : xm} {w w' b : Nat} {f : fn} (h : VY G.pk (cYo G.t M) (cYv G.t M) w w' f) : PMv G M w w' b 0 f := fun _ _ ho _ => h.eq ho
theorem VY.mv {G : Qc} {M MY : xm} {o v : Nat → Int} {w w1 w2 : Nat} {f : fn} (hf : VY G.pk (cYo G.t M) (cYv G.t M) w w1 f) (hw : w1 ≤ w2) (h3 : ∀ x, x < 705 * G.t + 97 + 2 * w1 → MY 3 x = M 3 x) (ho : ∀ i, w ≤ i → i < w2 → o i = cYo G.t MY i ∧ v i = cYv G.t MY i) : VY G.pk o v w w1 f := hf.eq (fun i a b => by
  obtain ⟨p, q⟩ := ho i a (by omega)
  unfold cYo at p ⊢
  unfold cYv at q ⊢
  rw [p, q, h3 _ (by omega), h3 _ (by omega)]
  exact ⟨rfl, rfl⟩)
theorem VC.mv {G : Qc} {M MY : xm} {o v : Nat → Int} {w w1 w2 : Nat} {f : cn} (hf : VC G.pk (cYo G.t M) (cYv G.t M) w w1 f) (hw : w1 ≤ w2) (h3 : ∀ x, x < 705 * G.t + 97 + 2 * w1 → MY 3 x = M 3 x) (ho : ∀ i, w ≤ i → i < w2 → o i = cYo G.t MY i ∧ v i = cYv G.t MY i) : VC G.pk o v w w1 f := hf.eq (fun i a b => by
  obtain ⟨p, q⟩ := ho i a (by omega)
  unfold cYo at p ⊢
  unfold cYv at q ⊢
  rw [p, q, h3 _ (by omega), h3 _ (by omega)]
  exact ⟨rfl, rfl⟩)
theorem pend_top {o : Nat → Int} {M : xm} {w2 b r : Nat} (hp : ∀ j, j < r + 1 → o (w2 + j) = pil M (b + (r + 1) - 1 - j)) : o (w2 + r) = pil M b ∧ ∀ j, j < r → o (w2 + j) = pil M (b + 1 + r - 1 - j) := by
  constructor
  · rw [hp r (by omega)]; congr 1; omega
  · intro j hj; rw [hp j (by omega)]; congr 1; omega
theorem PMv.two {G : Qc} {M MY : xm} {w w1 w2 b r : Nat} {f g : fn} {z : Int} (hf : VY G.pk (cYo G.t M) (cYv G.t M) w w1 f) (hw : w1 ≤ w2) (h3 : ∀ x, x < 705 * G.t + 97 + 2 * w1 → MY 3 x = M 3 x) (hg : PMv G MY w1 w2 (b + 1) r g) (mf : Mf f) (mg : Mf g) (hz : pil MY b = z) (z1 : z = 6 ∨ z = 7 ∨ z = 8 ∨ z = 9) : PMv G MY w w2 b (r + 1) (fun s p => mTwo (opT z) (f s p) (g s p)) := by
  intro o v ho hp
  obtain ⟨t1, t2⟩ := pend_top hp
  have w0 := hf.1
  exact VY_two (hf.mv hw h3 ho) (hg o v (fun i a b => ho i (by omega) b) t2) mf mg (t1.trans hz) z1
theorem PMc.ask {G : Qc} {M MY : xm} {w w1 w2 b r : Nat} {f g : fn} {z : Int} (hf : VY G.pk (cYo G.t M) (cYv G.t M) w w1 f) (hw : w1 ≤ w2) (h3 : ∀ x, x < 705 * G.t + 97 + 2 * w1 → MY 3 x = M 3 x) (hg : PMv G MY w1 w2 (b + 1) r g) (hz : pil MY b = z) (z1 : 10 ≤ z ∧ z ≤ 15) : PMc G MY w w2 b (r + 1) (fun s p => mAsk (opC z) (f s p) (g s p)) := by
  intro o v ho hp
  obtain ⟨t1, t2⟩ := pend_top hp
  have w0 := hf.1
  exact VC_ask (hf.mv hw h3 ho) (hg o v (fun i a b => ho i (by omega) b) t2) (t1.trans hz) z1
theorem PMc.join {G : Qc} {M MY : xm} {w w1 w2 b r : Nat} {f g : cn} {z : Int} (hf : VC G.pk (cYo G.t M) (cYv G.t M) w w1 f) (hw : w1 ≤ w2) (h3 : ∀ x, x < 705 * G.t + 97 + 2 * w1 → MY 3 x = M 3 x) (hg : PMc G MY w1 w2 (b + 1) r g) (hz : pil MY b = z) (z1 : z = 21 ∨ z = 22) : PMc G MY w w2 b (r + 1) (fun s p => mBoth z (f s p) (g s p)) := by
  intro o v ho hp
  obtain ⟨t1, t2⟩ := pend_top hp
  have w0 := hf.1
  exact VC_join (hf.mv hw h3 ho) (hg o v (fun i a b => ho i (by omega) b) t2) (t1.trans hz) z1
theorem PMc.no {G : Qc} {MY : xm} {w w2 b r : Nat} {g : cn} (hg : PMc G MY w w2 (b + 1) r g) (hz : pil MY b = 20) : PMc G MY w w2 b (r + 1) (fun s p => !(g s p)) := by
  intro o v ho hp
  obtain ⟨t1, t2⟩ := pend_top hp
  exact VC_not (hg o v ho t2) (t1.trans hz)
/-! what a part of the reading gives -/
def RFa (G : Qc) (i w : Nat) (MY : xm) (LY : xn) (M' : xm) : Prop := M' 990 6 ≠ 0 ∧ ∃ MY' LY', YZ G i MY LY = some (M' 990 6, MY', LY') ∧ (MY' 0 8).toInt = (M' 990 7).toInt ∧ frR G.t w MY MY'
def Vst (G : Qc) (i k b w e lv ec : Nat) (MY : xm) (LY : xn) (M' : xm) (j k' w' r : Nat) (f : fn) (MY' : xm) (LY' : xn) : Prop := (i < j ∧ k < k' ∧ k' + i ≤ k + j ∧ w ≤ w' ∧ r + lv + e ≤ 15) ∧ CX G M' j k' ∧ CY G MY' LY' j (b + r) w' e ∧ MY' 0 18 = 1 ∧ YZ G i MY LY = YZ G j MY' LY' ∧ frR G.t w MY MY' ∧ (∀ x, x < b → pil MY' x = pil MY x) ∧ (∀ x, x < r → (lv : Int) ≤ rk (pil MY' (b + x)) ∧ rk (pil MY' (b + x)) ≤ 6) ∧ Mf f ∧ VX (cXo M') (cXv M') k k' f ∧ PMv G MY' w w' b r f ∧ (ec ≤ 6 → G.K j ≠ 33 ∧ G.K j ≠ 34) ∧ (ec ≤ 5 → G.K j ≠ 31 ∧ G.K j ≠ 32)
def ROv (G : Qc) (i k b w e lv ec : Nat) (MY : xm) (LY : xn) (M' : xm) : Prop := ∃ (j k' w' r : Nat) (f : fn) (MY' : xm) (LY' : xn), Vst G i k b w e lv ec MY LY M' j k' w' r f MY' LY'
def nAA (G : Qc) (i b : Nat) (MY : xm) : Prop := G.K i = 18 → b = 0 ∨ (pil MY (b - 1) ≠ 41 ∧ ¬ (1 ≤ rk (pil MY (b - 1)) ∧ rk (pil MY (b - 1)) ≤ 3))
def PV (G : Qc) (M MY : xm) (LY : xn) (i k b w e lv : Nat) : Prop := CX G M i k ∧ CY G MY LY i b w e ∧ MY 0 18 = 0 ∧ (e ≤ 8 ∧ b + 1 ≤ 7 * e + lv) ∧ (b = 0 ∨ rk (pil MY (b - 1)) < (lv : Int)) ∧ nAA G i b MY
def SV (G : Qc) (lv e : Nat) (F : xm → Option xm) : Prop := ∀ (M MY : xm) (LY : xn) (i k b w : Nat), PV G M MY LY i k b w e lv → ∃ M', F M = some M' ∧ frD k M M' ∧ (RFa G i w MY LY M' ∨ ROv G i k b w e lv lv MY LY M')
def Fz (F : xm → Option xm) : Prop := ∀ M, M 990 6 ≠ 0 → F M = some M
theorem cntO_0 {p : Nat → Int} {b : Nat} : ∀ r, (∀ x, x < r → 4 ≤ rk (p (b + x)) ∧ rk (p (b + x)) ≤ 6) → cntO p b r = 0 := by
  intro r h
  have e : cntO p b r = sm (fun _ => 0) r := sm_eq r (fun x hx => by
    obtain ⟨h1, h2⟩ := h x hx
    rw [if_neg]
    rintro (q | q)
    · omega
    · rw [q] at h1
      revert h1
      decide)
  rw [e, sm_const]
  omega
theorem rk_40 {z : Int} (h : 1 ≤ rk z) : z < 40 := by
  unfold rk at h
  by_cases c : z < 40
  · exact c
  · rw [if_neg c] at h; omega
theorem y_between {G : Qc} {M : xm} {L : xn} {i b r w : Nat} {op z lv : Int} {v : Int32} (h : CY G M L i (b + r) w op) (hi : i < G.T) (hv : f_X10_betweenOf M L = some v) (hz : v.toInt = z) (z0 : 0 ≤ z) (hlv : lv = if rk z = 4 then 5 else rk z) (hb : b = 0 ∨ rk (pil M (b - 1)) < lv) (hbr : b + r ≤ 159) (h1 : -700 ≤ op) (h2 : op ≤ 700) (hl : ∀ j, j < r → lv ≤ rk (pil M (b + j))) (hwh : M 0 18 = 1) : ∃ M' L', YZ G i M L = YZ G (i + 1) M' L' ∧ CY G M' L' (i + 1) (b + 1) (w + r) (op - cntO (pil M) b r) ∧ M' 0 18 = 0 ∧ pil M' b = z ∧ (∀ x, x < b → pil M' x = pil M x) ∧ (∀ j, j < r → cYo G.t M' (w + j) = pil M (b + r - 1 - j)) ∧ frR G.t w M M' := by
  have T3 := h.T3
  have go : ∀ x38 : Int32, x38.toInt = lv → ∃ M' L', xb1 (f_X10_settle M x38) (fun M41 => if xin (M41 0 16) 160 = true then xlet (up2 M41 5 (Int32.toNatClampNeg (M41 0 16)) v) (fun M44 => xlet (up2 M44 0 16 ((M44 0 16) + (1 : Int32))) (fun M45 => xlet (up2 M45 0 18 (0 : Int32)) (fun M46 => xb2 (f_X10_nextToken M46 L) (fun M48 L49 => some ((1 : Int32), M48, L49))))) else none) = some (1, M', L') ∧ CY G M' L' (i + 1) (b + 1) (w + r) (op - cntO (pil M) b r) ∧ M' 0 18 = 0 ∧ pil M' b = z ∧ (∀ x, x < b → pil M' x = pil M x) ∧ (∀ j, j < r → cYo G.t M' (w + j) = pil M (b + r - 1 - j)) ∧ frR G.t w M M' := by
    intro x38 hx
    obtain ⟨M1, s1, s2, s3, s4, s5, s6⟩ := h.settle hx hb (by omega) h1 h2 hl
    have q16 := s2.2.1.2.2.1
    have nx : (M1 0 16 + 1).toInt = ((b + 1 : Nat) : Int) := k_add q16 (y := 1) (b := 1) rfl (by omega)
    have c0 : up2 M1 5 b v 0 = M1 0 := up2_cell (by decide)
    have m3 : (up2 (up2 (up2 M1 5 b v) 0 16 (M1 0 16 + 1)) 0 18 0) 3 = M1 3 := by rw [up2_cell (by decide), up2_cell (by decide), up2_cell (by decide)]
    have m5 : (up2 (up2 (up2 M1 5 b v) 0 16 (M1 0 16 + 1)) 0 18 0) 5 = up2 M1 5 b v 5 := by rw [up2_cell (by decide), up2_cell (by decide)]
    have y2 : CY G (up2 (up2 (up2 M1 5 b v) 0 16 (M1 0 16 + 1)) 0 18 0) L i b (w + r) (op - cntO (pil M) b r) → True := fun _ => trivial
    have y3 : YQ (up2 (up2 (up2 M1 5 b v) 0 16 (M1 0 16 + 1)) 0 18 0) G.t (b + 1) (w + r) (op - cntO (pil M) b r) := by
      obtain ⟨q1, q2, q3, q4, q5⟩ := s2.2.1
      exact ⟨by rw [up2_ne (by omega), up2_ne (by omega), c0]; exact q1, q2, by rw [up2_ne (by omega), up2_same]; exact nx, by rw [up2_ne (by omega), up2_ne (by omega), c0]; exact q4, by rw [up2_ne (by omega), up2_ne (by omega), c0]; exact q5⟩
    have yp : YP (up2 (up2 (up2 M1 5 b v) 0 16 (M1 0 16 + 1)) 0 18 0) L G.B G.n G.K G.P G.N G.E i := s2.1.fr (by rw [up2_cell (by decide), up2_cell (by decide), up2_cell (by decide)]) (fun j hj => by rw [up2_ne (by omega), up2_ne (by omega), c0])
    obtain ⟨M2, L2, n1, n2, n3⟩ := y_next yp G.ht hi
    have e5 : M2 5 = up2 M1 5 b v 5 := (n3.1 5 (by decide)).trans m5
    have e3 : M2 3 = M1 3 := (n3.1 3 (by decide)).trans m3
    refine ⟨M2, L2, ?_, ⟨n2, ?_, by omega, by omega, ?_⟩, ?_, ?_, ?_, ?_, ?_⟩
    · rw [s1, xb1_some, if_pos (i_in q16 (by omega)), i_ix q16, xlet_eq, c0, xlet_eq, xlet_eq, n1, xb2_some]
    · unfold YQ
      rw [n3.2 12 (by decide) (by decide) (by decide) (by decide), n3.2 13 (by decide) (by decide) (by decide) (by decide), n3.2 16 (by decide) (by decide) (by decide) (by decide), n3.2 17 (by decide) (by decide) (by decide) (by decide)]
      exact y3
    · rw [n3.2 14 (by decide) (by decide) (by decide) (by decide), up2_ne (by omega), up2_ne (by omega), c0]
      exact s2.2.2.2.2
    · rw [n3.2 18 (by decide) (by decide) (by decide) (by decide), up2_same]
    · unfold pil
      rw [e5, up2_same]
      exact hz
    · intro x hx
      rw [← s3]
      unfold pil
      rw [e5, up2_ne (by omega)]
    · intro j hj
      rw [← s5 j hj]
      unfold cYo
      rw [e3]
    · exact ((frR.e s6 (by omega)).tr ((frR.p.tr (frR.s (w := w) (by omega)) (Nat.le_refl _)).tr (frR.s (w := w) (by omega)) (Nat.le_refl _)) (Nat.le_refl _)).tr (frR.o (w := w) n3) (Nat.le_refl _)
  have rz := y_rank hz
  have vn : ¬ v < 0 := by rw [i_lt, hz]; simp only [Int32.reduceToInt]; omega
  by_cases c4 : rk z = 4
  · rw [if_pos c4] at hlv
    obtain ⟨M', L', k1, k2⟩ := go 5 (by rw [hlv]; rfl)
    refine ⟨M', L', YZ_behind hi hwh ?_, k2⟩
    unfold f_X10_behindOne
    rw [hv, xb1_some, if_neg vn, xlet_eq, if_pos (by rw [i_eq, rz, c4]; rfl)]
    exact k1
  · rw [if_neg c4] at hlv
    obtain ⟨M', L', k1, k2⟩ := go (f_X10_rank v) (by rw [hlv]; exact rz)
    refine ⟨M', L', YZ_behind hi hwh ?_, k2⟩
    unfold f_X10_behindOne
    rw [hv, xb1_some, if_neg vn, xlet_eq, if_neg (by rw [i_eq, rz]; exact c4)]
    exact k1
theorem y_sign {M : xm} {L : xn} {kd nm : Nat} (h : TkY M L kd nm) (hk : 31 ≤ kd ∧ kd ≤ 34) : ∃ v : Int32, f_X10_betweenOf M L = some v ∧ v.toInt = (kd : Int) - 25 := by
  have hc : kd = 31 ∨ kd = 32 ∨ kd = 33 ∨ kd = 34 := by omega
  have e1 := h.sg (c := 31) (x := 43) (by omega) rfl (by decide) (by decide) (by decide)
  have e2 := h.sg (c := 32) (x := 45) (by omega) rfl (by decide) (by decide) (by decide)
  have e3 := h.sg (c := 33) (x := 42) (by omega) rfl (by decide) (by decide) (by decide)
  have e4 := h.sg (c := 34) (x := 47) (by omega) rfl (by decide) (by decide) (by decide)
  unfold f_X10_betweenOf
  simp only [e1, e2, e3, e4]
  rcases hc with rfl | rfl | rfl | rfl
  · exact ⟨6, rfl, rfl⟩
  · exact ⟨7, rfl, rfl⟩
  · exact ⟨8, rfl, rfl⟩
  · exact ⟨9, rfl, rfl⟩
