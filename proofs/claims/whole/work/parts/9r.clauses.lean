/-! a clause whole, by both -/
def frYc (t : Nat) (M M' : xm) : Prop := (∀ q, q ≠ 0 → q ≠ 3 → q ≠ 5 → M' q = M q) ∧ (∀ j, j = 4 ∨ j = 5 ∨ j = 6 ∨ j = 12 → M' 0 j = M 0 j) ∧ ∀ y, (y < 705 * t ∨ 705 * t + 705 ≤ y) → M' 3 y = M 3 y
theorem frYc.re (t : Nat) (M : xm) : frYc t M M := ⟨fun _ _ _ _ => rfl, fun _ _ => rfl, fun _ _ => rfl⟩
theorem frYc.tr {t : Nat} {M M' M'' : xm} (h : frYc t M M') (h' : frYc t M' M'') : frYc t M M'' := ⟨fun q a b c => (h'.1 q a b c).trans (h.1 q a b c), fun j a => (h'.2.1 j a).trans (h.2.1 j a), fun y hy => (h'.2.2 y hy).trans (h.2.2 y hy)⟩
theorem frYc.o {t : Nat} {M M' : xm} (h : fr0 M M') : frYc t M M' := ⟨fun q a _ _ => h.1 q a, fun j hj => h.2 j (by omega) (by omega) (by omega) (by omega), fun y _ => by rw [h.1 3 (by decide)]⟩
theorem frYc.n {t lo hi : Nat} {M M' : xm} (h : frN lo hi M M') (h1 : 705 * t ≤ lo) (h2 : hi ≤ 705 * t + 705) : frYc t M M' := ⟨fun q a b _ => h.1 q a b, fun j hj => h.2.1 j (by omega) (by omega) (by omega) (by omega), fun y hy => h.2.2 y (by omega)⟩
theorem frYc.l {t xi w : Nat} {M M' : xm} (h : frLw t xi w M M') (h1 : 705 * t ≤ xi) (h2 : xi + 3 ≤ 705 * t + 705) : frYc t M M' := ⟨h.1, fun j hj => h.2.1 j (by omega), fun y hy => h.2.2 y (by omega) (by omega) (by omega)⟩
theorem frYc.t {t y : Nat} {M : xm} {v : Int32} (h1 : 705 * t ≤ y) (h2 : y < 705 * t + 705) : frYc t M (up2 M 3 y v) := ⟨fun q _ b _ => up2_cell b, fun j _ => by rw [up2_cell (by decide)], fun z hz => up2_ne (by omega)⟩
theorem frYc.s {t j : Nat} {M : xm} {v : Int32} (hj : j = 14 ∨ j = 19) : frYc t M (up2 M 0 j v) := ⟨fun q a _ _ => up2_cell a, fun i hi => up2_ne (by omega), fun y _ => by rw [up2_cell (by decide)]⟩
def yT (t : Nat) (M20 : xm) (L21 : xn) : Option (Int32 × xm × xn) := if (up2 M20 3 (705 * t) (M20 3 (705 * t) + 1)) 0 9 = 59 then xb2 (f_X10_nextToken (up2 M20 3 (705 * t) (M20 3 (705 * t) + 1)) L21) (fun M28 L29 => some ((0 : Int32), M28, L29)) else some ((1 : Int32), up2 M20 3 (705 * t) (M20 3 (705 * t) + 1), L21)
theorem y_clause {M M8 M12 M20 : xm} {L L13 L21 : xn} {v2 v19 : Int32} {t c kd : Nat} (hs : f_X10_sortOf M L = v2) (hk : v2.toInt = (kd : Int)) (h12 : (M 0 12).toInt = ((705 * t : Nat) : Int)) (t4 : t < 4) (hc : (M 3 (705 * t)).toInt = (c : Int)) (h24 : c < 24) (h8 : (2 ≤ kd ∧ M8 = M) ∨ (kd ≤ 1 ∧ f_X10_has (M 0 19) v2 = 0 ∧ M8 = up2 M 0 19 ((M 0 19) ||| ((1 : Int32) <<< (v2 &&& 31))))) (hn : f_X10_nextToken (up2 M8 0 14 v2) L = some (M12, L13)) (h12' : M12 0 12 = M 0 12) (hb : f_X10_body (up2 M12 3 (705 * t + 1 + 4 * c) v2) L13 v2 (M 0 12 + 1 + 4 * M 3 (705 * t)) = some (v19, M20, L21)) (h20 : M20 0 12 = M 0 12) : f_X10_clause M L = if v19 = 0 then yT t M20 L21 else some (v19, M20, L21) := by
  have h0 : 0 ≤ v2 := by rw [i_le, hk]; simp only [Int32.reduceToInt]; omega
  have e1 : (M 0 12 + 1).toInt = ((705 * t + 1 : Nat) : Int) := k_add h12 (y := 1) (b := 1) rfl (by omega)
  have e2 : ((4 : Int32) * M 3 (705 * t)).toInt = ((4 * c : Nat) : Int) := k_mul2 hc 4 4 rfl (by omega) (by omega)
  have e3 : (M 0 12 + 1 + 4 * M 3 (705 * t)).toInt = ((705 * t + 1 + 4 * c : Nat) : Int) := k_add e1 e2 (by omega)
  have n24 : ¬ M 3 (705 * t) = 24 := by rw [i_eq, hc]; simp only [Int32.reduceToInt]; omega
  unfold f_X10_clause yT
  rcases h8 with ⟨k1, k2⟩ | ⟨k1, k2, k3⟩
  · subst k2
    have h1v : (1 : Int32) < v2 := by rw [i_lt, hk]; simp only [Int32.reduceToInt]; omega
    simp only [xlet_eq, hs, if_pos h0, if_pos h1v]
    rw [if_pos (i_in h12 (by omega)), i_ix h12, if_neg n24, hn, xb2_some, h12', if_pos (i_in e3 (by omega)), i_ix e3, hb, xb3_some, h20, if_pos (i_in h12 (by omega)), i_ix h12]
  · have h1v : ¬ (1 : Int32) < v2 := by rw [i_lt, hk]; simp only [Int32.reduceToInt]; omega
    rw [k3] at hn
    simp only [xlet_eq, hs, if_pos h0, if_neg h1v, if_pos k2]
    rw [if_pos (i_in h12 (by omega)), i_ix h12, if_neg n24, hn, xb2_some, h12', if_pos (i_in e3 (by omega)), i_ix e3, hb, xb3_some, h20, if_pos (i_in h12 (by omega)), i_ix h12]
theorem tail_both {G : Qc} {j : Nat} {M1 MY1 : xm} {LY1 : xn} (h : Bst G j M1 MY1 LY1) : (∃ M', f_X4_want M1 37 = some M' ∧ M' 990 6 ≠ 0 ∧ frA M1 M' ∧ yT G.t MY1 LY1 = some (M' 990 6, up2 MY1 3 (705 * G.t) (MY1 3 (705 * G.t) + 1), LY1) ∧ ((up2 MY1 3 (705 * G.t) (MY1 3 (705 * G.t) + 1)) 0 8).toInt = (M' 990 7).toInt) ∨ (∃ (v : Int32) (MY2 : xm) (LY2 : xn), f_X4_want M1 37 = some (up2 M1 990 9 v) ∧ yT G.t MY1 LY1 = some (0, MY2, LY2) ∧ Bst G (j + 1) (up2 M1 990 9 v) MY2 LY2 ∧ fr0 (up2 MY1 3 (705 * G.t) (MY1 3 (705 * G.t) + 1)) MY2) := by
  have z0 : up2 MY1 3 (705 * G.t) (MY1 3 (705 * G.t) + 1) 0 = MY1 0 := up2_cell (by decide)
  have yp : YP (up2 MY1 3 (705 * G.t) (MY1 3 (705 * G.t) + 1)) LY1 G.B G.n G.K G.P G.N G.E j := h.2.fr (by rw [up2_cell (by decide)]) (fun q _ => by rw [z0])
  have t1 := yp.2.2.2.sg (c := 37) (x := 59) (by omega) rfl (by decide) (by decide) (by decide)
  obtain ⟨w1, w2⟩ := x_want h.1 (a := 37) (c := 37) rfl (by decide) G.ht.2.2.2.1
  unfold yT
  by_cases q : G.K j = 37
  · obtain ⟨v, v1, v2⟩ := w1 q
    obtain ⟨M2, L2, n1, n2, n3⟩ := y_next yp G.ht (jT h.1.2.2.1 q (by decide))
    refine Or.inr ⟨v, M2, L2, v1, ?_, ⟨v2, n2⟩, n3⟩
    rw [if_pos (t1.mpr q), n1, xb2_some]
  · obtain ⟨M', m1, m2⟩ := w2 q
    refine Or.inl ⟨M', m1, by rw [m2.1]; decide, frA.F m2, ?_, ?_⟩
    · rw [if_neg (fun z => q (t1.mp z)), m2.1]
    · rw [m2.2.1]; exact yp.2.2.1
theorem x_clause {G : Qc} {M : xm} {i c : Nat} (h : XP M G.T G.K G.P G.N i) (hc : (M 995 8).toInt = (c : Int)) : ∃ v2 : Int32, v2.toInt = (G.K i : Int) ∧ (¬ G.K i ≤ 6 → f_X4_clause M = f_X4_refuse M 1) ∧ (G.K i ≤ 6 → f_X7_hasLaw (990 + 5) M v2 = some 1 → f_X4_clause M = f_X4_refuse M 4) ∧ (G.K i ≤ 6 → f_X7_hasLaw (990 + 5) M v2 = some 0 → ¬ c < 24 → f_X4_clause M = f_X4_refuse M 6) ∧ (G.K i ≤ 6 → f_X7_hasLaw (990 + 5) M v2 = some 0 → c < 24 → 2 ≤ G.K i → f_X4_clause M = xb1 (f_X4_deedClause (up2 M 990 9 (M 990 9 + 1)) v2) (fun M13 => f_X4_want M13 37)) ∧ (G.K i ≤ 6 → f_X7_hasLaw (990 + 5) M v2 = some 0 → c < 24 → G.K i ≤ 1 → f_X4_clause M = xb1 (f_X4_lawClause (up2 M 990 9 (M 990 9 + 1)) v2) (fun M13 => f_X4_want M13 37)) := by
  obtain ⟨v2, q1, q2⟩ := x_nextKind h
  have e8 : (M (990 + 5) 8).toInt = (c : Int) := hc
  have l6 : v2 ≤ 6 ↔ G.K i ≤ 6 := by rw [i_le, q2]; simp only [Int32.reduceToInt]; omega
  have l1 : (1 : Int32) < v2 ↔ 1 < G.K i := by rw [i_lt, q2]; simp only [Int32.reduceToInt]; omega
  have l24 : M (990 + 5) 8 < 24 ↔ c < 24 := by rw [i_lt, e8]; simp only [Int32.reduceToInt]; omega
  unfold f_X4_clause
  rw [q1, xb1_some]
  simp only [xb1_id, xlet_eq, l6, l1, l24]
  refine ⟨v2, q2, fun a => by rw [if_neg a], fun a b => by rw [if_pos a, b, xb1_some, if_neg n10], fun a b d => by rw [if_pos a, b, xb1_some, if_pos rfl, if_neg d], fun a b d e => by rw [if_pos a, b, xb1_some, if_pos rfl, if_pos d, if_pos (by omega)], fun a b d e => by rw [if_pos a, b, xb1_some, if_pos rfl, if_pos d, if_neg (by omega)]⟩
theorem y_clauseF {M : xm} {L : xn} {v2 : Int32} {t c kd : Nat} (hs : f_X10_sortOf M L = v2) : (v2.toInt = -1 → f_X10_clause M L = some (1, M, L)) ∧ (v2.toInt = (kd : Int) → kd ≤ 1 → f_X10_has (M 0 19) v2 = 1 → f_X10_clause M L = some (4, M, L)) ∧ (v2.toInt = (kd : Int) → (2 ≤ kd ∨ f_X10_has (M 0 19) v2 = 0) → (M 0 12).toInt = ((705 * t : Nat) : Int) → t < 4 → M 3 (705 * t) = 24 → f_X10_clause M L = some (6, M, L)) := by
  unfold f_X10_clause
  refine ⟨fun a => ?_, fun a b d => ?_, fun a b d e g => ?_⟩
  · rw [xlet_eq, hs, if_neg (by rw [i_le, a]; decide)]
  · have h0 : 0 ≤ v2 := by rw [i_le, a]; simp only [Int32.reduceToInt]; omega
    have h1v : ¬ (1 : Int32) < v2 := by rw [i_lt, a]; simp only [Int32.reduceToInt]; omega
    rw [xlet_eq, hs, if_pos h0, xlet_eq, if_neg h1v, d, if_neg n10]
  · have h0 : 0 ≤ v2 := by rw [i_le, a]; simp only [Int32.reduceToInt]; omega
    rw [xlet_eq, hs, if_pos h0, xlet_eq]
    by_cases h1v : (1 : Int32) < v2
    · rw [if_pos h1v, if_pos (i_in d (by omega)), i_ix d, xlet_eq, if_pos g]
    · have k1 : f_X10_has (M 0 19) v2 = 0 := by
        rcases b with z | z
        · exfalso
          apply h1v
          rw [i_lt, a]; simp only [Int32.reduceToInt]; omega
        · exact z
      rw [if_neg h1v, k1, if_pos rfl, if_pos (i_in d (by omega)), i_ix d, xlet_eq, if_pos g]
theorem has_0 (p0 p1 : Bool) : f_X10_has (nB p0 p1) 0 = if p0 = true then 1 else 0 := by cases p0 <;> cases p1 <;> decide
theorem has_1 (p0 p1 : Bool) : f_X10_has (nB p0 p1) 1 = if p1 = true then 1 else 0 := by cases p0 <;> cases p1 <;> decide
theorem or_0 (p1 : Bool) : (nB false p1) ||| ((1 : Int32) <<< ((0 : Int32) &&& 31)) = nB true p1 := by cases p1 <;> decide
theorem or_1 (p0 : Bool) : (nB p0 false) ||| ((1 : Int32) <<< ((1 : Int32) &&& 31)) = nB p0 true := by cases p0 <;> decide
theorem x_hasLaw {b : Bool} {M MY : xm} {t c k w j : Nat} {v : Int32} (h : LwS b M MY t c k w j) (hv : v.toInt = (j : Int)) (hj : j < 2) : f_X7_hasLaw (990 + 5) M v = some (if b = true then 1 else 0) := by
  unfold f_X7_hasLaw
  rw [if_neg (c := v < 0) (by rw [i_lt, hv]; simp only [Int32.reduceToInt]; omega), if_neg (c := 2 ≤ v) (by rw [i_le, hv]; simp only [Int32.reduceToInt]; omega), if_pos (i_in hv hj), i_ix hv, show (990 + 5 + 7 : Nat) = 1002 from rfl]
  cases b with
  | true =>
    obtain ⟨q, ks, ke, ws, we, f, a1, a2, a3, a4, _⟩ := h.1 rfl
    rw [if_neg (by rw [i_eq, a4]; simp only [Int32.reduceToInt]; omega), if_pos rfl]
  | false =>
    rw [if_pos (h.2 rfl).1, if_neg (by decide)]
theorem x_hasLaw2 {M : xm} {v : Int32} {j : Nat} (hv : v.toInt = (j : Int)) (hj : 2 ≤ j) : f_X7_hasLaw (990 + 5) M v = some 0 := by
  unfold f_X7_hasLaw
  rw [if_neg (c := v < 0) (by rw [i_lt, hv]; simp only [Int32.reduceToInt]; omega), if_pos (c := 2 ≤ v) (by rw [i_le, hv]; simp only [Int32.reduceToInt]; omega)]
