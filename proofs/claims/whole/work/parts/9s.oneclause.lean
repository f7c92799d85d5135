/-! a clause whole, by both: deeds, laws -/
def RC (G : Qc) (M MY : xm) (LY : xn) (i c : Nat) : Prop := ∃ M', f_X4_clause M = some M' ∧ frC M M' ∧ ((M' 990 6 ≠ 0 ∧ ∃ MY' LY', f_X10_clause MY LY = some (M' 990 6, MY', LY') ∧ (MY' 0 8).toInt = (M' 990 7).toInt ∧ frYc G.t MY MY') ∨ ∃ (j k' w' : Nat) (p0 p1 : Bool) (MY' : xm) (LY' : xn), i < j ∧ f_X10_clause MY LY = some (0, MY', LY') ∧ CLx G M' MY' LY' j k' w' (c + 1) p0 p1 ∧ frYc G.t MY MY')
theorem xi_in {MY : xm} {t c : Nat} (h12 : (MY 0 12).toInt = ((705 * t : Nat) : Int)) (t4 : t < 4) (h3 : (MY 3 (705 * t)).toInt = (c : Int)) (h24 : c < 24) : (MY 0 12 + 1 + 4 * MY 3 (705 * t)).toInt = ((705 * t + 1 + 4 * c : Nat) : Int) := by
  have e1 : (MY 0 12 + 1).toInt = ((705 * t + 1 : Nat) : Int) := k_add h12 (y := 1) (b := 1) rfl (by omega)
  have e2 : ((4 : Int32) * MY 3 (705 * t)).toInt = ((4 * c : Nat) : Int) := k_mul2 h3 4 4 rfl (by omega) (by omega)
  exact k_add e1 e2 (by omega)
theorem LwS.fr {b : Bool} {MX MX' MY MY' : xm} {t c k w j k' w' : Nat} (h : LwS b MX MY t c k w j) (h2 : MX' 1002 j = MX 1002 j) (h3 : MX' 1003 j = MX 1003 j) (hc : ∀ i, i < k → MX' 1000 i = MX 1000 i ∧ MX' 1001 i = MX 1001 i) (hy : ∀ y, 705 * t + 1 ≤ y → y < 705 * t + 1 + 4 * c → MY' 3 y = MY 3 y) (hw : ∀ y, 705 * t + 97 ≤ y → y < 705 * t + 97 + 2 * w → MY' 3 y = MY 3 y) (hn : (MY' 3 (705 * t + 1 + 4 * c)).toInt ≠ (j : Int)) (hk : k ≤ k') (hw' : w ≤ w') : LwS b MX' MY' t (c + 1) k' w' j := ⟨fun q => (h.1 q).fr h2 h3 hc hy hw hn hk hw', fun q => (h.2 q).fr h2 hy hn⟩
theorem clause_deed {G : Qc} {M MY : xm} {LY : xn} {i k w c : Nat} {p0 p1 : Bool} (h : CLx G M MY LY i k w c p0 p1) (hK : 2 ≤ G.K i ∧ G.K i ≤ 6) (h24 : c < 24) : RC G M MY LY i c := by
  obtain ⟨hB, ⟨hk9, ki⟩, ⟨hc8, _⟩, ⟨h12, t4⟩, ⟨h13, wi⟩, h3, h19, hCR, hL0, hL1⟩ := h
  obtain ⟨v2, q2, _, _, _, x4, _⟩ := x_clause (G := G) hB.1 hc8
  have xc := x4 (by omega) (x_hasLaw2 q2 hK.1) h24 hK.1
  have iT := jT hB.1.2.2.1 rfl (show G.K i ≠ 41 by omega)
  have T3 := G.ht.2.1
  have hs : f_X10_sortOf MY LY = v2 := i_inj (z := (G.K i : Int)) (by rw [y_sortOf hB.2.2.2.2, if_pos hK.2]) q2
  have xi := xi_in h12 t4 h3 h24
  have xp : XP (up2 M 990 9 (M 990 9 + 1)) G.T G.K G.P G.N (i + 1) := hB.1.at (by omega) (k_add hB.1.2.1 (y := 1) (b := 1) rfl (by omega))
  have yp : YP (up2 MY 0 14 v2) LY G.B G.n G.K G.P G.N G.E i := hB.2.fr (up2_cell (by decide)) (fun j hj => up2_ne (by omega))
  obtain ⟨MY12, L13, n1, n2, n3⟩ := y_next yp G.ht iT
  have e0 : ∀ j, j ≠ 7 → j ≠ 8 → j ≠ 9 → j ≠ 10 → j ≠ 14 → MY12 0 j = MY 0 j := fun j a b c d e => by rw [n3.2 j a b c d, up2_ne (by omega)]
  have e3 : MY12 3 = MY 3 := by rw [n3.1 3 (by decide), up2_cell (by decide)]
  have b17 : Bst G (i + 1) (up2 M 990 9 (M 990 9 + 1)) (up2 MY12 3 (705 * G.t + 1 + 4 * c) v2) L13 := ⟨xp, n2.fr (up2_cell (by decide)) (fun j _ => by rw [up2_cell (by decide)])⟩
  have f17 : frYc G.t MY (up2 MY12 3 (705 * G.t + 1 + 4 * c) v2) := ((frYc.s (by omega)).tr (frYc.o n3)).tr (frYc.t (by omega) (by omega))
  have z17 : ∀ j, j ≠ 7 → j ≠ 8 → j ≠ 9 → j ≠ 10 → j ≠ 14 → (up2 MY12 3 (705 * G.t + 1 + 4 * c) v2) 0 j = MY 0 j := fun j a b c d e => by rw [up2_cell (by decide), e0 j a b c d e]
  have db := deed_both (c := c) b17 (by rw [up2_cell (by decide)]; exact hc8) h24 q2 hK xi (by omega)
  rcases db with ⟨M1, MYf, LYf, d1, d2, d3, d4, d5, d6⟩ | ⟨j, M1a, M1, MY1, LY1, a2, a3, a4, d1, d2, d3, d4, d5, d6, d7, r2, r3, r4, r6⟩
  · have h20 : MYf 0 12 = MY 0 12 := by rw [d6.2.1 12 (by decide) (by decide) (by decide) (by decide), z17 12 (by decide) (by decide) (by decide) (by decide) (by decide)]
    have yc := y_clause hs q2 h12 t4 h3 h24 (Or.inl ⟨hK.1, rfl⟩) n1 (e0 12 (by decide) (by decide) (by decide) (by decide) (by decide)) d4 h20
    rw [if_neg d2] at yc
    exact ⟨M1, by rw [xc, d1, xb1_some, x_want0 d2 (by decide)], (frC.A frA.A).tr d3, Or.inl ⟨d2, MYf, LYf, yc, d5, f17.tr (frYc.n d6 (by omega) (by omega))⟩⟩
  · have h20 : MY1 0 12 = MY 0 12 := by rw [d7.2.1 12 (by decide) (by decide) (by decide) (by decide), z17 12 (by decide) (by decide) (by decide) (by decide) (by decide)]
    have yc := y_clause hs q2 h12 t4 h3 h24 (Or.inl ⟨hK.1, rfl⟩) n1 (e0 12 (by decide) (by decide) (by decide) (by decide) (by decide)) d2 h20
    rw [if_pos rfl] at yc
    have f1 : frYc G.t MY MY1 := f17.tr (frYc.n d7 (by omega) (by omega))
    have f25 : frYc G.t MY (up2 MY1 3 (705 * G.t) (MY1 3 (705 * G.t) + 1)) := f1.tr (frYc.t (by omega) (by omega))
    have c1 : frC M M1 := ((frC.A frA.A).tr (frC.A d5)).tr (frC.C d6)
    rcases tail_both d4 with ⟨M', t1, t2, t3, t4', t5⟩ | ⟨v, MY2, LY2, t1, t2, t3, t4'⟩
    · exact ⟨M', by rw [xc, d1, xb1_some, t1], c1.tr (frC.A t3), Or.inl ⟨t2, _, LY1, yc.trans t4', t5, f25⟩⟩
    · have y1 : ∀ y, (y < 705 * G.t + 2 + 4 * c ∨ 705 * G.t + 5 + 4 * c ≤ y) → y ≠ 705 * G.t + 1 + 4 * c → MY1 3 y = MY 3 y := fun y ha hb => by rw [d7.2.2 y (by omega), up2_ne (by omega), e3]
      have y1c : MY1 3 (705 * G.t + 1 + 4 * c) = v2 := by rw [d7.2.2 _ (by omega), up2_same]
      have y2 : ∀ y, y ≠ 705 * G.t → MY2 3 y = MY1 3 y := fun y hy => by rw [t4'.1 3 (by decide), up2_ne (by omega)]
      have z2 : ∀ j, j ≠ 7 → j ≠ 8 → j ≠ 9 → j ≠ 10 → j ≠ 14 → MY2 0 j = MY 0 j := fun j a b c d e => by rw [t4'.2 j a b c d, up2_cell (by decide), d7.2.1 j a b c d, z17 j a b c d e]
      have x0 : ∀ q, q ≠ 990 → M1a q = M q := fun q hq => by rw [d5.1 q hq, up2_cell hq]
      have x1 : ∀ q, q ≠ 990 → ¬ (995 ≤ q ∧ q ≤ 999) → (up2 M1 990 9 v) q = M q := fun q a b => by rw [up2_cell a, d6.2.2.2.1 q b, x0 q a]
      have k2 : (MY2 3 (705 * G.t + 1 + 4 * c)).toInt = (G.K i : Int) := by rw [y2 _ (by omega), y1c]; exact q2
      refine ⟨_, by rw [xc, d1, xb1_some, t1], c1.tr (frC.A frA.A), Or.inr ⟨j + 1, k, w, p0, p1, MY2, LY2, by omega, yc.trans t2, ⟨t3, ⟨?_, by omega⟩, ⟨?_, by omega⟩, ⟨?_, t4⟩, ⟨?_, by omega⟩, ?_, ?_, ?_, ?_, ?_⟩, f25.tr (frYc.o t4')⟩⟩
      · rw [up2_cell (by decide), d6.2.2.2.2 9 (by decide), x0 995 (by decide)]; exact hk9
      · rw [up2_cell (by decide)]; exact d6.1
      · rw [z2 12 (by decide) (by decide) (by decide) (by decide) (by decide)]; exact h12
      · rw [z2 13 (by decide) (by decide) (by decide) (by decide) (by decide)]; exact h13
      · rw [t4'.1 3 (by decide), up2_same, y1 _ (by omega) (by omega)]
        exact k_add h3 (y := 1) (b := 1) rfl (by omega)
      · rw [z2 19 (by decide) (by decide) (by decide) (by decide) (by decide)]; exact h19
      · intro q hq
        rcases Nat.lt_or_ge q c with z | z
        · refine (hCR q z).fr ?_ (fun y ya yb => by rw [y2 y (by omega), y1 y (by omega) (by omega)])
          obtain ⟨s1, s2, s3, s4⟩ := d6.2.2.1 q (by omega)
          rw [up2_cell (by decide), up2_cell (by decide), up2_cell (by decide), up2_cell (by decide), s1, s2, s3, s4, x0 996 (by decide), x0 997 (by decide), x0 998 (by decide), x0 999 (by decide)]
          exact ⟨rfl, rfl, rfl, rfl⟩
        · obtain ⟨s1, s2, s3, s4⟩ := d6.2.1
          have qc : q = c := by omega
          rw [qc]
          unfold CRx
          rw [up2_cell (by decide), up2_cell (by decide), up2_cell (by decide), up2_cell (by decide), s1, s2, s3, s4, y2 _ (by omega), y2 _ (by omega), y2 _ (by omega), y2 _ (by omega), y1c, q2]
          refine ⟨rfl, by omega, fun _ => ?_, fun _ ya => ?_, fun ya yb => ?_, fun ya => r6 (by omega)⟩
          · rw [r2]; congr 1; omega
          · rw [r3 (by omega)]; congr 1; omega
          · rw [r4 (by omega) (by omega)]; congr 1; omega
      · exact hL0.fr (by rw [x1 1002 (by decide) (by decide)]) (by rw [x1 1003 (by decide) (by decide)]) (fun q _ => by rw [x1 1000 (by decide) (by decide), x1 1001 (by decide) (by decide)]; exact ⟨rfl, rfl⟩) (fun y ya yb => by rw [y2 y (by omega), y1 y (by omega) (by omega)]) (fun y ya yb => by rw [y2 y (by omega), y1 y (by omega) (by omega)]) (by rw [k2]; omega) (Nat.le_refl _) (Nat.le_refl _)
      · exact hL1.fr (by rw [x1 1002 (by decide) (by decide)]) (by rw [x1 1003 (by decide) (by decide)]) (fun q _ => by rw [x1 1000 (by decide) (by decide), x1 1001 (by decide) (by decide)]; exact ⟨rfl, rfl⟩) (fun y ya yb => by rw [y2 y (by omega), y1 y (by omega) (by omega)]) (fun y ya yb => by rw [y2 y (by omega), y1 y (by omega) (by omega)]) (by rw [k2]; omega) (Nat.le_refl _) (Nat.le_refl _)
theorem clause_law {G : Qc} {M MY : xm} {LY : xn} {i k w c : Nat} {p0 p1 : Bool} (h : CLx G M MY LY i k w c p0 p1) (hK : G.K i ≤ 1) (h24 : c < 24) (hp0 : G.K i = 0 → p0 = false) (hp1 : G.K i = 1 → p1 = false) : RC G M MY LY i c := by
  obtain ⟨hB, ⟨hk9, ki⟩, ⟨hc8, _⟩, ⟨h12, t4⟩, ⟨h13, wi⟩, h3, h19, hCR, hL0, hL1⟩ := h
  obtain ⟨v2, q2, _, _, _, _, x5⟩ := x_clause (G := G) hB.1 hc8
  have k01 : G.K i = 0 ∨ G.K i = 1 := by omega
  have iT := jT hB.1.2.2.1 rfl (show G.K i ≠ 41 by omega)
  have T3 := G.ht.2.1
  have hs : f_X10_sortOf MY LY = v2 := i_inj (z := (G.K i : Int)) (by rw [y_sortOf hB.2.2.2.2, if_pos (by omega)]) q2
  have hl : f_X7_hasLaw (990 + 5) M v2 = some 0 ∧ f_X10_has (MY 0 19) v2 = 0 ∧ ∃ p0' p1' : Bool, (MY 0 19) ||| ((1 : Int32) <<< (v2 &&& 31)) = nB p0' p1' ∧ ((G.K i = 0 ∧ p0' = true ∧ p1' = p1) ∨ (G.K i = 1 ∧ p0' = p0 ∧ p1' = true)) := by
    rcases k01 with z | z
    · have v0 : v2 = 0 := by rw [i_eq, q2, z]; rfl
      have p := hp0 z
      refine ⟨?_, ?_, true, p1, ?_, Or.inl ⟨z, rfl, rfl⟩⟩
      · rw [x_hasLaw hL0 (by rw [q2, z]) (by decide), if_neg (by rw [p]; decide)]
      · rw [h19, v0, has_0, if_neg (by rw [p]; decide)]
      · rw [h19, v0, p, or_0]
    · have v0 : v2 = 1 := by rw [i_eq, q2, z]; rfl
      have p := hp1 z
      refine ⟨?_, ?_, p0, true, ?_, Or.inr ⟨z, rfl, rfl⟩⟩
      · rw [x_hasLaw hL1 (by rw [q2, z]) (by decide), if_neg (by rw [p]; decide)]
      · rw [h19, v0, has_1, if_neg (by rw [p]; decide)]
      · rw [h19, v0, p, or_1]
  obtain ⟨hl1, hl2, p0', p1', hl3, hl4⟩ := hl
  have xc := x5 (by omega) hl1 h24 hK
  have xi := xi_in h12 t4 h3 h24
  have xp : XP (up2 M 990 9 (M 990 9 + 1)) G.T G.K G.P G.N (i + 1) := hB.1.at (by omega) (k_add hB.1.2.1 (y := 1) (b := 1) rfl (by omega))
  have s8 : ∀ q, q ≠ 14 → q ≠ 19 → (up2 (up2 MY 0 19 ((MY 0 19) ||| ((1 : Int32) <<< (v2 &&& 31)))) 0 14 v2) 0 q = MY 0 q := fun q a b => by rw [up2_ne (by omega), up2_ne (by omega)]
  have s19 : (up2 (up2 MY 0 19 ((MY 0 19) ||| ((1 : Int32) <<< (v2 &&& 31)))) 0 14 v2) 0 19 = nB p0' p1' := by rw [up2_ne (by omega), up2_same, hl3]
  have yp : YP (up2 (up2 MY 0 19 ((MY 0 19) ||| ((1 : Int32) <<< (v2 &&& 31)))) 0 14 v2) LY G.B G.n G.K G.P G.N G.E i := hB.2.fr (by rw [up2_cell (by decide), up2_cell (by decide)]) (fun j hj => s8 j (by omega) (by omega))
  obtain ⟨MY12, L13, n1, n2, n3⟩ := y_next yp G.ht iT
  have e0 : ∀ j, j ≠ 7 → j ≠ 8 → j ≠ 9 → j ≠ 10 → j ≠ 14 → j ≠ 19 → MY12 0 j = MY 0 j := fun j a b c d e f => by rw [n3.2 j a b c d, s8 j e f]
  have e19 : MY12 0 19 = nB p0' p1' := by rw [n3.2 19 (by decide) (by decide) (by decide) (by decide), s19]
  have e14 : MY12 0 14 = v2 := by rw [n3.2 14 (by decide) (by decide) (by decide) (by decide), up2_same]
  have e3 : MY12 3 = MY 3 := by rw [n3.1 3 (by decide), up2_cell (by decide), up2_cell (by decide)]
  have z17 : (up2 MY12 3 (705 * G.t + 1 + 4 * c) v2) 0 = MY12 0 := up2_cell (by decide)
  have b17 : Bst G (i + 1) (up2 M 990 9 (M 990 9 + 1)) (up2 MY12 3 (705 * G.t + 1 + 4 * c) v2) L13 := ⟨xp, n2.fr (up2_cell (by decide)) (fun j _ => by rw [z17])⟩
  have f17 : frYc G.t MY (up2 MY12 3 (705 * G.t + 1 + 4 * c) v2) := (((frYc.s (by omega)).tr (frYc.s (by omega))).tr (frYc.o n3)).tr (frYc.t (by omega) (by omega))
  have lb := law_both (c := c) (k := k) (w := w) G b17 (by rw [up2_cell (by decide)]; exact hk9) (by omega) (by rw [up2_cell (by decide)]; exact hc8) h24 (by rw [z17, e0 12 (by decide) (by decide) (by decide) (by decide) (by decide) (by decide)]; exact h12) t4 (by rw [z17, e0 13 (by decide) (by decide) (by decide) (by decide) (by decide) (by decide)]; exact h13) (by omega) q2 (by omega) (by rw [z17, e14]; exact q2) xi rfl
  have bl : f_X10_body (up2 MY12 3 (705 * G.t + 1 + 4 * c) v2) L13 v2 (MY 0 12 + 1 + 4 * MY 3 (705 * G.t)) = f_X10_lawClause (up2 MY12 3 (705 * G.t + 1 + 4 * c) v2) L13 (MY 0 12 + 1 + 4 * MY 3 (705 * G.t)) := y_body.2.2.2.2.2 (by
    rcases k01 with z | z
    · exact Or.inl (by rw [i_eq, q2, z]; rfl)
    · exact Or.inr (by rw [i_eq, q2, z]; rfl))
  have y12 := e0 12 (by decide) (by decide) (by decide) (by decide) (by decide) (by decide)
  rcases lb with ⟨M1, MYf, LYf, d1, d2, d3, d4, d5, d6⟩ | ⟨jj, k', w', f, M1, MY1, LY1, d1, d2, d3, d4, d5, d6, g1, g2, g3, g4, g5, g6, g7, g8, g9, g10, g11, g12, g13, g14, g15, g16, g17, g18⟩
  · have h20 : MYf 0 12 = MY 0 12 := by rw [d6.2.1 12 (by omega), z17, y12]
    have yc := y_clause hs q2 h12 t4 h3 h24 (Or.inr ⟨hK, hl2, rfl⟩) n1 y12 (bl.trans d4) h20
    rw [if_neg d2] at yc
    exact ⟨M1, by rw [xc, d1, xb1_some, x_want0 d2 (by decide)], (frC.A frA.A).tr d3, Or.inl ⟨d2, MYf, LYf, yc, d5, f17.tr (frYc.l d6 (by omega) (by omega))⟩⟩
  · have h20 : MY1 0 12 = MY 0 12 := by rw [d6.2.1 12 (by omega), z17, y12]
    have yc := y_clause hs q2 h12 t4 h3 h24 (Or.inr ⟨hK, hl2, rfl⟩) n1 y12 (bl.trans d2) h20
    rw [if_pos rfl] at yc
    have f1 : frYc G.t MY MY1 := f17.tr (frYc.l d6 (by omega) (by omega))
    have f25 : frYc G.t MY (up2 MY1 3 (705 * G.t) (MY1 3 (705 * G.t) + 1)) := f1.tr (frYc.t (by omega) (by omega))
    have c1 : frC M M1 := (frC.A frA.A).tr d5
    rcases tail_both d4 with ⟨M', t1, t2, t3, t4', t5⟩ | ⟨v, MY2, LY2, t1, t2, t3, t4'⟩
    · exact ⟨M', by rw [xc, d1, xb1_some, t1], c1.tr (frC.A t3), Or.inl ⟨t2, _, LY1, yc.trans t4', t5, f25⟩⟩
    · have y1 : ∀ y, y < 705 * G.t + 97 + 2 * w → y ≠ 705 * G.t + 1 + 4 * c → y ≠ 705 * G.t + 2 + 4 * c → y ≠ 705 * G.t + 3 + 4 * c → MY1 3 y = MY 3 y := fun y ya yb yc yd => by rw [d6.2.2 y (Or.inl ya) (by omega) (by omega), up2_ne (by omega), e3]
      have y1c : MY1 3 (705 * G.t + 1 + 4 * c) = v2 := by rw [d6.2.2 _ (by omega) (by omega) (by omega), up2_same]
      have y2 : ∀ y, y ≠ 705 * G.t → MY2 3 y = MY1 3 y := fun y hy => by rw [t4'.1 3 (by decide), up2_ne (by omega)]
      have w0 : MY2 0 12 = MY 0 12 := by rw [t4'.2 12 (by decide) (by decide) (by decide) (by decide), up2_cell (by decide), h20]
      have x996 : ∀ q, q ≠ c → (up2 M1 990 9 v) 996 q = M 996 q ∧ (up2 M1 990 9 v) 997 q = M 997 q ∧ (up2 M1 990 9 v) 998 q = M 998 q ∧ (up2 M1 990 9 v) 999 q = M 999 q := fun q hq => by
        obtain ⟨s1, s2, s3, s4⟩ := g9 q hq
        rw [up2_cell (by decide), up2_cell (by decide), up2_cell (by decide), up2_cell (by decide), s1, s2, s3, s4, up2_cell (by decide), up2_cell (by decide), up2_cell (by decide), up2_cell (by decide)]
        exact ⟨rfl, rfl, rfl, rfl⟩
      have x1000 : ∀ q, q < k → (up2 M1 990 9 v) 1000 q = M 1000 q ∧ (up2 M1 990 9 v) 1001 q = M 1001 q := fun q hq => by
        rw [up2_cell (by decide), up2_cell (by decide), (g10 q hq).1, (g10 q hq).2, up2_cell (by decide), up2_cell (by decide)]
        exact ⟨rfl, rfl⟩
      have x1002 : ∀ q, q ≠ G.K i → (up2 M1 990 9 v) 1002 q = M 1002 q ∧ (up2 M1 990 9 v) 1003 q = M 1003 q := fun q hq => by
        rw [up2_cell (by decide), up2_cell (by decide), (g13 q hq).1, (g13 q hq).2, up2_cell (by decide), up2_cell (by decide)]
        exact ⟨rfl, rfl⟩
      have k2 : (MY2 3 (705 * G.t + 1 + 4 * c)).toInt = (G.K i : Int) := by rw [y2 _ (by omega), y1c]; exact q2
      have hy : ∀ y, 705 * G.t + 1 ≤ y → y < 705 * G.t + 1 + 4 * c → MY2 3 y = MY 3 y := fun y ya yb => by rw [y2 y (by omega), y1 y (by omega) (by omega) (by omega) (by omega)]
      have old : ∀ (j' : Nat) (b : Bool), j' ≠ G.K i → LwS b M MY G.t c k w j' → LwS b (up2 M1 990 9 v) MY2 G.t (c + 1) k' w' j' := fun j' b hj hb => hb.fr (x1002 j' hj).1 (x1002 j' hj).2 x1000 hy (fun y ya yb => by rw [y2 y (by omega), y1 y (by omega) (by omega) (by omega) (by omega)]) (by rw [k2]; omega) (by omega) (by omega)
      have none' : ∀ x, x < c → (MY 3 (705 * G.t + 1 + 4 * x)).toInt ≠ (G.K i : Int) := by
        rcases k01 with z | z
        · rw [z]; exact (hL0.2 (hp0 z)).2
        · rw [z]; exact (hL1.2 (hp1 z)).2
      have new : LwP (up2 M1 990 9 v) MY2 G.t (c + 1) k' w' (G.K i) := by
        refine ⟨c, k, k', w, w', f, by omega, k2, fun x xa xb => ?_, by rw [up2_cell (by decide)]; exact g11, by rw [up2_cell (by decide)]; exact g12, ?_, ?_, Nat.le_refl _, Nat.le_refl _, g14, g15.fin (fun y _ _ => by rw [up2_cell (by decide), up2_cell (by decide)]; exact ⟨rfl, rfl⟩), g16.eq (fun y _ _ => ⟨by unfold cYo; rw [y2 _ (by omega)], by unfold cYv; rw [y2 _ (by omega)]⟩)⟩
        · rw [hy _ (by omega) (by omega)]; exact none' x (by omega)
        · rw [y2 _ (by omega), show 705 * G.t + 2 + 4 * c = 705 * G.t + 1 + 4 * c + 1 by omega]; exact g17
        · rw [y2 _ (by omega), show 705 * G.t + 3 + 4 * c = 705 * G.t + 1 + 4 * c + 2 by omega]; exact g18
      refine ⟨_, by rw [xc, d1, xb1_some, t1], c1.tr (frC.A frA.A), Or.inr ⟨jj + 1, k', w', p0', p1', MY2, LY2, by omega, yc.trans t2, ⟨t3, ⟨?_, by omega⟩, ⟨?_, by omega⟩, ⟨?_, t4⟩, ⟨?_, by omega⟩, ?_, ?_, ?_, ?_, ?_⟩, f25.tr (frYc.o t4')⟩⟩
      · rw [up2_cell (by decide)]; exact g1
      · rw [up2_cell (by decide)]; exact g4
      · rw [w0]; exact h12
      · rw [t4'.2 13 (by decide) (by decide) (by decide) (by decide), up2_cell (by decide)]; exact g5
      · rw [t4'.1 3 (by decide), up2_same, y1 _ (by omega) (by omega) (by omega) (by omega)]
        exact k_add h3 (y := 1) (b := 1) rfl (by omega)
      · rw [t4'.2 19 (by decide) (by decide) (by decide) (by decide), up2_cell (by decide), d6.2.1 19 (by omega), z17, e19]
      · intro q hq
        rcases Nat.lt_or_ge q c with z | z
        · exact (hCR q z).fr (x996 q (by omega)) (fun y ya yb => hy y (by omega) (by omega))
        · have qc : q = c := by omega
          rw [qc]
          unfold CRx
          rw [up2_cell (by decide), up2_cell (by decide), up2_cell (by decide), up2_cell (by decide), g8, y2 (705 * G.t + 1 + 4 * c) (by omega), y1c, q2]
          exact ⟨rfl, by omega, fun z => by omega, fun z => by omega, fun z => by omega, fun z => by omega⟩
      · rcases hl4 with ⟨z1, z2, z3⟩ | ⟨z1, z2, z3⟩
        · rw [z2]
          rw [z1] at new
          exact ⟨fun _ => new, fun z => by cases z⟩
        · rw [z2]
          exact old 0 p0 (by omega) hL0
      · rcases hl4 with ⟨z1, z2, z3⟩ | ⟨z1, z2, z3⟩
        · rw [z3]
          exact old 1 p1 (by omega) hL1
        · rw [z3]
          rw [z1] at new
          exact ⟨fun _ => new, fun z => by cases z⟩
theorem clause_both {G : Qc} {M MY : xm} {LY : xn} {i k w c : Nat} {p0 p1 : Bool} (h : CLx G M MY LY i k w c p0 p1) : RC G M MY LY i c := by
  have h0 := h
  obtain ⟨hB, ⟨hk9, ki⟩, ⟨hc8, c24⟩, ⟨h12, t4⟩, ⟨h13, wi⟩, h3, h19, hCR, hL0, hL1⟩ := h
  obtain ⟨v2, q2, x1, x2, x3, _, _⟩ := x_clause (G := G) hB.1 hc8
  have fault : ∀ f : Int32, f ≠ 0 → f_X4_clause M = f_X4_refuse M f → f_X10_clause MY LY = some (f, MY, LY) → RC G M MY LY i c := by
    intro f hf hx hy
    obtain ⟨M', m1, m2⟩ := x_refuse hB.1 f
    exact ⟨M', hx.trans m1, frC.A (frA.F m2), Or.inl ⟨by rw [m2.1]; exact hf, MY, LY, by rw [m2.1]; exact hy, by rw [m2.2.1]; exact hB.2.2.2.1, frYc.re _ _⟩⟩
  have ys := y_sortOf hB.2.2.2.2
  by_cases k6 : G.K i ≤ 6
  case neg =>
    rw [if_neg k6] at ys
    exact fault 1 (by decide) (x1 k6) ((y_clauseF (c := c) (t := 0) (kd := 0) rfl).1 ys)
  rw [if_pos k6] at ys
  have hs : f_X10_sortOf MY LY = v2 := i_inj ys q2
  have six : ¬ c < 24 → f_X7_hasLaw (990 + 5) M v2 = some 0 → (2 ≤ G.K i ∨ f_X10_has (MY 0 19) v2 = 0) → RC G M MY LY i c := fun z a b => fault 6 (by decide) (x3 k6 a z) ((y_clauseF (c := c) (t := G.t) (kd := G.K i) hs).2.2 q2 b h12 t4 (by rw [i_eq, h3, show c = 24 by omega]; rfl))
  by_cases k2 : 2 ≤ G.K i
  · by_cases z : c < 24
    · exact clause_deed h0 ⟨k2, k6⟩ z
    · exact six z (x_hasLaw2 q2 k2) (Or.inl k2)
  · have k01 : G.K i = 0 ∨ G.K i = 1 := by omega
    rcases k01 with k0 | k0
    · have v0 : v2 = 0 := by rw [i_eq, q2, k0]; rfl
      have hx := x_hasLaw hL0 (v := v2) (by rw [q2, k0]) (by decide)
      have hy : f_X10_has (MY 0 19) v2 = if p0 = true then 1 else 0 := by rw [h19, v0, has_0]
      cases p0 with
      | true => exact fault 4 (by decide) (x2 k6 (by rw [hx, if_pos rfl])) ((y_clauseF (c := c) (t := G.t) (kd := 0) hs).2.1 (by rw [q2, k0]) (by decide) (by rw [hy, if_pos rfl]))
      | false =>
        rw [if_neg (by decide)] at hx hy
        by_cases z : c < 24
        · exact clause_law h0 (by omega) z (fun _ => rfl) (fun y => by omega)
        · exact six z hx (Or.inr hy)
    · have v0 : v2 = 1 := by rw [i_eq, q2, k0]; rfl
      have hx := x_hasLaw hL1 (v := v2) (by rw [q2, k0]) (by decide)
      have hy : f_X10_has (MY 0 19) v2 = if p1 = true then 1 else 0 := by rw [h19, v0, has_1]
      cases p1 with
      | true => exact fault 4 (by decide) (x2 k6 (by rw [hx, if_pos rfl])) ((y_clauseF (c := c) (t := G.t) (kd := 1) hs).2.1 (by rw [q2, k0]) (by decide) (by rw [hy, if_pos rfl]))
      | false =>
        rw [if_neg (by decide)] at hx hy
        by_cases z : c < 24
        · exact clause_law h0 (by omega) z (fun y => by omega) (fun _ => rfl)
        · exact six z hx (Or.inr hy)
