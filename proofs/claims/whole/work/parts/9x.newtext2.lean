/-! the paces of a text that was read; the text whole -/
theorem new_pace {MX MX' MY : xm} {t c k w : Nat} {p1 : Bool} (t4 : t < 4) (hp : CpT MX MX' t) (hc : (MY 3 (705 * t)).toInt = (c : Int)) (c24 : c ≤ 24) (hl : LwS p1 MX MY t c k w 1) (hk : k ≤ 300) (hw : w ≤ 304) : ∃ κ : hs → Nat → Int, KRng κ ∧ PcX (sXt MX' t) (some (1007 + 9 * t)) κ ∧ PcY (fun M => sYt MY t M ∧ (M 1 1).toInt = (t : Int)) κ := by
  cases p1 with
  | false =>
    obtain ⟨l1, l2⟩ := hl.2 rfl
    refine ⟨fun _ _ => 0, fun _ _ => (by decide : (0 : Int) ≤ 0 ∧ (0 : Int) ≤ 9), ?_, ?_⟩
    · intro M s a p h o hM ha hp8
      have e : M (1007 + 9 * t + 7) 1 = -1 := by rw [show 1007 + 9 * t + 7 = 1014 + 9 * t by omega, hM _ (by omega) (by omega), (hp.2.2.1 1 (by omega)).1, l1]
      unfold f_X3_paceOf
      show ∃ v M', xb1 (f_X7_hasLaw (1007 + 9 * t) M 1) _ = _ ∧ _
      rw [(x_hasLawAt (v := 1) (j := 1) rfl (by decide)).1 e, xb1_some, if_pos rfl]
      exact ⟨0, M, rfl, rfl, fun _ _ _ => rfl⟩
    · intro M L s a p h o l7 hM ha hp8
      have cn := (y_clauseOf (M := M) (b := 1) (j := 1) hM.2 t4 rfl (by rw [hM.1 _ (by omega) (by omega)]; exact hc) c24).2 (fun y hy => by rw [hM.1 _ (by omega) (by omega)]; exact l2 y hy)
      unfold f_X10_pacesOf
      rw [cn, xb1_some, if_pos rfl]
      exact ⟨0, M, L, rfl, rfl, fun _ _ _ => rfl⟩
  | true =>
    obtain ⟨q, ks, ke, ws, we, f, a1, a2, a3, a4, a5, a6, a7, a8, a9, a10, a11, a12⟩ := hl.1 rfl
    refine ⟨fun s p => max 0 (min 9 (f s p)), fun s p => ⟨by show 0 ≤ max 0 (min 9 (f s p)); omega, by show max 0 (min 9 (f s p)) ≤ 9; omega⟩, ?_, ?_⟩
    · intro M s a p h o hM ha hp3
      have e : M (1007 + 9 * t + 7) 1 = MX 1002 1 := by rw [show 1007 + 9 * t + 7 = 1014 + 9 * t by omega, hM _ (by omega) (by omega), (hp.2.2.1 1 (by omega)).1]
      have e8 : M (1007 + 9 * t + 8) 1 = MX 1003 1 := by rw [show 1007 + 9 * t + 8 = 1015 + 9 * t by omega, hM _ (by omega) (by omega), (hp.2.2.1 1 (by omega)).2]
      have ne : M (1007 + 9 * t + 7) 1 ≠ -1 := by
        rw [e]
        intro z
        rw [z] at a4
        have : (-1 : Int32).toInt = -1 := rfl
        omega
      obtain ⟨r, M', r1, r2, r3⟩ := x_value a11 (T := 1007 + 9 * t) (u := 1) (M := M) (s := s) (a := 1) (xs := a) (j := 1) (sub := p) (by omega) (by decide) h o ha (by omega) rfl (by decide) (by rw [e]; exact a4) (by rw [e8]; exact a5) (by omega) (fun i i1 i2 => by
        rw [show 1007 + 9 * t + 5 = 1012 + 9 * t by omega, show 1007 + 9 * t + 6 = 1013 + 9 * t by omega, hM _ (by omega) (by omega), hM _ (by omega) (by omega), (hp.2.1 i (by omega)).1, (hp.2.1 i (by omega)).2]
        exact ⟨rfl, rfl⟩)
      unfold f_X3_paceOf
      show ∃ v M', xb1 (f_X7_hasLaw (1007 + 9 * t) M 1) _ = _ ∧ _
      rw [(x_hasLawAt (v := 1) (j := 1) rfl (by decide)).2 ne, xb1_some, if_neg n10, r1, xb2_some]
      exact ⟨_, M', rfl, x_held r2, r3⟩
    · intro M L s a p h o l7 hM ha hp3
      obtain ⟨r, r1, r2⟩ := (y_clauseOf (M := M) (b := 1) (j := 1) hM.2 t4 rfl (by rw [hM.1 _ (by omega) (by omega)]; exact hc) c24).1 q a1 (by rw [hM.1 _ (by omega) (by omega)]; exact a2) (fun y hy => by rw [hM.1 _ (by omega) (by omega)]; exact a3 y (by omega) (by omega))
      obtain ⟨M6, n1, n2, n3, n4, n5, n6⟩ := y_name4 h
      have f8 : ∀ q, q ≠ 6 → up2 M6 6 7 a q = M q := fun q hq => by rw [up2_cell hq, n6 q hq]
      have r8 : RY (up2 M6 6 7 a) s := by
        unfold RY
        rw [f8 1 (by decide)]
        exact h
      have ynm : YNm (up2 M6 6 7 a) s false p := by
        refine ⟨?_, ?_, ?_, ?_, fun z => (by cases z), fun _ => ?_⟩
        · rw [up2_ne (by omega)]; exact n2
        · rw [up2_ne (by omega)]; exact n3
        · rw [up2_ne (by omega)]; exact n4
        · rw [up2_ne (by omega)]; exact n5
        · rw [up2_same]; exact ha
      obtain ⟨r3, M', L', s1, s2, s3⟩ := y_summedUp a12 (L := L) (a := M 1 1) (b := r) (t := t) (j := q) r8 o l7 (by omega) ynm hM.2 t4 r2 (by omega) (by rw [f8 3 (by decide), hM.1 _ (by omega) (by omega)]; exact a6) (by rw [f8 3 (by decide), hM.1 _ (by omega) (by omega)]; exact a7) (by omega) (fun i i1 i2 => by
        rw [f8 3 (by decide), hM.1 _ (by omega) (by omega), hM.1 _ (by omega) (by omega)]
        exact ⟨rfl, rfl⟩)
      have rn : ¬ r = -1 := by rw [i_eq, r2]; simp only [Int32.reduceToInt]; omega
      unfold f_X10_pacesOf
      rw [r1, xb1_some, if_neg rn, n1, xb1_some, xlet_eq, f8 1 (by decide), s1, xb3_some]
      exact ⟨_, M', L', rfl, y_held s2, fun q q6 q8 => by rw [s3 q q8, f8 q q6]⟩
theorem new_Tx {G : Qc} {MX MX' MY : xm} {LY : xn} {i k w c : Nat} {p0 p1 : Bool} (h : CLx G MX MY LY i k w c p0 p1) (hp : CpT MX MX' G.t) : Tx MX' MY G.t := by
  obtain ⟨hB, ⟨hk9, ki⟩, ⟨hc8, c24⟩, ⟨h12, t4⟩, ⟨h13, wi⟩, h3, h19, hCR, hL0, hL1⟩ := h
  have iT := hB.1.2.2.1
  have T3 := G.ht.2.1
  obtain ⟨π, q1, q2, q3⟩ := new_pick t4 hp h3 c24 hL0 (by omega) (by omega)
  obtain ⟨κ, r1, r2, r3⟩ := new_pace t4 hp h3 c24 hL1 (by omega) (by omega)
  refine ⟨π, κ, c, q1, r1, q2, q3, r2, r3, c24, by rw [hp.2.2.2]; exact hc8, h3, fun y hy => ?_⟩
  obtain ⟨s1, s2, s3, s4⟩ := hp.1 y (by omega)
  rw [s1, s2, s3, s4]
  exact hCR y hy
