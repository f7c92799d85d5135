/-! all parts of a sum together -/
theorem rec_0 (d : Nat) (M : xm) (a : Int32) : f_X4_rec (d + 1) 0 M a 0 = xb1 (f_X4_rec d 1 M a 0) (fun M1 => xb1 (gLv 31 32 (fun M => f_X4_rec d 1 M a 0) xfuel M1 0) (fun M28 => some M28)) := by
  rw [f_X4_rec, if_pos rfl]
  unfold fb_X4_sum
  simp only [gLv_sum]
theorem rec_1 (d : Nat) (M : xm) (a : Int32) : f_X4_rec (d + 1) 1 M a 0 = xb1 (f_X4_rec d 2 M a 0) (fun M1 => xb1 (gLv 33 34 (fun M => f_X4_rec d 2 M a 0) xfuel M1 0) (fun M28 => some M28)) := by
  rw [f_X4_rec, if_neg (by decide), if_pos rfl]
  unfold fb_X4_product
  simp only [gLv_product]
theorem rec_2 (d : Nat) (M : xm) (a : Int32) : f_X4_rec (d + 1) 2 M a 0 = fb_X4_one (f_X4_rec d) M a := by
  rw [f_X4_rec, if_neg (by decide), if_neg (by decide), if_pos rfl]
theorem rec_3 (d : Nat) (M : xm) (v a : Int32) : f_X4_rec (d + 1) 3 M v a = fb_X4_openedOne (f_X4_rec d) M v a := by
  rw [f_X4_rec, if_neg (by decide), if_neg (by decide), if_neg (by decide), if_pos rfl]
theorem rec_4 (d : Nat) (M : xm) (a : Int32) : f_X4_rec (d + 1) 4 M a 0 = fb_X4_choice (f_X4_rec d) M a := by
  rw [f_X4_rec, if_neg (by decide), if_neg (by decide), if_neg (by decide), if_neg (by decide), if_pos rfl]
theorem rec_5 (d : Nat) (M : xm) (a : Int32) : f_X4_rec (d + 1) 5 M a 0 = xb1 (f_X4_rec d 6 M a 0) (fun M1 => xb1 (gLc 16 (fun M => f_X4_rec d 6 M a 0) xfuel M1 0) (fun M28 => some M28)) := by
  rw [f_X4_rec, if_neg (by decide), if_neg (by decide), if_neg (by decide), if_neg (by decide), if_neg (by decide), if_pos rfl]
  unfold fb_X4_either
  simp only [gLc_either]
theorem rec_6 (d : Nat) (M : xm) (a : Int32) : f_X4_rec (d + 1) 6 M a 0 = xb1 (f_X4_rec d 7 M a 0) (fun M1 => xb1 (gLc 17 (fun M => f_X4_rec d 7 M a 0) xfuel M1 0) (fun M28 => some M28)) := by
  rw [f_X4_rec, if_neg (by decide), if_neg (by decide), if_neg (by decide), if_neg (by decide), if_neg (by decide), if_neg (by decide), if_pos rfl]
  unfold fb_X4_both
  simp only [gLc_both]
theorem rec_7 (d : Nat) (M : xm) (a : Int32) : f_X4_rec (d + 1) 7 M a 0 = fb_X4_ask (f_X4_rec d) M a := by
  rw [f_X4_rec, if_neg (by decide), if_neg (by decide), if_neg (by decide), if_neg (by decide), if_neg (by decide), if_neg (by decide), if_neg (by decide), if_pos rfl]
theorem rec_8 (d : Nat) (M : xm) (a : Int32) : f_X4_rec (d + 1) 8 M a 0 = fb_X4_comparison (f_X4_rec d) M a := by
  rw [f_X4_rec, if_neg (by decide), if_neg (by decide), if_neg (by decide), if_neg (by decide), if_neg (by decide), if_neg (by decide), if_neg (by decide), if_neg (by decide), if_pos rfl]
theorem Fz_sum (d : Nat) (a : Int32) : Fz (fun M => f_X4_rec (d + 3) 0 M a 0) := by
  intro M h
  have x0 : xfuel = 99999 + 1 := rfl
  have e2 : f_X4_rec (d + 1) 2 M a 0 = some M := by rw [rec_2, x_one0 h]
  have e1 : f_X4_rec (d + 2) 1 M a 0 = some M := by rw [rec_1, e2, xb1_some, x0, gLv_0 h (by decide) (by decide), xb1_some]
  show f_X4_rec (d + 3) 0 M a 0 = some M
  rw [rec_0, e1, xb1_some, x0, gLv_0 h (by decide) (by decide), xb1_some]
def QA (G : Qc) (d : Nat) : Prop := ∀ (e : Nat) (a : Int32), a.toInt = (e : Int) → e ≤ 8 → (10 * (8 - e) + 1 ≤ d → SO G e (fun M => f_X4_rec d 2 M a 0)) ∧ (10 * (8 - e) + 2 ≤ d → SV G 6 e (fun M => f_X4_rec d 1 M a 0)) ∧ (10 * (8 - e) + 3 ≤ d → SV G 5 e (fun M => f_X4_rec d 0 M a 0)) ∧ (10 * (8 - e) + 4 ≤ d → SC G 4 e (fun M => f_X4_rec d 8 M a 0)) ∧ (10 * (8 - e) + 5 ≤ d → SC G 3 e (fun M => f_X4_rec d 7 M a 0)) ∧ (10 * (8 - e) + 6 ≤ d → SC G 2 e (fun M => f_X4_rec d 6 M a 0)) ∧ (10 * (8 - e) + 7 ≤ d → SC G 1 e (fun M => f_X4_rec d 5 M a 0))
theorem q_one {G : Qc} {d : Nat} (ih : ∀ d', d' < d + 1 → QA G d') {e : Nat} {a : Int32} (ha : a.toInt = (e : Int)) (e8 : e ≤ 8) (hd : 10 * (8 - e) + 1 ≤ d + 1) : SO G e (fun M => f_X4_rec (d + 1) 2 M a 0) := by
  intro M MY LY i k b u w hP
  show RsO G M MY LY i k b u w e (f_X4_rec (d + 1) 2 M a 0)
  rw [rec_2]
  by_cases c1 : G.K i = 40
  · exact one_num hP c1
  by_cases c2 : 19 ≤ G.K i ∧ G.K i ≤ 26
  · exact one_name hP c2
  by_cases c3 : G.K i = 35 ∨ G.K i = 32 ∨ G.K i = 10 ∨ G.K i = 11 ∨ G.K i = 12
  · rcases Nat.lt_or_ge e 8 with he | he
    · obtain ⟨d2, rfl⟩ : ∃ z, d = z + 5 := ⟨d - 5, by omega⟩
      have ha1 : (a + 1).toInt = ((e + 1 : Nat) : Int) := k_add ha (y := 1) (b := 1) rfl (by omega)
      have hR : ∀ M v a2, f_X4_rec (d2 + 5) 3 M v a2 = fb_X4_openedOne (f_X4_rec (d2 + 4)) M v a2 := fun M v a2 => rec_3 (d2 + 4) M v a2
      have n1 : d2 + 4 < d2 + 5 + 1 := by omega
      have n2 : d2 + 3 < d2 + 5 + 1 := by omega
      have n3 : e + 1 ≤ 8 := by omega
      have n4 : 10 * (8 - (e + 1)) + 3 ≤ d2 + 4 := by omega
      have n5 : 10 * (8 - (e + 1)) + 7 ≤ d2 + 3 := by omega
      have n6 : 10 * (8 - (e + 1)) + 3 ≤ d2 + 3 := by omega
      have n7 : 10 * (8 - (e + 1)) + 1 ≤ d2 + 4 := by omega
      by_cases c4 : G.K i = 35
      · exact one_paren (R := f_X4_rec (d2 + 5)) (R1 := f_X4_rec (d2 + 4)) hR ((ih (d2 + 4) n1 (e + 1) (a + 1) ha1 n3).2.2.1 n4) hP ha he c4
      by_cases c5 : G.K i = 12
      · exact one_if (R := f_X4_rec (d2 + 5)) (R1 := f_X4_rec (d2 + 4)) (R2 := f_X4_rec (d2 + 3)) hR (fun M a2 => rec_4 (d2 + 3) M a2) ((ih (d2 + 3) n2 (e + 1) (a + 1) ha1 n3).2.2.2.2.2.2 n5) ((ih (d2 + 3) n2 (e + 1) (a + 1) ha1 n3).2.2.1 n6) (Fz_sum d2 (a + 1)) hP ha he c5
      · have c6 : G.K i = 32 ∨ G.K i = 10 ∨ G.K i = 11 := by omega
        exact one_un (R := f_X4_rec (d2 + 5)) (R1 := f_X4_rec (d2 + 4)) hR ((ih (d2 + 4) n1 (e + 1) (a + 1) ha1 n3).1 n7) hP ha he c6
    · exact one_deep hP ha (by omega) c3
  · exact one_bad hP (by omega)
theorem q_all (G : Qc) : ∀ d, QA G d := by
  intro d
  induction d using Nat.strongRecOn with
  | ind d ih =>
    rcases d with _ | d
    · intro e a ha e8
      refine ⟨fun h => by omega, fun h => by omega, fun h => by omega, fun h => by omega, fun h => by omega, fun h => by omega, fun h => by omega⟩
    · intro e a ha e8
      have n0 : d < d + 1 := by omega
      refine ⟨fun h => q_one ih ha e8 h, fun h => ?_, fun h => ?_, fun h => ?_, fun h => ?_, fun h => ?_, fun h => ?_⟩
      · have h' : 10 * (8 - e) + 1 ≤ d := by omega
        rw [show (fun M => f_X4_rec (d + 1) 1 M a 0) = _ from funext (fun M => rec_1 d M a)]
        exact v_level (G := G) (lv := 6) (e := e) (s1 := 33) (s2 := 34) (c1 := 33) (c2 := 34) rfl rfl (Or.inr ⟨rfl, rfl, rfl⟩) ((ih d n0 e a ha e8).1 h').v
      · have h' : 10 * (8 - e) + 2 ≤ d := by omega
        rw [show (fun M => f_X4_rec (d + 1) 0 M a 0) = _ from funext (fun M => rec_0 d M a)]
        exact v_level (G := G) (lv := 5) (e := e) (s1 := 31) (s2 := 32) (c1 := 31) (c2 := 32) rfl rfl (Or.inl ⟨rfl, rfl, rfl⟩) ((ih d n0 e a ha e8).2.1 h')
      · have h' : 10 * (8 - e) + 3 ≤ d := by omega
        rw [show (fun M => f_X4_rec (d + 1) 8 M a 0) = _ from funext (fun M => rec_8 d M a)]
        exact comp_step ((ih d n0 e a ha e8).2.2.1 h')
      · have h' : 10 * (8 - e) + 4 ≤ d := by omega
        have h2 : e < 8 → 10 * (8 - (e + 1)) + 5 ≤ d := by omega
        have h3 : e < 8 → e + 1 ≤ 8 := by omega
        have ha1 : (a + 1).toInt = ((e + 1 : Nat) : Int) := k_add ha (y := 1) (b := 1) rfl (by omega)
        rw [show (fun M => f_X4_rec (d + 1) 7 M a 0) = _ from funext (fun M => rec_7 d M a)]
        exact ask_step ha ((ih d n0 e a ha e8).2.2.2.1 h') (fun he => (ih d n0 (e + 1) (a + 1) ha1 (h3 he)).2.2.2.2.1 (h2 he))
      · have h' : 10 * (8 - e) + 5 ≤ d := by omega
        rw [show (fun M => f_X4_rec (d + 1) 6 M a 0) = _ from funext (fun M => rec_6 d M a)]
        exact c_level (G := G) (lv := 2) (e := e) (s := 17) (q := 17) (z := 21) rfl (Or.inr ⟨rfl, rfl, rfl⟩) ((ih d n0 e a ha e8).2.2.2.2.1 h')
      · have h' : 10 * (8 - e) + 6 ≤ d := by omega
        rw [show (fun M => f_X4_rec (d + 1) 5 M a 0) = _ from funext (fun M => rec_5 d M a)]
        exact c_level (G := G) (lv := 1) (e := e) (s := 16) (q := 16) (z := 22) rfl (Or.inl ⟨rfl, rfl, rfl⟩) ((ih d n0 e a ha e8).2.2.2.2.2.1 h')
