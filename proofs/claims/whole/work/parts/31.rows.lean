/-! the reference's row laid over another -/
theorem layRow_loop {o1 o2 : Nat} (ho : o1 ≠ o2) (M0 : xm) : ∀ (d i n : Nat), i + d = 9878 → d < n → ∀ M : xm, (∀ q j, M q j = if q = o2 ∧ j < i then M0 o1 j else M0 q j) → ∃ M' : xm, g_X10_layRow_2 o1 o2 n M (nI i) = some M' ∧ ∀ q j, M' q j = if q = o2 ∧ j < 9878 then M0 o1 j else M0 q j := by
  intro d
  induction d with
  | zero =>
    intro i n hi hn M hM
    have : i = 9878 := by omega
    subst this
    obtain ⟨n, rfl⟩ : ∃ k, n = k + 1 := ⟨n - 1, by omega⟩
    refine ⟨M, ?_, hM⟩
    rw [g_X10_layRow_2, if_pos (Int32.le_refl _)]
  | succ d ih =>
    intro i n hi hn M hM
    obtain ⟨n, rfl⟩ : ∃ k, n = k + 1 := ⟨n - 1, by omega⟩
    rw [g_X10_layRow_2, if_neg (show ¬ nI 9878 ≤ nI i from nI_ge (by omega) (by omega)), if_pos (xin_nI (by omega) (by omega)), xlet_eq, xlet_eq, nI_clamp (by omega), nI_1]
    refine ih (i + 1) n (by omega) (by omega) _ (fun q j => ?_)
    rw [up2_ap]
    by_cases h : q = o2 ∧ j = i
    · obtain ⟨rfl, rfl⟩ := h
      rw [if_pos ⟨rfl, rfl⟩, if_pos ⟨rfl, by omega⟩, hM, if_neg (fun z => ho z.1)]
    · rw [if_neg h, hM]
      by_cases h2 : q = o2 ∧ j < i
      · rw [if_pos h2, if_pos ⟨h2.1, by omega⟩]
      · rw [if_neg h2, if_neg (fun z => h ⟨z.1, by
          have : ¬ j < i := fun y => h2 ⟨z.1, y⟩
          omega⟩)]
theorem layRow_eq {o1 o2 : Nat} (ho : o1 ≠ o2) (M : xm) : ∃ M' : xm, f_X10_layRow o1 o2 M = some M' ∧ ∀ q j, M' q j = if q = o2 ∧ j < 9878 then M o1 j else M q j := by
  obtain ⟨M', h1, h2⟩ := layRow_loop ho M 9878 0 xfuel (by omega) (by unfold xfuel; omega) M (fun q j => by rw [if_neg (fun z => by omega)])
  refine ⟨M', ?_, h2⟩
  unfold f_X10_layRow
  rw [show (0 : Int32) = nI 0 from rfl, h1]
  rfl
