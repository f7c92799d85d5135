def sTm (i : Nat) : Term := .string "ColouredHeap$Reader" (if i = 0 then 91 else 98)
theorem st_ex0 : Cond.exactly (.string "ColouredHeap$Reader" 91) "java/lang/String" ∈ flatC (Jvm.Cond.and given_1 narrow_1) := by decide +kernel
theorem st_co0 : Cond.eq (.field (.string "ColouredHeap$Reader" 91) "java/lang/String" "coder" "B") (.int 0) ∈ flatC (Jvm.Cond.and given_1 narrow_1) := by decide +kernel
theorem st_ar0 : Cond.arrayOf (.field (.string "ColouredHeap$Reader" 91) "java/lang/String" "value" "[B") .byte ∈ flatC (Jvm.Cond.and given_1 narrow_1) := by decide +kernel
theorem st_le0 : Cond.eq (.length (.field (.string "ColouredHeap$Reader" 91) "java/lang/String" "value" "[B")) (.int 11) ∈ flatC (Jvm.Cond.and given_1 narrow_1) := by decide +kernel
theorem st_el0 : ∀ j : Nat, j < 11 → Cond.eq (.elem (.field (.string "ColouredHeap$Reader" 91) "java/lang/String" "value" "[B") (.int (Int32.ofNat j))) (.int (sSigns.getD j 0)) ∈ flatC (Jvm.Cond.and given_1 narrow_1) := by decide +kernel
theorem st_ex1 : Cond.exactly (.string "ColouredHeap$Reader" 98) "java/lang/String" ∈ flatC (Jvm.Cond.and given_1 narrow_1) := by decide +kernel
theorem st_co1 : Cond.eq (.field (.string "ColouredHeap$Reader" 98) "java/lang/String" "coder" "B") (.int 0) ∈ flatC (Jvm.Cond.and given_1 narrow_1) := by decide +kernel
theorem st_ar1 : Cond.arrayOf (.field (.string "ColouredHeap$Reader" 98) "java/lang/String" "value" "[B") .byte ∈ flatC (Jvm.Cond.and given_1 narrow_1) := by decide +kernel
theorem st_le1 : Cond.eq (.length (.field (.string "ColouredHeap$Reader" 98) "java/lang/String" "value" "[B")) (.int 134) ∈ flatC (Jvm.Cond.and given_1 narrow_1) := by decide +kernel
theorem st_el1 : ∀ j : Nat, j < 134 → Cond.eq (.elem (.field (.string "ColouredHeap$Reader" 98) "java/lang/String" "value" "[B") (.int (Int32.ofNat j))) (.int (sVocab.getD j 0)) ∈ flatC (Jvm.Cond.and given_1 narrow_1) := by decide +kernel
theorem st_ne : (Cond.not (Cond.eq (.string "ColouredHeap$Reader" 91) (.string "ColouredHeap$Reader" 98)) ∈ flatC (Jvm.Cond.and given_1 narrow_1)) ∨ (Cond.not (Cond.eq (.string "ColouredHeap$Reader" 98) (.string "ColouredHeap$Reader" 91)) ∈ flatC (Jvm.Cond.and given_1 narrow_1)) := by decide +kernel
theorem st_cs : Cond.eq (.static "java/lang/String" "COMPACT_STRINGS" "Z") (.int 1) ∈ flatC (Jvm.Cond.and given_1 narrow_1) := by decide +kernel
theorem st_si : Cond.isRef (.static "jdk/internal/util/Preconditions" "SIOOBE_FORMATTER" "Ljava/util/function/BiFunction;") ∈ flatC (Jvm.Cond.and given_1 narrow_1) := by decide +kernel
theorem nest_in : ∀ q ∈ xNest, Cond.methodLinkNest q.1 q.2.1 q.2.2.1 q.2.2.2 ∈ lw_tbl := by decide +kernel
set_option maxRecDepth 20000 in
theorem law_E {s : State} {b : Nat} (hts : ∀ w ∈ lw_tbl, w.before #[Value.ref b] s = true) (hgv : (Jvm.Cond.and given_1 narrow_1).before #[Value.ref b] s = true) : ∃ E : xE, va_K E.1 vwCl (xtys E) s ∧ xN s ∧ xT E s.heap.size s s.heap := by
  have htb : ∀ w ∈ TB, w.before #[Value.ref b] s = true := fun w hw => hts w (List.mem_filter.mp hw).1
  have hs := flat_of_before _ hgv
  have hA : ∀ a : Nat, a < s.heap.size → ¬ (fun q : Nat => s.heap.size ≤ q) a := fun a h => Nat.not_le.mpr h
  have hcl : ∀ k : Nat, ∃ cI : ClassId × (Nat → Nat), ∀ q : vw_C, vwCl[k]? = some q → u_Kn s q.1 q.2.1 q.2.2 cI.1 cI.2 := by
    intro k
    match k with
    | 0 => obtain ⟨c0, i0, h⟩ := u_known (C := RX0) (T := TX0) (N := 3) (n := 3) htb inX0 (hts (.instantiable RX0 3) (List.mem_of_getElem? (i := 163) (by decide +kernel))); exact ⟨(c0, i0), fun q hq => by cases hq; exact h⟩
    | 1 => obtain ⟨c0, i0, h⟩ := u_known (C := RX1) (T := TX1) (N := 19) (n := 19) htb inX1 (hts (.instantiable RX1 19) (List.mem_of_getElem? (i := 157) (by decide +kernel))); exact ⟨(c0, i0), fun q hq => by cases hq; exact h⟩
    | 2 => obtain ⟨c0, i0, h⟩ := u_known (C := RX3) (T := TX3) (N := 2) (n := 2) htb inX3 (hts (.instantiable RX3 2) (List.mem_of_getElem? (i := 440) (by decide +kernel))); exact ⟨(c0, i0), fun q hq => by cases hq; exact h⟩
    | 3 => obtain ⟨c0, i0, h⟩ := u_known (C := RX4) (T := TX4) (N := 11) (n := 11) htb inX4 (hts (.instantiable RX4 11) (List.mem_of_getElem? (i := 346) (by decide +kernel))); exact ⟨(c0, i0), fun q hq => by cases hq; exact h⟩
    | 4 => obtain ⟨c0, i0, h⟩ := u_known (C := RX5) (T := TX5) (N := 3) (n := 3) htb inX5 (hts (.instantiable RX5 3) (List.mem_of_getElem? (i := 266) (by decide +kernel))); exact ⟨(c0, i0), fun q hq => by cases hq; exact h⟩
    | 5 => obtain ⟨c0, i0, h⟩ := u_known (C := RX6) (T := TX6) (N := 7) (n := 7) htb inX6 (hts (.instantiable RX6 7) (List.mem_of_getElem? (i := 313) (by decide +kernel))); exact ⟨(c0, i0), fun q hq => by cases hq; exact h⟩
    | 6 => obtain ⟨c0, i0, h⟩ := u_known (C := RX7) (T := TX7) (N := 10) (n := 10) htb inX7 (hts (.instantiable RX7 10) (List.mem_of_getElem? (i := 352) (by decide +kernel))); exact ⟨(c0, i0), fun q hq => by cases hq; exact h⟩
    | 7 => obtain ⟨c0, i0, h⟩ := u_known (C := RX8) (T := TX8) (N := 5) (n := 5) htb inX8 (hts (.instantiable RX8 5) (List.mem_of_getElem? (i := 286) (by decide +kernel))); exact ⟨(c0, i0), fun q hq => by cases hq; exact h⟩
    | 8 => obtain ⟨c0, i0, h⟩ := u_known (C := RX9) (T := TX9) (N := 11) (n := 11) htb inX9 (hts (.instantiable RX9 11) (List.mem_of_getElem? (i := 149) (by decide +kernel))); exact ⟨(c0, i0), fun q hq => by cases hq; exact h⟩
    | 9 => obtain ⟨c0, i0, h⟩ := u_known (C := RX10) (T := TX10) (N := 27) (n := 27) htb inX10 (hts (.instantiable RX10 27) (List.mem_of_getElem? (i := 1274) (by decide +kernel))); exact ⟨(c0, i0), fun q hq => by cases hq; exact h⟩
    | k + 10 => exact ⟨(0, fun _ => 0), fun q hq => by simp [vwCl] at hq⟩
  obtain ⟨D, hD⟩ := Classical.axiomOfChoice hcl
  obtain ⟨cI, kI, pI, fI, gI, dI⟩ := Cond.arrayClass_spec (hts (.arrayClass .int) (List.mem_of_getElem? (i := 179) (by decide +kernel)))
  obtain ⟨cJ, kJ, pJ, fJ, gJ, dJ⟩ := Cond.arrayClass_spec (hts (.arrayClass .long) (List.mem_of_getElem? (i := 1364) (by decide +kernel)))
  obtain ⟨cZ, kZ, pZ, fZ, gZ, dZ⟩ := Cond.arrayClass_spec (hts (.arrayClass .boolean) (List.mem_of_getElem? (i := 1365) (by decide +kernel)))
  have aoH : va_AO "ColouredHeap$Heap" s := va_AO.of (hts (.arrayOver (.object "ColouredHeap$Heap")) (List.mem_of_getElem? (i := 272) (by decide +kernel)))
  obtain ⟨pH, cH, kH, aH, -, gH, dH, fH⟩ := Cond.arrayOver_spec aoH
  have aoT : va_AO "ColouredHeap$Text" s := va_AO.of (hts (.arrayOver (.object "ColouredHeap$Text")) (List.mem_of_getElem? (i := 453) (by decide +kernel)))
  obtain ⟨pT, cT, kT, aT, -, gT, dT, fT⟩ := Cond.arrayOver_spec aoT
  obtain ⟨adK, adV, hSt, hTm⟩ := vk_Sof (args := #[Value.ref b]) (s := s) (N := 2) (tm := sTm) (len := [11, 134]) (byt := [sSigns, sVocab]) (A := fun q : Nat => s.heap.size ≤ q)
    (fun i hi => by rcases (show i = 0 ∨ i = 1 by omega) with rfl | rfl <;> decide)
    (fun i hi => by rcases (show i = 0 ∨ i = 1 by omega) with rfl | rfl; exact hs _ st_ex0; exact hs _ st_ex1)
    (fun i hi => by rcases (show i = 0 ∨ i = 1 by omega) with rfl | rfl; exact hs _ st_co0; exact hs _ st_co1)
    (fun i hi => by rcases (show i = 0 ∨ i = 1 by omega) with rfl | rfl; exact hs _ st_ar0; exact hs _ st_ar1)
    (fun i hi => by rcases (show i = 0 ∨ i = 1 by omega) with rfl | rfl; exact hs _ st_le0; exact hs _ st_le1)
    (fun i hi j hj => by rcases (show i = 0 ∨ i = 1 by omega) with rfl | rfl; exact hs _ (st_el0 j hj); exact hs _ (st_el1 j hj))
    (fun i j hi hj hij => by
      rcases (show (i = 0 ∧ j = 1) ∨ (i = 1 ∧ j = 0) by omega) with ⟨rfl, rfl⟩ | ⟨rfl, rfl⟩
      · rcases st_ne with h | h
        · exact Or.inl (hs _ h)
        · exact Or.inr (hs _ h)
      · rcases st_ne with h | h
        · exact Or.inr (hs _ h)
        · exact Or.inl (hs _ h)) hA
  refine ⟨((fun k => (D k).1, fun k => (D k).2), fun k => if k = 0 then cI else if k = 1 then cJ else if k = 2 then cZ else if k = 3 then cH else if k = 4 then cT else if k < 20 then adK (k - 10) else adV (k - 20)), ⟨hD, ?_⟩, ⟨fun q hq => va_Nw.of rfl (hts _ (nest_in q hq)), aoH, aoT⟩, ?_⟩
  · intro k q hq
    match k, hq with
    | 0, hq => cases hq; exact ⟨fun N z => ⟨(fun k h => by cases h), kI, gI, pI, dI⟩, fI⟩
    | 1, hq => cases hq; exact ⟨fun N z => ⟨(fun k h => by cases h), kJ, gJ, pJ, dJ⟩, fJ⟩
    | 2, hq => cases hq; exact ⟨fun N z => ⟨(fun k h => by cases h), kZ, gZ, pZ, dZ⟩, fZ⟩
    | 3, hq => cases hq; exact ⟨fun N z => ⟨(fun k h => by cases h), kH, gH, pH, dH⟩, kH, pH, gH, dH, aH, fH⟩
    | 4, hq => cases hq; exact ⟨fun N z => ⟨(fun k h => by cases h), kT, gT, pT, dT⟩, kT, pT, gT, dT, aT, fT⟩
    | k + 5, hq => simp [xtys] at hq
  · refine ⟨?_, vk_R.of (hts (.stringRef "ColouredHeap$Reader" 91 "<>=#+-*/();") (List.mem_of_getElem? (i := 600) (by decide +kernel))) (hTm 0 (by decide)), vk_R.of (hts (.stringRef "ColouredHeap$Reader" 98 " picks paces make load store drop day of from to live used if then else end or and not clock phase free stack page lives words fields ") (List.mem_of_getElem? (i := 537) (by decide +kernel))) (hTm 1 (by decide)), va_Zof (hts (.laysStatic "java/lang/String" "COMPACT_STRINGS" "Z") (List.mem_of_getElem? (i := 547) (by decide +kernel))) (hts (.initialized "java/lang/String") (List.mem_of_getElem? (i := 140) (by decide +kernel))) (va_eqi (hs _ st_cs)) hA, va_Zqof (hts (.laysStatic "jdk/internal/util/Preconditions" "SIOOBE_FORMATTER" "Ljava/util/function/BiFunction;") (List.mem_of_getElem? (i := 563) (by decide +kernel))) (hts (.initialized "jdk/internal/util/Preconditions") (List.mem_of_getElem? (i := 142) (by decide +kernel))) (hs _ st_si) hA⟩
    have hK : (fun i => if 10 + i = 0 then cI else if 10 + i = 1 then cJ else if 10 + i = 2 then cZ else if 10 + i = 3 then cH else if 10 + i = 4 then cT else if 10 + i < 20 then adK (10 + i - 10) else adV (10 + i - 20)) = fun i => if i < 10 then adK i else adV (i - 10) := by
      funext i
      rw [if_neg (by omega), if_neg (by omega), if_neg (by omega), if_neg (by omega), if_neg (by omega)]
      by_cases h : i < 10
      · rw [if_pos (by omega), if_pos h, Nat.add_sub_cancel_left]
      · rw [if_neg (by omega), if_neg h]
        congr 1
        omega
    have hV : (fun i => if 20 + i = 0 then cI else if 20 + i = 1 then cJ else if 20 + i = 2 then cZ else if 20 + i = 3 then cH else if 20 + i = 4 then cT else if 20 + i < 20 then adK (20 + i - 10) else adV (20 + i - 20)) = adV := by
      funext i
      rw [if_neg (by omega), if_neg (by omega), if_neg (by omega), if_neg (by omega), if_neg (by omega), if_neg (by omega), Nat.add_sub_cancel_left]
    show vk_S 2 _ _ (fun i => if 10 + i = 0 then cI else if 10 + i = 1 then cJ else if 10 + i = 2 then cZ else if 10 + i = 3 then cH else if 10 + i = 4 then cT else if 10 + i < 20 then adK (10 + i - 10) else adV (10 + i - 20)) (fun i => if 20 + i = 0 then cI else if 20 + i = 1 then cJ else if 20 + i = 2 then cZ else if 20 + i = 3 then cH else if 20 + i = 4 then cT else if 20 + i < 20 then adK (20 + i - 10) else adV (20 + i - 20)) _ s s.heap
    rw [hK, hV]
    refine ⟨fun i hi => ?_, fun i j hi hj h => ?_⟩
    · have h1 := hSt.1 i hi
      dsimp only
      rw [if_pos (by omega)]
      exact h1
    · dsimp only at h
      rw [if_pos (by omega), if_pos (by omega)] at h
      exact hSt.2 i j hi hj h
