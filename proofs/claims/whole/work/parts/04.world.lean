/-! the class's own cells, one behind the other as they are made -/
def pBook : List (Nat × Nat) := [(0, 0), (10, 75)]
def pTold : List (Nat × Nat) := [(7, 0), (10, 8), (10, 8)]
def pSurvey : List (Nat × Nat) := [(5, 0), (10, 64), (10, 64), (10, 64)]
def pLaw : List (Nat × Nat) := [(2, 0), (10, 300)]
def pText : List (Nat × Nat) := [(6, 0), (10, 24), (10, 24), (10, 24), (10, 24), (10, 300), (10, 300), (10, 2), (10, 2)]
def pHeap : List (Nat × Nat) := [(1, 0), (10, 64), (10, 64), (10, 64), (10, 64), (10, 8), (10, 8), (10, 8), (10, 6), (10, 2), (10, 2), (10, 2), (10, 2)] ++ pBook
def pReader : List (Nat × Nat) := [(3, 0), (10, 300), (10, 301), (10, 301), (10, 301)] ++ pText
def pSteps : List (Nat × Nat) := [(4, 0), (13, 31)] ++ (List.replicate 31 pHeap).flatten
def pTexts : List (Nat × Nat) := [(14, 4)] ++ (List.replicate 4 pText).flatten
def layL : List (Nat × Nat) := [(8, 0)] ++ pHeap ++ pSteps ++ pTold ++ pHeap ++ pSteps ++ pTold ++ pHeap ++ pSurvey ++ pReader ++ pLaw ++ pTexts
abbrev NX : Nat := 1043
theorem layL_len : layL.length = NX := by decide +kernel
def lay (k : Nat) : Nat × Nat := layL.getD k (99, 0)
theorem lay_lt {k : Nat} {x : Nat × Nat} (h : lay k = x) (hx : ¬ x.1 = 99) : k < NX := by
  rcases Nat.lt_or_ge k NX with h1 | h1
  · exact h1
  · unfold lay at h
    rw [List.getD_eq_getElem?_getD, List.getElem?_eq_none (by rw [layL_len]; exact h1)] at h
    subst h
    exact absurd rfl hx
def lat (q : Nat) (pat : List (Nat × Nat)) : Prop := ∀ (j : Nat) (x : Nat × Nat), pat[j]? = some x → lay (q + j) = x
def latB (q : Nat) (pat : List (Nat × Nat)) : Bool := (List.range pat.length).all (fun j => decide (lay (q + j) = pat.getD j (99, 0)))
theorem lat_of {q : Nat} {pat : List (Nat × Nat)} (h : latB q pat = true) : lat q pat := by
  intro j x hx
  have hj : j < pat.length := by
    rcases Nat.lt_or_ge j pat.length with h1 | h1
    · exact h1
    · rw [List.getElem?_eq_none h1] at hx; cases hx
  have h2 := List.all_eq_true.mp h j (List.mem_range.mpr hj)
  rw [decide_eq_true_eq] at h2
  rw [h2, List.getD_eq_getElem?_getD, hx]
  rfl
def cX (E : xE) (b : Nat) (M : Nat → Nat → Int32) (q : Nat) : va_E := if (lay q).1 = 10 then .inl (E.2 0, (lay q).2, .inl (M q))
  else if (lay q).1 = 0 then .inr (0, [.ref (b + (q + 1)), .int (M q 1), .int (M q 2)])
  else if (lay q).1 = 1 then .inr (1, [.ref (b + (q + 1)), .ref (b + (q + 2)), .ref (b + (q + 3)), .ref (b + (q + 4)), .ref (b + (q + 5)), .ref (b + (q + 6)), .ref (b + (q + 7)), .ref (b + (q + 8)), .ref (b + (q + 9)), .ref (b + (q + 10)), .ref (b + (q + 11)), .ref (b + (q + 12)), .ref (b + (q + 13)), .int (M q 13), .int (M q 14), .int (M q 15), .int (M q 16), .int (M q 17), .int (M q 18)])
  else if (lay q).1 = 2 then .inr (2, [.ref (b + (q + 1)), .int (M q 1)])
  else if (lay q).1 = 3 then .inr (3, [.ref (b + (q + 1)), .ref (b + (q + 2)), .ref (b + (q + 3)), .ref (b + (q + 4)), .ref (b + (q + 5)), .int (M q 5), .int (M q 6), .int (M q 7), .int (M q 8), .int (M q 9), .int (M q 10)])
  else if (lay q).1 = 4 then .inr (4, [.ref (b + (q + 1)), .int (M q 1), .int (M q 2)])
  else if (lay q).1 = 5 then .inr (5, [.ref (b + (q + 1)), .ref (b + (q + 2)), .ref (b + (q + 3)), .int (M q 3), .int (M q 4), .int (M q 5), .int (M q 6)])
  else if (lay q).1 = 6 then .inr (6, [.ref (b + (q + 1)), .ref (b + (q + 2)), .ref (b + (q + 3)), .ref (b + (q + 4)), .ref (b + (q + 5)), .ref (b + (q + 6)), .ref (b + (q + 7)), .ref (b + (q + 8)), .int (M q 8), .int (M q 9)])
  else if (lay q).1 = 7 then .inr (7, [.ref (b + (q + 1)), .ref (b + (q + 2)), .int (M q 2), .int (M q 3), .int (M q 4)])
  else if (lay q).1 = 8 then .inr (8, [.ref (b + 1), .ref (b + 16), .ref (b + 483), .ref (b + 486), .ref (b + 501), .ref (b + 968), .ref (b + 971), .ref (b + 986), .ref (b + 990), .ref (b + 1004), .ref (b + 1006)])
  else if (lay q).1 = 13 then .inl (E.2 3, (lay q).2, .inr (.inr (.inr (.inr (fun i => some (b + (q + (1 + 15 * i))))))))
  else .inl (E.2 4, (lay q).2, .inr (.inr (.inr (.inr (fun i => some (b + (q + (1 + 9 * i))))))))
theorem cX_o {E : xE} {b : Nat} {M : Nat → Nat → Int32} {k i : Nat} {v : Int32} : ∀ q, q ≠ k → cX E b (up2 M k i v) q = cX E b M q := by
  intro q h
  unfold cX
  rw [up2_o h]
theorem cx_I {E : xE} {b : Nat} {M : Nat → Nat → Int32} {q n : Nat} (h : lay q = (10, n)) : xat NX (cX E b M) q (.inl (E.2 0, n, .inl (M q))) := by
  refine ⟨lay_lt h (by show ¬ (10 = 99); decide), ?_⟩
  unfold cX
  rw [h]
  rfl
theorem cu_I {E : xE} {b : Nat} {M : Nat → Nat → Int32} {q n i : Nat} {v : Int32} (h : lay q = (10, n)) : cX E b (up2 M q i v) q = .inl (E.2 0, n, .inl (upd (M q) i v)) := by
  rw [(cx_I h).2, up2_k]
theorem cx_Book {E : xE} {b : Nat} {M : Nat → Nat → Int32} {q : Nat} (h : lay q = (0, 0)) : xat NX (cX E b M) q (.inr (0, [.ref (b + (q + 1)), .int (M q 1), .int (M q 2)])) := by
  refine ⟨lay_lt h (by show ¬ (0 = 99); decide), ?_⟩
  unfold cX
  rw [h]
  rfl
theorem cu_Book_1 {E : xE} {b : Nat} {M : Nat → Nat → Int32} {q : Nat} {v : Int32} (h : lay q = (0, 0)) : cX E b (up2 M q 1 v) q = .inr (0, ([.ref (b + (q + 1)), .int (M q 1), .int (M q 2)] : List Value).set 1 (.int v)) := by
  rw [(cx_Book h).2, up2_k]
  rfl
theorem cu_Book_2 {E : xE} {b : Nat} {M : Nat → Nat → Int32} {q : Nat} {v : Int32} (h : lay q = (0, 0)) : cX E b (up2 M q 2 v) q = .inr (0, ([.ref (b + (q + 1)), .int (M q 1), .int (M q 2)] : List Value).set 2 (.int v)) := by
  rw [(cx_Book h).2, up2_k]
  rfl
theorem cx_Heap {E : xE} {b : Nat} {M : Nat → Nat → Int32} {q : Nat} (h : lay q = (1, 0)) : xat NX (cX E b M) q (.inr (1, [.ref (b + (q + 1)), .ref (b + (q + 2)), .ref (b + (q + 3)), .ref (b + (q + 4)), .ref (b + (q + 5)), .ref (b + (q + 6)), .ref (b + (q + 7)), .ref (b + (q + 8)), .ref (b + (q + 9)), .ref (b + (q + 10)), .ref (b + (q + 11)), .ref (b + (q + 12)), .ref (b + (q + 13)), .int (M q 13), .int (M q 14), .int (M q 15), .int (M q 16), .int (M q 17), .int (M q 18)])) := by
  refine ⟨lay_lt h (by show ¬ (1 = 99); decide), ?_⟩
  unfold cX
  rw [h]
  rfl
theorem cu_Heap_13 {E : xE} {b : Nat} {M : Nat → Nat → Int32} {q : Nat} {v : Int32} (h : lay q = (1, 0)) : cX E b (up2 M q 13 v) q = .inr (1, ([.ref (b + (q + 1)), .ref (b + (q + 2)), .ref (b + (q + 3)), .ref (b + (q + 4)), .ref (b + (q + 5)), .ref (b + (q + 6)), .ref (b + (q + 7)), .ref (b + (q + 8)), .ref (b + (q + 9)), .ref (b + (q + 10)), .ref (b + (q + 11)), .ref (b + (q + 12)), .ref (b + (q + 13)), .int (M q 13), .int (M q 14), .int (M q 15), .int (M q 16), .int (M q 17), .int (M q 18)] : List Value).set 13 (.int v)) := by
  rw [(cx_Heap h).2, up2_k]
  rfl
theorem cu_Heap_14 {E : xE} {b : Nat} {M : Nat → Nat → Int32} {q : Nat} {v : Int32} (h : lay q = (1, 0)) : cX E b (up2 M q 14 v) q = .inr (1, ([.ref (b + (q + 1)), .ref (b + (q + 2)), .ref (b + (q + 3)), .ref (b + (q + 4)), .ref (b + (q + 5)), .ref (b + (q + 6)), .ref (b + (q + 7)), .ref (b + (q + 8)), .ref (b + (q + 9)), .ref (b + (q + 10)), .ref (b + (q + 11)), .ref (b + (q + 12)), .ref (b + (q + 13)), .int (M q 13), .int (M q 14), .int (M q 15), .int (M q 16), .int (M q 17), .int (M q 18)] : List Value).set 14 (.int v)) := by
  rw [(cx_Heap h).2, up2_k]
  rfl
theorem cu_Heap_15 {E : xE} {b : Nat} {M : Nat → Nat → Int32} {q : Nat} {v : Int32} (h : lay q = (1, 0)) : cX E b (up2 M q 15 v) q = .inr (1, ([.ref (b + (q + 1)), .ref (b + (q + 2)), .ref (b + (q + 3)), .ref (b + (q + 4)), .ref (b + (q + 5)), .ref (b + (q + 6)), .ref (b + (q + 7)), .ref (b + (q + 8)), .ref (b + (q + 9)), .ref (b + (q + 10)), .ref (b + (q + 11)), .ref (b + (q + 12)), .ref (b + (q + 13)), .int (M q 13), .int (M q 14), .int (M q 15), .int (M q 16), .int (M q 17), .int (M q 18)] : List Value).set 15 (.int v)) := by
  rw [(cx_Heap h).2, up2_k]
  rfl
theorem cu_Heap_16 {E : xE} {b : Nat} {M : Nat → Nat → Int32} {q : Nat} {v : Int32} (h : lay q = (1, 0)) : cX E b (up2 M q 16 v) q = .inr (1, ([.ref (b + (q + 1)), .ref (b + (q + 2)), .ref (b + (q + 3)), .ref (b + (q + 4)), .ref (b + (q + 5)), .ref (b + (q + 6)), .ref (b + (q + 7)), .ref (b + (q + 8)), .ref (b + (q + 9)), .ref (b + (q + 10)), .ref (b + (q + 11)), .ref (b + (q + 12)), .ref (b + (q + 13)), .int (M q 13), .int (M q 14), .int (M q 15), .int (M q 16), .int (M q 17), .int (M q 18)] : List Value).set 16 (.int v)) := by
  rw [(cx_Heap h).2, up2_k]
  rfl
theorem cu_Heap_17 {E : xE} {b : Nat} {M : Nat → Nat → Int32} {q : Nat} {v : Int32} (h : lay q = (1, 0)) : cX E b (up2 M q 17 v) q = .inr (1, ([.ref (b + (q + 1)), .ref (b + (q + 2)), .ref (b + (q + 3)), .ref (b + (q + 4)), .ref (b + (q + 5)), .ref (b + (q + 6)), .ref (b + (q + 7)), .ref (b + (q + 8)), .ref (b + (q + 9)), .ref (b + (q + 10)), .ref (b + (q + 11)), .ref (b + (q + 12)), .ref (b + (q + 13)), .int (M q 13), .int (M q 14), .int (M q 15), .int (M q 16), .int (M q 17), .int (M q 18)] : List Value).set 17 (.int v)) := by
  rw [(cx_Heap h).2, up2_k]
  rfl
theorem cu_Heap_18 {E : xE} {b : Nat} {M : Nat → Nat → Int32} {q : Nat} {v : Int32} (h : lay q = (1, 0)) : cX E b (up2 M q 18 v) q = .inr (1, ([.ref (b + (q + 1)), .ref (b + (q + 2)), .ref (b + (q + 3)), .ref (b + (q + 4)), .ref (b + (q + 5)), .ref (b + (q + 6)), .ref (b + (q + 7)), .ref (b + (q + 8)), .ref (b + (q + 9)), .ref (b + (q + 10)), .ref (b + (q + 11)), .ref (b + (q + 12)), .ref (b + (q + 13)), .int (M q 13), .int (M q 14), .int (M q 15), .int (M q 16), .int (M q 17), .int (M q 18)] : List Value).set 18 (.int v)) := by
  rw [(cx_Heap h).2, up2_k]
  rfl
theorem cx_Law {E : xE} {b : Nat} {M : Nat → Nat → Int32} {q : Nat} (h : lay q = (2, 0)) : xat NX (cX E b M) q (.inr (2, [.ref (b + (q + 1)), .int (M q 1)])) := by
  refine ⟨lay_lt h (by show ¬ (2 = 99); decide), ?_⟩
  unfold cX
  rw [h]
  rfl
theorem cu_Law_1 {E : xE} {b : Nat} {M : Nat → Nat → Int32} {q : Nat} {v : Int32} (h : lay q = (2, 0)) : cX E b (up2 M q 1 v) q = .inr (2, ([.ref (b + (q + 1)), .int (M q 1)] : List Value).set 1 (.int v)) := by
  rw [(cx_Law h).2, up2_k]
  rfl
theorem cx_Reader {E : xE} {b : Nat} {M : Nat → Nat → Int32} {q : Nat} (h : lay q = (3, 0)) : xat NX (cX E b M) q (.inr (3, [.ref (b + (q + 1)), .ref (b + (q + 2)), .ref (b + (q + 3)), .ref (b + (q + 4)), .ref (b + (q + 5)), .int (M q 5), .int (M q 6), .int (M q 7), .int (M q 8), .int (M q 9), .int (M q 10)])) := by
  refine ⟨lay_lt h (by show ¬ (3 = 99); decide), ?_⟩
  unfold cX
  rw [h]
  rfl
theorem cu_Reader_5 {E : xE} {b : Nat} {M : Nat → Nat → Int32} {q : Nat} {v : Int32} (h : lay q = (3, 0)) : cX E b (up2 M q 5 v) q = .inr (3, ([.ref (b + (q + 1)), .ref (b + (q + 2)), .ref (b + (q + 3)), .ref (b + (q + 4)), .ref (b + (q + 5)), .int (M q 5), .int (M q 6), .int (M q 7), .int (M q 8), .int (M q 9), .int (M q 10)] : List Value).set 5 (.int v)) := by
  rw [(cx_Reader h).2, up2_k]
  rfl
theorem cu_Reader_6 {E : xE} {b : Nat} {M : Nat → Nat → Int32} {q : Nat} {v : Int32} (h : lay q = (3, 0)) : cX E b (up2 M q 6 v) q = .inr (3, ([.ref (b + (q + 1)), .ref (b + (q + 2)), .ref (b + (q + 3)), .ref (b + (q + 4)), .ref (b + (q + 5)), .int (M q 5), .int (M q 6), .int (M q 7), .int (M q 8), .int (M q 9), .int (M q 10)] : List Value).set 6 (.int v)) := by
  rw [(cx_Reader h).2, up2_k]
  rfl
theorem cu_Reader_7 {E : xE} {b : Nat} {M : Nat → Nat → Int32} {q : Nat} {v : Int32} (h : lay q = (3, 0)) : cX E b (up2 M q 7 v) q = .inr (3, ([.ref (b + (q + 1)), .ref (b + (q + 2)), .ref (b + (q + 3)), .ref (b + (q + 4)), .ref (b + (q + 5)), .int (M q 5), .int (M q 6), .int (M q 7), .int (M q 8), .int (M q 9), .int (M q 10)] : List Value).set 7 (.int v)) := by
  rw [(cx_Reader h).2, up2_k]
  rfl
theorem cu_Reader_8 {E : xE} {b : Nat} {M : Nat → Nat → Int32} {q : Nat} {v : Int32} (h : lay q = (3, 0)) : cX E b (up2 M q 8 v) q = .inr (3, ([.ref (b + (q + 1)), .ref (b + (q + 2)), .ref (b + (q + 3)), .ref (b + (q + 4)), .ref (b + (q + 5)), .int (M q 5), .int (M q 6), .int (M q 7), .int (M q 8), .int (M q 9), .int (M q 10)] : List Value).set 8 (.int v)) := by
  rw [(cx_Reader h).2, up2_k]
  rfl
theorem cu_Reader_9 {E : xE} {b : Nat} {M : Nat → Nat → Int32} {q : Nat} {v : Int32} (h : lay q = (3, 0)) : cX E b (up2 M q 9 v) q = .inr (3, ([.ref (b + (q + 1)), .ref (b + (q + 2)), .ref (b + (q + 3)), .ref (b + (q + 4)), .ref (b + (q + 5)), .int (M q 5), .int (M q 6), .int (M q 7), .int (M q 8), .int (M q 9), .int (M q 10)] : List Value).set 9 (.int v)) := by
  rw [(cx_Reader h).2, up2_k]
  rfl
theorem cu_Reader_10 {E : xE} {b : Nat} {M : Nat → Nat → Int32} {q : Nat} {v : Int32} (h : lay q = (3, 0)) : cX E b (up2 M q 10 v) q = .inr (3, ([.ref (b + (q + 1)), .ref (b + (q + 2)), .ref (b + (q + 3)), .ref (b + (q + 4)), .ref (b + (q + 5)), .int (M q 5), .int (M q 6), .int (M q 7), .int (M q 8), .int (M q 9), .int (M q 10)] : List Value).set 10 (.int v)) := by
  rw [(cx_Reader h).2, up2_k]
  rfl
theorem cx_Steps {E : xE} {b : Nat} {M : Nat → Nat → Int32} {q : Nat} (h : lay q = (4, 0)) : xat NX (cX E b M) q (.inr (4, [.ref (b + (q + 1)), .int (M q 1), .int (M q 2)])) := by
  refine ⟨lay_lt h (by show ¬ (4 = 99); decide), ?_⟩
  unfold cX
  rw [h]
  rfl
theorem cu_Steps_1 {E : xE} {b : Nat} {M : Nat → Nat → Int32} {q : Nat} {v : Int32} (h : lay q = (4, 0)) : cX E b (up2 M q 1 v) q = .inr (4, ([.ref (b + (q + 1)), .int (M q 1), .int (M q 2)] : List Value).set 1 (.int v)) := by
  rw [(cx_Steps h).2, up2_k]
  rfl
theorem cu_Steps_2 {E : xE} {b : Nat} {M : Nat → Nat → Int32} {q : Nat} {v : Int32} (h : lay q = (4, 0)) : cX E b (up2 M q 2 v) q = .inr (4, ([.ref (b + (q + 1)), .int (M q 1), .int (M q 2)] : List Value).set 2 (.int v)) := by
  rw [(cx_Steps h).2, up2_k]
  rfl
theorem cx_Survey {E : xE} {b : Nat} {M : Nat → Nat → Int32} {q : Nat} (h : lay q = (5, 0)) : xat NX (cX E b M) q (.inr (5, [.ref (b + (q + 1)), .ref (b + (q + 2)), .ref (b + (q + 3)), .int (M q 3), .int (M q 4), .int (M q 5), .int (M q 6)])) := by
  refine ⟨lay_lt h (by show ¬ (5 = 99); decide), ?_⟩
  unfold cX
  rw [h]
  rfl
theorem cu_Survey_3 {E : xE} {b : Nat} {M : Nat → Nat → Int32} {q : Nat} {v : Int32} (h : lay q = (5, 0)) : cX E b (up2 M q 3 v) q = .inr (5, ([.ref (b + (q + 1)), .ref (b + (q + 2)), .ref (b + (q + 3)), .int (M q 3), .int (M q 4), .int (M q 5), .int (M q 6)] : List Value).set 3 (.int v)) := by
  rw [(cx_Survey h).2, up2_k]
  rfl
theorem cu_Survey_4 {E : xE} {b : Nat} {M : Nat → Nat → Int32} {q : Nat} {v : Int32} (h : lay q = (5, 0)) : cX E b (up2 M q 4 v) q = .inr (5, ([.ref (b + (q + 1)), .ref (b + (q + 2)), .ref (b + (q + 3)), .int (M q 3), .int (M q 4), .int (M q 5), .int (M q 6)] : List Value).set 4 (.int v)) := by
  rw [(cx_Survey h).2, up2_k]
  rfl
theorem cu_Survey_5 {E : xE} {b : Nat} {M : Nat → Nat → Int32} {q : Nat} {v : Int32} (h : lay q = (5, 0)) : cX E b (up2 M q 5 v) q = .inr (5, ([.ref (b + (q + 1)), .ref (b + (q + 2)), .ref (b + (q + 3)), .int (M q 3), .int (M q 4), .int (M q 5), .int (M q 6)] : List Value).set 5 (.int v)) := by
  rw [(cx_Survey h).2, up2_k]
  rfl
theorem cu_Survey_6 {E : xE} {b : Nat} {M : Nat → Nat → Int32} {q : Nat} {v : Int32} (h : lay q = (5, 0)) : cX E b (up2 M q 6 v) q = .inr (5, ([.ref (b + (q + 1)), .ref (b + (q + 2)), .ref (b + (q + 3)), .int (M q 3), .int (M q 4), .int (M q 5), .int (M q 6)] : List Value).set 6 (.int v)) := by
  rw [(cx_Survey h).2, up2_k]
  rfl
theorem cx_Text {E : xE} {b : Nat} {M : Nat → Nat → Int32} {q : Nat} (h : lay q = (6, 0)) : xat NX (cX E b M) q (.inr (6, [.ref (b + (q + 1)), .ref (b + (q + 2)), .ref (b + (q + 3)), .ref (b + (q + 4)), .ref (b + (q + 5)), .ref (b + (q + 6)), .ref (b + (q + 7)), .ref (b + (q + 8)), .int (M q 8), .int (M q 9)])) := by
  refine ⟨lay_lt h (by show ¬ (6 = 99); decide), ?_⟩
  unfold cX
  rw [h]
  rfl
theorem cu_Text_8 {E : xE} {b : Nat} {M : Nat → Nat → Int32} {q : Nat} {v : Int32} (h : lay q = (6, 0)) : cX E b (up2 M q 8 v) q = .inr (6, ([.ref (b + (q + 1)), .ref (b + (q + 2)), .ref (b + (q + 3)), .ref (b + (q + 4)), .ref (b + (q + 5)), .ref (b + (q + 6)), .ref (b + (q + 7)), .ref (b + (q + 8)), .int (M q 8), .int (M q 9)] : List Value).set 8 (.int v)) := by
  rw [(cx_Text h).2, up2_k]
  rfl
theorem cu_Text_9 {E : xE} {b : Nat} {M : Nat → Nat → Int32} {q : Nat} {v : Int32} (h : lay q = (6, 0)) : cX E b (up2 M q 9 v) q = .inr (6, ([.ref (b + (q + 1)), .ref (b + (q + 2)), .ref (b + (q + 3)), .ref (b + (q + 4)), .ref (b + (q + 5)), .ref (b + (q + 6)), .ref (b + (q + 7)), .ref (b + (q + 8)), .int (M q 8), .int (M q 9)] : List Value).set 9 (.int v)) := by
  rw [(cx_Text h).2, up2_k]
  rfl
theorem cx_Told {E : xE} {b : Nat} {M : Nat → Nat → Int32} {q : Nat} (h : lay q = (7, 0)) : xat NX (cX E b M) q (.inr (7, [.ref (b + (q + 1)), .ref (b + (q + 2)), .int (M q 2), .int (M q 3), .int (M q 4)])) := by
  refine ⟨lay_lt h (by show ¬ (7 = 99); decide), ?_⟩
  unfold cX
  rw [h]
  rfl
theorem cu_Told_2 {E : xE} {b : Nat} {M : Nat → Nat → Int32} {q : Nat} {v : Int32} (h : lay q = (7, 0)) : cX E b (up2 M q 2 v) q = .inr (7, ([.ref (b + (q + 1)), .ref (b + (q + 2)), .int (M q 2), .int (M q 3), .int (M q 4)] : List Value).set 2 (.int v)) := by
  rw [(cx_Told h).2, up2_k]
  rfl
theorem cu_Told_3 {E : xE} {b : Nat} {M : Nat → Nat → Int32} {q : Nat} {v : Int32} (h : lay q = (7, 0)) : cX E b (up2 M q 3 v) q = .inr (7, ([.ref (b + (q + 1)), .ref (b + (q + 2)), .int (M q 2), .int (M q 3), .int (M q 4)] : List Value).set 3 (.int v)) := by
  rw [(cx_Told h).2, up2_k]
  rfl
theorem cu_Told_4 {E : xE} {b : Nat} {M : Nat → Nat → Int32} {q : Nat} {v : Int32} (h : lay q = (7, 0)) : cX E b (up2 M q 4 v) q = .inr (7, ([.ref (b + (q + 1)), .ref (b + (q + 2)), .int (M q 2), .int (M q 3), .int (M q 4)] : List Value).set 4 (.int v)) := by
  rw [(cx_Told h).2, up2_k]
  rfl
theorem cx_ColouredHeap {E : xE} {b : Nat} {M : Nat → Nat → Int32} {q : Nat} (h : lay q = (8, 0)) : xat NX (cX E b M) q (.inr (8, [.ref (b + 1), .ref (b + 16), .ref (b + 483), .ref (b + 486), .ref (b + 501), .ref (b + 968), .ref (b + 971), .ref (b + 986), .ref (b + 990), .ref (b + 1004), .ref (b + 1006)])) := by
  refine ⟨lay_lt h (by show ¬ (8 = 99); decide), ?_⟩
  unfold cX
  rw [h]
  rfl
theorem cx_H {E : xE} {b : Nat} {M : Nat → Nat → Int32} {q n : Nat} (h : lay q = (13, n)) : xat NX (cX E b M) q (.inl (E.2 3, n, .inr (.inr (.inr (.inr (fun i => some (b + (q + (1 + 15 * i))))))))) := by
  refine ⟨lay_lt h (by show ¬ (13 = 99); decide), ?_⟩
  unfold cX
  rw [h]
  rfl
theorem cx_T {E : xE} {b : Nat} {M : Nat → Nat → Int32} {q n : Nat} (h : lay q = (14, n)) : xat NX (cX E b M) q (.inl (E.2 4, n, .inr (.inr (.inr (.inr (fun i => some (b + (q + (1 + 9 * i))))))))) := by
  refine ⟨lay_lt h (by show ¬ (14 = 99); decide), ?_⟩
  unfold cX
  rw [h]
  rfl
theorem lat_sub {q d : Nat} {pat sub : List (Nat × Nat)} (h : lat q pat) (hs : ∀ (j : Nat) (x : Nat × Nat), sub[j]? = some x → pat[d + j]? = some x) : lat (q + d) sub := by
  intro j x hx
  rw [Nat.add_assoc]
  exact h (d + j) x (hs j x hx)
def subB (d : Nat) (pat sub : List (Nat × Nat)) : Bool := (List.range sub.length).all (fun j => decide (pat[d + j]? = sub[j]?))
theorem lat_subB {q d : Nat} {pat sub : List (Nat × Nat)} (h : lat q pat) (hs : subB d pat sub = true) : lat (q + d) sub := by
  refine lat_sub h (fun j x hx => ?_)
  have hj : j < sub.length := by
    rcases Nat.lt_or_ge j sub.length with h1 | h1
    · exact h1
    · rw [List.getElem?_eq_none h1] at hx; cases hx
  have h2 := List.all_eq_true.mp hs j (List.mem_range.mpr hj)
  rw [decide_eq_true_eq] at h2
  rw [h2, hx]
theorem lat_book {q : Nat} (h : lat q pHeap) : lat (q + 13) pBook := lat_subB h (by decide +kernel)
theorem lat_draft {q : Nat} (h : lat q pReader) : lat (q + 5) pText := lat_subB h (by decide +kernel)
theorem lat_row {q i : Nat} (h : lat q pSteps) (hi : i < 31) : lat (q + (1 + (1 + 15 * i))) pHeap := by
  refine lat_subB h ?_
  have h2 : ∀ i, i < 31 → subB (1 + (1 + 15 * i)) pSteps pHeap = true := by decide +kernel
  exact h2 i hi
theorem lat_text {q i : Nat} (h : lat q pTexts) (hi : i < 4) : lat (q + (1 + 9 * i)) pText := by
  refine lat_subB h ?_
  have h2 : ∀ i, i < 4 → subB (1 + 9 * i) pTexts pText = true := by decide +kernel
  exact h2 i hi
theorem LX_heap : lat 1 pHeap := lat_of (by decide +kernel)
theorem LX_steps : lat 16 pSteps := lat_of (by decide +kernel)
theorem LX_told : lat 483 pTold := lat_of (by decide +kernel)
theorem LX_imageHeap : lat 486 pHeap := lat_of (by decide +kernel)
theorem LX_imageSteps : lat 501 pSteps := lat_of (by decide +kernel)
theorem LX_imageTold : lat 968 pTold := lat_of (by decide +kernel)
theorem LX_trial : lat 971 pHeap := lat_of (by decide +kernel)
theorem LX_survey : lat 986 pSurvey := lat_of (by decide +kernel)
theorem LX_reader : lat 990 pReader := lat_of (by decide +kernel)
theorem LX_law : lat 1004 pLaw := lat_of (by decide +kernel)
theorem LX_texts : lat 1006 pTexts := lat_of (by decide +kernel)
theorem LX_top : lay 0 = (8, 0) := by decide +kernel
/-! the reference's cells -/
abbrev NY : Nat := 13
def cY (E : xE) (b : Nat) (M : Nat → Nat → Int32) (L : Nat → Nat → Int64) (q : Nat) : va_E := if q = 0 then .inr (9, [.ref (b + 1), .ref (b + 2), .ref (b + 3), .ref (b + 4), .int (M q 4), .int (M q 5), .int (M q 6), .int (M q 7), .int (M q 8), .int (M q 9), .int (M q 10), .long (L q 11), .int (M q 12), .int (M q 13), .int (M q 14), .ref (b + 5), .int (M q 16), .int (M q 17), .int (M q 18), .int (M q 19), .ref (b + 6), .ref (b + 7), .ref (b + 8), .ref (b + 9), .ref (b + 10), .ref (b + 11), .ref (b + 12)])
  else if q = 1 then .inl (E.2 0, 9878, .inl (M q))
  else if q = 2 then .inl (E.2 0, 9878, .inl (M q))
  else if q = 3 then .inl (E.2 0, 2820, .inl (M q))
  else if q = 4 then .inl (E.2 0, 300, .inl (M q))
  else if q = 5 then .inl (E.2 0, 160, .inl (M q))
  else if q = 6 then .inl (E.2 0, 8, .inl (M q))
  else if q = 7 then .inl (E.2 1, 330, .inr (.inl (L q)))
  else if q = 8 then .inl (E.2 2, 330, .inl (M q))
  else if q = 9 then .inl (E.2 0, 318, .inl (M q))
  else if q = 10 then .inl (E.2 0, 64, .inl (M q))
  else if q = 11 then .inl (E.2 0, 5, .inl (M q))
  else .inl (E.2 2, 64, .inl (M q))
theorem cY_o {E : xE} {b : Nat} {M : Nat → Nat → Int32} {L : Nat → Nat → Int64} {k i : Nat} {v : Int32} : ∀ q, q ≠ k → cY E b (up2 M k i v) L q = cY E b M L q := by
  intro q h
  unfold cY
  rw [up2_o h]
theorem cY_oL {E : xE} {b : Nat} {M : Nat → Nat → Int32} {L : Nat → Nat → Int64} {k i : Nat} {v : Int64} : ∀ q, q ≠ k → cY E b M (up2 L k i v) q = cY E b M L q := by
  intro q h
  unfold cY
  rw [up2_o h]
theorem cy_0 {E : xE} {b : Nat} {M : Nat → Nat → Int32} {L : Nat → Nat → Int64} : xat NY (cY E b M L) 0 (.inr (9, [.ref (b + 1), .ref (b + 2), .ref (b + 3), .ref (b + 4), .int (M 0 4), .int (M 0 5), .int (M 0 6), .int (M 0 7), .int (M 0 8), .int (M 0 9), .int (M 0 10), .long (L 0 11), .int (M 0 12), .int (M 0 13), .int (M 0 14), .ref (b + 5), .int (M 0 16), .int (M 0 17), .int (M 0 18), .int (M 0 19), .ref (b + 6), .ref (b + 7), .ref (b + 8), .ref (b + 9), .ref (b + 10), .ref (b + 11), .ref (b + 12)])) := ⟨by decide, rfl⟩
theorem cy_1 {E : xE} {b : Nat} {M : Nat → Nat → Int32} {L : Nat → Nat → Int64} : xat NY (cY E b M L) 1 (.inl (E.2 0, 9878, .inl (M 1))) := ⟨by decide, rfl⟩
theorem cy_2 {E : xE} {b : Nat} {M : Nat → Nat → Int32} {L : Nat → Nat → Int64} : xat NY (cY E b M L) 2 (.inl (E.2 0, 9878, .inl (M 2))) := ⟨by decide, rfl⟩
theorem cy_3 {E : xE} {b : Nat} {M : Nat → Nat → Int32} {L : Nat → Nat → Int64} : xat NY (cY E b M L) 3 (.inl (E.2 0, 2820, .inl (M 3))) := ⟨by decide, rfl⟩
theorem cy_4 {E : xE} {b : Nat} {M : Nat → Nat → Int32} {L : Nat → Nat → Int64} : xat NY (cY E b M L) 4 (.inl (E.2 0, 300, .inl (M 4))) := ⟨by decide, rfl⟩
theorem cy_5 {E : xE} {b : Nat} {M : Nat → Nat → Int32} {L : Nat → Nat → Int64} : xat NY (cY E b M L) 5 (.inl (E.2 0, 160, .inl (M 5))) := ⟨by decide, rfl⟩
theorem cy_6 {E : xE} {b : Nat} {M : Nat → Nat → Int32} {L : Nat → Nat → Int64} : xat NY (cY E b M L) 6 (.inl (E.2 0, 8, .inl (M 6))) := ⟨by decide, rfl⟩
theorem cy_7 {E : xE} {b : Nat} {M : Nat → Nat → Int32} {L : Nat → Nat → Int64} : xat NY (cY E b M L) 7 (.inl (E.2 1, 330, .inr (.inl (L 7)))) := ⟨by decide, rfl⟩
theorem cy_8 {E : xE} {b : Nat} {M : Nat → Nat → Int32} {L : Nat → Nat → Int64} : xat NY (cY E b M L) 8 (.inl (E.2 2, 330, .inl (M 8))) := ⟨by decide, rfl⟩
theorem cy_9 {E : xE} {b : Nat} {M : Nat → Nat → Int32} {L : Nat → Nat → Int64} : xat NY (cY E b M L) 9 (.inl (E.2 0, 318, .inl (M 9))) := ⟨by decide, rfl⟩
theorem cy_10 {E : xE} {b : Nat} {M : Nat → Nat → Int32} {L : Nat → Nat → Int64} : xat NY (cY E b M L) 10 (.inl (E.2 0, 64, .inl (M 10))) := ⟨by decide, rfl⟩
theorem cy_11 {E : xE} {b : Nat} {M : Nat → Nat → Int32} {L : Nat → Nat → Int64} : xat NY (cY E b M L) 11 (.inl (E.2 0, 5, .inl (M 11))) := ⟨by decide, rfl⟩
theorem cy_12 {E : xE} {b : Nat} {M : Nat → Nat → Int32} {L : Nat → Nat → Int64} : xat NY (cY E b M L) 12 (.inl (E.2 2, 64, .inl (M 12))) := ⟨by decide, rfl⟩
theorem cyu_1 {E : xE} {b i : Nat} {M : Nat → Nat → Int32} {L : Nat → Nat → Int64} {v : Int32} : cY E b (up2 M 1 i v) L 1 = .inl (E.2 0, 9878, .inl (upd (M 1) i v)) := rfl
theorem cyu_2 {E : xE} {b i : Nat} {M : Nat → Nat → Int32} {L : Nat → Nat → Int64} {v : Int32} : cY E b (up2 M 2 i v) L 2 = .inl (E.2 0, 9878, .inl (upd (M 2) i v)) := rfl
theorem cyu_3 {E : xE} {b i : Nat} {M : Nat → Nat → Int32} {L : Nat → Nat → Int64} {v : Int32} : cY E b (up2 M 3 i v) L 3 = .inl (E.2 0, 2820, .inl (upd (M 3) i v)) := rfl
theorem cyu_4 {E : xE} {b i : Nat} {M : Nat → Nat → Int32} {L : Nat → Nat → Int64} {v : Int32} : cY E b (up2 M 4 i v) L 4 = .inl (E.2 0, 300, .inl (upd (M 4) i v)) := rfl
theorem cyu_5 {E : xE} {b i : Nat} {M : Nat → Nat → Int32} {L : Nat → Nat → Int64} {v : Int32} : cY E b (up2 M 5 i v) L 5 = .inl (E.2 0, 160, .inl (upd (M 5) i v)) := rfl
theorem cyu_6 {E : xE} {b i : Nat} {M : Nat → Nat → Int32} {L : Nat → Nat → Int64} {v : Int32} : cY E b (up2 M 6 i v) L 6 = .inl (E.2 0, 8, .inl (upd (M 6) i v)) := rfl
theorem cyu_7 {E : xE} {b i : Nat} {M : Nat → Nat → Int32} {L : Nat → Nat → Int64} {v : Int64} : cY E b M (up2 L 7 i v) 7 = .inl (E.2 1, 330, .inr (.inl (vp_updL (L 7) i v))) := rfl
theorem cyu_8 {E : xE} {b i : Nat} {M : Nat → Nat → Int32} {L : Nat → Nat → Int64} {v : Int32} : cY E b (up2 M 8 i v) L 8 = .inl (E.2 2, 330, .inl (upd (M 8) i v)) := rfl
theorem cyu_9 {E : xE} {b i : Nat} {M : Nat → Nat → Int32} {L : Nat → Nat → Int64} {v : Int32} : cY E b (up2 M 9 i v) L 9 = .inl (E.2 0, 318, .inl (upd (M 9) i v)) := rfl
theorem cyu_10 {E : xE} {b i : Nat} {M : Nat → Nat → Int32} {L : Nat → Nat → Int64} {v : Int32} : cY E b (up2 M 10 i v) L 10 = .inl (E.2 0, 64, .inl (upd (M 10) i v)) := rfl
theorem cyu_11 {E : xE} {b i : Nat} {M : Nat → Nat → Int32} {L : Nat → Nat → Int64} {v : Int32} : cY E b (up2 M 11 i v) L 11 = .inl (E.2 0, 5, .inl (upd (M 11) i v)) := rfl
theorem cyu_12 {E : xE} {b i : Nat} {M : Nat → Nat → Int32} {L : Nat → Nat → Int64} {v : Int32} : cY E b (up2 M 12 i v) L 12 = .inl (E.2 2, 64, .inl (upd (M 12) i v)) := rfl
theorem cyf_4 {E : xE} {b : Nat} {M : Nat → Nat → Int32} {L : Nat → Nat → Int64} {v : Int32} : cY E b (up2 M 0 4 v) L 0 = .inr (9, ([.ref (b + 1), .ref (b + 2), .ref (b + 3), .ref (b + 4), .int (M 0 4), .int (M 0 5), .int (M 0 6), .int (M 0 7), .int (M 0 8), .int (M 0 9), .int (M 0 10), .long (L 0 11), .int (M 0 12), .int (M 0 13), .int (M 0 14), .ref (b + 5), .int (M 0 16), .int (M 0 17), .int (M 0 18), .int (M 0 19), .ref (b + 6), .ref (b + 7), .ref (b + 8), .ref (b + 9), .ref (b + 10), .ref (b + 11), .ref (b + 12)] : List Value).set 4 (.int v)) := rfl
theorem cyf_5 {E : xE} {b : Nat} {M : Nat → Nat → Int32} {L : Nat → Nat → Int64} {v : Int32} : cY E b (up2 M 0 5 v) L 0 = .inr (9, ([.ref (b + 1), .ref (b + 2), .ref (b + 3), .ref (b + 4), .int (M 0 4), .int (M 0 5), .int (M 0 6), .int (M 0 7), .int (M 0 8), .int (M 0 9), .int (M 0 10), .long (L 0 11), .int (M 0 12), .int (M 0 13), .int (M 0 14), .ref (b + 5), .int (M 0 16), .int (M 0 17), .int (M 0 18), .int (M 0 19), .ref (b + 6), .ref (b + 7), .ref (b + 8), .ref (b + 9), .ref (b + 10), .ref (b + 11), .ref (b + 12)] : List Value).set 5 (.int v)) := rfl
theorem cyf_6 {E : xE} {b : Nat} {M : Nat → Nat → Int32} {L : Nat → Nat → Int64} {v : Int32} : cY E b (up2 M 0 6 v) L 0 = .inr (9, ([.ref (b + 1), .ref (b + 2), .ref (b + 3), .ref (b + 4), .int (M 0 4), .int (M 0 5), .int (M 0 6), .int (M 0 7), .int (M 0 8), .int (M 0 9), .int (M 0 10), .long (L 0 11), .int (M 0 12), .int (M 0 13), .int (M 0 14), .ref (b + 5), .int (M 0 16), .int (M 0 17), .int (M 0 18), .int (M 0 19), .ref (b + 6), .ref (b + 7), .ref (b + 8), .ref (b + 9), .ref (b + 10), .ref (b + 11), .ref (b + 12)] : List Value).set 6 (.int v)) := rfl
theorem cyf_7 {E : xE} {b : Nat} {M : Nat → Nat → Int32} {L : Nat → Nat → Int64} {v : Int32} : cY E b (up2 M 0 7 v) L 0 = .inr (9, ([.ref (b + 1), .ref (b + 2), .ref (b + 3), .ref (b + 4), .int (M 0 4), .int (M 0 5), .int (M 0 6), .int (M 0 7), .int (M 0 8), .int (M 0 9), .int (M 0 10), .long (L 0 11), .int (M 0 12), .int (M 0 13), .int (M 0 14), .ref (b + 5), .int (M 0 16), .int (M 0 17), .int (M 0 18), .int (M 0 19), .ref (b + 6), .ref (b + 7), .ref (b + 8), .ref (b + 9), .ref (b + 10), .ref (b + 11), .ref (b + 12)] : List Value).set 7 (.int v)) := rfl
theorem cyf_8 {E : xE} {b : Nat} {M : Nat → Nat → Int32} {L : Nat → Nat → Int64} {v : Int32} : cY E b (up2 M 0 8 v) L 0 = .inr (9, ([.ref (b + 1), .ref (b + 2), .ref (b + 3), .ref (b + 4), .int (M 0 4), .int (M 0 5), .int (M 0 6), .int (M 0 7), .int (M 0 8), .int (M 0 9), .int (M 0 10), .long (L 0 11), .int (M 0 12), .int (M 0 13), .int (M 0 14), .ref (b + 5), .int (M 0 16), .int (M 0 17), .int (M 0 18), .int (M 0 19), .ref (b + 6), .ref (b + 7), .ref (b + 8), .ref (b + 9), .ref (b + 10), .ref (b + 11), .ref (b + 12)] : List Value).set 8 (.int v)) := rfl
theorem cyf_9 {E : xE} {b : Nat} {M : Nat → Nat → Int32} {L : Nat → Nat → Int64} {v : Int32} : cY E b (up2 M 0 9 v) L 0 = .inr (9, ([.ref (b + 1), .ref (b + 2), .ref (b + 3), .ref (b + 4), .int (M 0 4), .int (M 0 5), .int (M 0 6), .int (M 0 7), .int (M 0 8), .int (M 0 9), .int (M 0 10), .long (L 0 11), .int (M 0 12), .int (M 0 13), .int (M 0 14), .ref (b + 5), .int (M 0 16), .int (M 0 17), .int (M 0 18), .int (M 0 19), .ref (b + 6), .ref (b + 7), .ref (b + 8), .ref (b + 9), .ref (b + 10), .ref (b + 11), .ref (b + 12)] : List Value).set 9 (.int v)) := rfl
theorem cyf_10 {E : xE} {b : Nat} {M : Nat → Nat → Int32} {L : Nat → Nat → Int64} {v : Int32} : cY E b (up2 M 0 10 v) L 0 = .inr (9, ([.ref (b + 1), .ref (b + 2), .ref (b + 3), .ref (b + 4), .int (M 0 4), .int (M 0 5), .int (M 0 6), .int (M 0 7), .int (M 0 8), .int (M 0 9), .int (M 0 10), .long (L 0 11), .int (M 0 12), .int (M 0 13), .int (M 0 14), .ref (b + 5), .int (M 0 16), .int (M 0 17), .int (M 0 18), .int (M 0 19), .ref (b + 6), .ref (b + 7), .ref (b + 8), .ref (b + 9), .ref (b + 10), .ref (b + 11), .ref (b + 12)] : List Value).set 10 (.int v)) := rfl
theorem cyf_11 {E : xE} {b : Nat} {M : Nat → Nat → Int32} {L : Nat → Nat → Int64} {v : Int64} : cY E b M (up2 L 0 11 v) 0 = .inr (9, ([.ref (b + 1), .ref (b + 2), .ref (b + 3), .ref (b + 4), .int (M 0 4), .int (M 0 5), .int (M 0 6), .int (M 0 7), .int (M 0 8), .int (M 0 9), .int (M 0 10), .long (L 0 11), .int (M 0 12), .int (M 0 13), .int (M 0 14), .ref (b + 5), .int (M 0 16), .int (M 0 17), .int (M 0 18), .int (M 0 19), .ref (b + 6), .ref (b + 7), .ref (b + 8), .ref (b + 9), .ref (b + 10), .ref (b + 11), .ref (b + 12)] : List Value).set 11 (.long v)) := rfl
theorem cyf_12 {E : xE} {b : Nat} {M : Nat → Nat → Int32} {L : Nat → Nat → Int64} {v : Int32} : cY E b (up2 M 0 12 v) L 0 = .inr (9, ([.ref (b + 1), .ref (b + 2), .ref (b + 3), .ref (b + 4), .int (M 0 4), .int (M 0 5), .int (M 0 6), .int (M 0 7), .int (M 0 8), .int (M 0 9), .int (M 0 10), .long (L 0 11), .int (M 0 12), .int (M 0 13), .int (M 0 14), .ref (b + 5), .int (M 0 16), .int (M 0 17), .int (M 0 18), .int (M 0 19), .ref (b + 6), .ref (b + 7), .ref (b + 8), .ref (b + 9), .ref (b + 10), .ref (b + 11), .ref (b + 12)] : List Value).set 12 (.int v)) := rfl
theorem cyf_13 {E : xE} {b : Nat} {M : Nat → Nat → Int32} {L : Nat → Nat → Int64} {v : Int32} : cY E b (up2 M 0 13 v) L 0 = .inr (9, ([.ref (b + 1), .ref (b + 2), .ref (b + 3), .ref (b + 4), .int (M 0 4), .int (M 0 5), .int (M 0 6), .int (M 0 7), .int (M 0 8), .int (M 0 9), .int (M 0 10), .long (L 0 11), .int (M 0 12), .int (M 0 13), .int (M 0 14), .ref (b + 5), .int (M 0 16), .int (M 0 17), .int (M 0 18), .int (M 0 19), .ref (b + 6), .ref (b + 7), .ref (b + 8), .ref (b + 9), .ref (b + 10), .ref (b + 11), .ref (b + 12)] : List Value).set 13 (.int v)) := rfl
theorem cyf_14 {E : xE} {b : Nat} {M : Nat → Nat → Int32} {L : Nat → Nat → Int64} {v : Int32} : cY E b (up2 M 0 14 v) L 0 = .inr (9, ([.ref (b + 1), .ref (b + 2), .ref (b + 3), .ref (b + 4), .int (M 0 4), .int (M 0 5), .int (M 0 6), .int (M 0 7), .int (M 0 8), .int (M 0 9), .int (M 0 10), .long (L 0 11), .int (M 0 12), .int (M 0 13), .int (M 0 14), .ref (b + 5), .int (M 0 16), .int (M 0 17), .int (M 0 18), .int (M 0 19), .ref (b + 6), .ref (b + 7), .ref (b + 8), .ref (b + 9), .ref (b + 10), .ref (b + 11), .ref (b + 12)] : List Value).set 14 (.int v)) := rfl
theorem cyf_16 {E : xE} {b : Nat} {M : Nat → Nat → Int32} {L : Nat → Nat → Int64} {v : Int32} : cY E b (up2 M 0 16 v) L 0 = .inr (9, ([.ref (b + 1), .ref (b + 2), .ref (b + 3), .ref (b + 4), .int (M 0 4), .int (M 0 5), .int (M 0 6), .int (M 0 7), .int (M 0 8), .int (M 0 9), .int (M 0 10), .long (L 0 11), .int (M 0 12), .int (M 0 13), .int (M 0 14), .ref (b + 5), .int (M 0 16), .int (M 0 17), .int (M 0 18), .int (M 0 19), .ref (b + 6), .ref (b + 7), .ref (b + 8), .ref (b + 9), .ref (b + 10), .ref (b + 11), .ref (b + 12)] : List Value).set 16 (.int v)) := rfl
theorem cyf_17 {E : xE} {b : Nat} {M : Nat → Nat → Int32} {L : Nat → Nat → Int64} {v : Int32} : cY E b (up2 M 0 17 v) L 0 = .inr (9, ([.ref (b + 1), .ref (b + 2), .ref (b + 3), .ref (b + 4), .int (M 0 4), .int (M 0 5), .int (M 0 6), .int (M 0 7), .int (M 0 8), .int (M 0 9), .int (M 0 10), .long (L 0 11), .int (M 0 12), .int (M 0 13), .int (M 0 14), .ref (b + 5), .int (M 0 16), .int (M 0 17), .int (M 0 18), .int (M 0 19), .ref (b + 6), .ref (b + 7), .ref (b + 8), .ref (b + 9), .ref (b + 10), .ref (b + 11), .ref (b + 12)] : List Value).set 17 (.int v)) := rfl
theorem cyf_18 {E : xE} {b : Nat} {M : Nat → Nat → Int32} {L : Nat → Nat → Int64} {v : Int32} : cY E b (up2 M 0 18 v) L 0 = .inr (9, ([.ref (b + 1), .ref (b + 2), .ref (b + 3), .ref (b + 4), .int (M 0 4), .int (M 0 5), .int (M 0 6), .int (M 0 7), .int (M 0 8), .int (M 0 9), .int (M 0 10), .long (L 0 11), .int (M 0 12), .int (M 0 13), .int (M 0 14), .ref (b + 5), .int (M 0 16), .int (M 0 17), .int (M 0 18), .int (M 0 19), .ref (b + 6), .ref (b + 7), .ref (b + 8), .ref (b + 9), .ref (b + 10), .ref (b + 11), .ref (b + 12)] : List Value).set 18 (.int v)) := rfl
theorem cyf_19 {E : xE} {b : Nat} {M : Nat → Nat → Int32} {L : Nat → Nat → Int64} {v : Int32} : cY E b (up2 M 0 19 v) L 0 = .inr (9, ([.ref (b + 1), .ref (b + 2), .ref (b + 3), .ref (b + 4), .int (M 0 4), .int (M 0 5), .int (M 0 6), .int (M 0 7), .int (M 0 8), .int (M 0 9), .int (M 0 10), .long (L 0 11), .int (M 0 12), .int (M 0 13), .int (M 0 14), .ref (b + 5), .int (M 0 16), .int (M 0 17), .int (M 0 18), .int (M 0 19), .ref (b + 6), .ref (b + 7), .ref (b + 8), .ref (b + 9), .ref (b + 10), .ref (b + 11), .ref (b + 12)] : List Value).set 19 (.int v)) := rfl
theorem cc_o {E : xE} {b : Nat} {M : xm} {k0 k1 n : Nat} : ∀ q, q ≠ k1 → cX E b (xcopy M k0 k1 n) q = cX E b M q := by
  intro q h
  unfold cX
  rw [show xcopy M k0 k1 n q = M q from if_neg h]
theorem cc_I {E : xE} {b : Nat} {M : xm} {q0 q n j : Nat} (h : lay q = (10, n)) : cX E b (xcopy M q0 q j) q = .inl (E.2 0, n, .inl (va_cpy (M q0) (M q) 0 0 j)) := by
  rw [(cx_I h).2, show xcopy M q0 q j q = va_cpy (M q0) (M q) 0 0 j from if_pos rfl]
theorem lat_rowE {q i : Nat} (h : lat q pSteps) (hi : i < 31) : lat (q + 1 + (1 + 15 * i)) pHeap := by
  rw [Nat.add_assoc]
  exact lat_row h hi
/-- an array of the reference's by its number -/
def aY (k n : Nat) : Prop := ∀ (E : xE) (b : Nat) (M : xm) (L : xn), xat NY (cY E b M L) k (.inl (E.2 0, n, .inl (M k))) ∧ ∀ (i : Nat) (v : Int32), cY E b (up2 M k i v) L k = .inl (E.2 0, n, .inl (upd (M k) i v))
theorem aY_1 : aY 1 9878 := fun _ _ _ _ => ⟨cy_1, fun _ _ => cyu_1⟩
theorem aY_2 : aY 2 9878 := fun _ _ _ _ => ⟨cy_2, fun _ _ => cyu_2⟩
theorem u_all {C : String} {T : u_T} {N : Nat} (h : ∀ k, k < N → u_lay C T k ∈ TB) : ∀ w ∈ u_ws C T N, w ∈ TB := by
  intro w hw
  obtain ⟨k, hk, rfl⟩ := List.mem_map.mp hw
  exact h k (List.mem_range.mp hk)
theorem inX0_0 : u_lay RX0 TX0 0 ∈ TB := tb_in 172 (by decide +kernel) rfl
theorem inX0_1 : u_lay RX0 TX0 1 ∈ TB := tb_in 174 (by decide +kernel) rfl
theorem inX0_2 : u_lay RX0 TX0 2 ∈ TB := tb_in 176 (by decide +kernel) rfl
theorem inX0 : ∀ w ∈ u_ws RX0 TX0 3, w ∈ TB := u_all (fun k hk => match k, hk with
  | 0, _ => inX0_0
  | 1, _ => inX0_1
  | 2, _ => inX0_2
  | (k + 3), hk => absurd hk (by omega))
theorem inX1_0 : u_lay RX1 TX1 0 ∈ TB := tb_in 226 (by decide +kernel) rfl
theorem inX1_1 : u_lay RX1 TX1 1 ∈ TB := tb_in 228 (by decide +kernel) rfl
theorem inX1_2 : u_lay RX1 TX1 2 ∈ TB := tb_in 230 (by decide +kernel) rfl
theorem inX1_3 : u_lay RX1 TX1 3 ∈ TB := tb_in 232 (by decide +kernel) rfl
theorem inX1_4 : u_lay RX1 TX1 4 ∈ TB := tb_in 234 (by decide +kernel) rfl
theorem inX1_5 : u_lay RX1 TX1 5 ∈ TB := tb_in 236 (by decide +kernel) rfl
theorem inX1_6 : u_lay RX1 TX1 6 ∈ TB := tb_in 238 (by decide +kernel) rfl
theorem inX1_7 : u_lay RX1 TX1 7 ∈ TB := tb_in 240 (by decide +kernel) rfl
theorem inX1_8 : u_lay RX1 TX1 8 ∈ TB := tb_in 242 (by decide +kernel) rfl
theorem inX1_9 : u_lay RX1 TX1 9 ∈ TB := tb_in 244 (by decide +kernel) rfl
theorem inX1_10 : u_lay RX1 TX1 10 ∈ TB := tb_in 246 (by decide +kernel) rfl
theorem inX1_11 : u_lay RX1 TX1 11 ∈ TB := tb_in 248 (by decide +kernel) rfl
theorem inX1_12 : u_lay RX1 TX1 12 ∈ TB := tb_in 250 (by decide +kernel) rfl
theorem inX1_13 : u_lay RX1 TX1 13 ∈ TB := tb_in 252 (by decide +kernel) rfl
theorem inX1_14 : u_lay RX1 TX1 14 ∈ TB := tb_in 254 (by decide +kernel) rfl
theorem inX1_15 : u_lay RX1 TX1 15 ∈ TB := tb_in 256 (by decide +kernel) rfl
theorem inX1_16 : u_lay RX1 TX1 16 ∈ TB := tb_in 258 (by decide +kernel) rfl
theorem inX1_17 : u_lay RX1 TX1 17 ∈ TB := tb_in 260 (by decide +kernel) rfl
theorem inX1_18 : u_lay RX1 TX1 18 ∈ TB := tb_in 262 (by decide +kernel) rfl
theorem inX1 : ∀ w ∈ u_ws RX1 TX1 19, w ∈ TB := u_all (fun k hk => match k, hk with
  | 0, _ => inX1_0
  | 1, _ => inX1_1
  | 2, _ => inX1_2
  | 3, _ => inX1_3
  | 4, _ => inX1_4
  | 5, _ => inX1_5
  | 6, _ => inX1_6
  | 7, _ => inX1_7
  | 8, _ => inX1_8
  | 9, _ => inX1_9
  | 10, _ => inX1_10
  | 11, _ => inX1_11
  | 12, _ => inX1_12
  | 13, _ => inX1_13
  | 14, _ => inX1_14
  | 15, _ => inX1_15
  | 16, _ => inX1_16
  | 17, _ => inX1_17
  | 18, _ => inX1_18
  | (k + 19), hk => absurd hk (by omega))
theorem inX3_0 : u_lay RX3 TX3 0 ∈ TB := tb_in 447 (by decide +kernel) rfl
theorem inX3_1 : u_lay RX3 TX3 1 ∈ TB := tb_in 449 (by decide +kernel) rfl
theorem inX3 : ∀ w ∈ u_ws RX3 TX3 2, w ∈ TB := u_all (fun k hk => match k, hk with
  | 0, _ => inX3_0
  | 1, _ => inX3_1
  | (k + 2), hk => absurd hk (by omega))
theorem inX4_0 : u_lay RX4 TX4 0 ∈ TB := tb_in 416 (by decide +kernel) rfl
theorem inX4_1 : u_lay RX4 TX4 1 ∈ TB := tb_in 418 (by decide +kernel) rfl
theorem inX4_2 : u_lay RX4 TX4 2 ∈ TB := tb_in 420 (by decide +kernel) rfl
theorem inX4_3 : u_lay RX4 TX4 3 ∈ TB := tb_in 422 (by decide +kernel) rfl
theorem inX4_4 : u_lay RX4 TX4 4 ∈ TB := tb_in 424 (by decide +kernel) rfl
theorem inX4_5 : u_lay RX4 TX4 5 ∈ TB := tb_in 426 (by decide +kernel) rfl
theorem inX4_6 : u_lay RX4 TX4 6 ∈ TB := tb_in 428 (by decide +kernel) rfl
theorem inX4_7 : u_lay RX4 TX4 7 ∈ TB := tb_in 430 (by decide +kernel) rfl
theorem inX4_8 : u_lay RX4 TX4 8 ∈ TB := tb_in 432 (by decide +kernel) rfl
theorem inX4_9 : u_lay RX4 TX4 9 ∈ TB := tb_in 434 (by decide +kernel) rfl
theorem inX4_10 : u_lay RX4 TX4 10 ∈ TB := tb_in 436 (by decide +kernel) rfl
theorem inX4 : ∀ w ∈ u_ws RX4 TX4 11, w ∈ TB := u_all (fun k hk => match k, hk with
  | 0, _ => inX4_0
  | 1, _ => inX4_1
  | 2, _ => inX4_2
  | 3, _ => inX4_3
  | 4, _ => inX4_4
  | 5, _ => inX4_5
  | 6, _ => inX4_6
  | 7, _ => inX4_7
  | 8, _ => inX4_8
  | 9, _ => inX4_9
  | 10, _ => inX4_10
  | (k + 11), hk => absurd hk (by omega))
theorem inX5_0 : u_lay RX5 TX5 0 ∈ TB := tb_in 278 (by decide +kernel) rfl
theorem inX5_1 : u_lay RX5 TX5 1 ∈ TB := tb_in 280 (by decide +kernel) rfl
theorem inX5_2 : u_lay RX5 TX5 2 ∈ TB := tb_in 282 (by decide +kernel) rfl
theorem inX5 : ∀ w ∈ u_ws RX5 TX5 3, w ∈ TB := u_all (fun k hk => match k, hk with
  | 0, _ => inX5_0
  | 1, _ => inX5_1
  | 2, _ => inX5_2
  | (k + 3), hk => absurd hk (by omega))
theorem inX6_0 : u_lay RX6 TX6 0 ∈ TB := tb_in 330 (by decide +kernel) rfl
theorem inX6_1 : u_lay RX6 TX6 1 ∈ TB := tb_in 332 (by decide +kernel) rfl
theorem inX6_2 : u_lay RX6 TX6 2 ∈ TB := tb_in 334 (by decide +kernel) rfl
theorem inX6_3 : u_lay RX6 TX6 3 ∈ TB := tb_in 336 (by decide +kernel) rfl
theorem inX6_4 : u_lay RX6 TX6 4 ∈ TB := tb_in 338 (by decide +kernel) rfl
theorem inX6_5 : u_lay RX6 TX6 5 ∈ TB := tb_in 340 (by decide +kernel) rfl
theorem inX6_6 : u_lay RX6 TX6 6 ∈ TB := tb_in 342 (by decide +kernel) rfl
theorem inX6 : ∀ w ∈ u_ws RX6 TX6 7, w ∈ TB := u_all (fun k hk => match k, hk with
  | 0, _ => inX6_0
  | 1, _ => inX6_1
  | 2, _ => inX6_2
  | 3, _ => inX6_3
  | 4, _ => inX6_4
  | 5, _ => inX6_5
  | 6, _ => inX6_6
  | (k + 7), hk => absurd hk (by omega))
theorem inX7_0 : u_lay RX7 TX7 0 ∈ TB := tb_in 380 (by decide +kernel) rfl
theorem inX7_1 : u_lay RX7 TX7 1 ∈ TB := tb_in 382 (by decide +kernel) rfl
theorem inX7_2 : u_lay RX7 TX7 2 ∈ TB := tb_in 384 (by decide +kernel) rfl
theorem inX7_3 : u_lay RX7 TX7 3 ∈ TB := tb_in 386 (by decide +kernel) rfl
theorem inX7_4 : u_lay RX7 TX7 4 ∈ TB := tb_in 388 (by decide +kernel) rfl
theorem inX7_5 : u_lay RX7 TX7 5 ∈ TB := tb_in 390 (by decide +kernel) rfl
theorem inX7_6 : u_lay RX7 TX7 6 ∈ TB := tb_in 392 (by decide +kernel) rfl
theorem inX7_7 : u_lay RX7 TX7 7 ∈ TB := tb_in 394 (by decide +kernel) rfl
theorem inX7_8 : u_lay RX7 TX7 8 ∈ TB := tb_in 396 (by decide +kernel) rfl
theorem inX7_9 : u_lay RX7 TX7 9 ∈ TB := tb_in 398 (by decide +kernel) rfl
theorem inX7 : ∀ w ∈ u_ws RX7 TX7 10, w ∈ TB := u_all (fun k hk => match k, hk with
  | 0, _ => inX7_0
  | 1, _ => inX7_1
  | 2, _ => inX7_2
  | 3, _ => inX7_3
  | 4, _ => inX7_4
  | 5, _ => inX7_5
  | 6, _ => inX7_6
  | 7, _ => inX7_7
  | 8, _ => inX7_8
  | 9, _ => inX7_9
  | (k + 10), hk => absurd hk (by omega))
theorem inX8_0 : u_lay RX8 TX8 0 ∈ TB := tb_in 301 (by decide +kernel) rfl
theorem inX8_1 : u_lay RX8 TX8 1 ∈ TB := tb_in 303 (by decide +kernel) rfl
theorem inX8_2 : u_lay RX8 TX8 2 ∈ TB := tb_in 305 (by decide +kernel) rfl
theorem inX8_3 : u_lay RX8 TX8 3 ∈ TB := tb_in 307 (by decide +kernel) rfl
theorem inX8_4 : u_lay RX8 TX8 4 ∈ TB := tb_in 309 (by decide +kernel) rfl
theorem inX8 : ∀ w ∈ u_ws RX8 TX8 5, w ∈ TB := u_all (fun k hk => match k, hk with
  | 0, _ => inX8_0
  | 1, _ => inX8_1
  | 2, _ => inX8_2
  | 3, _ => inX8_3
  | 4, _ => inX8_4
  | (k + 5), hk => absurd hk (by omega))
theorem inX9_0 : u_lay RX9 TX9 0 ∈ TB := tb_in 466 (by decide +kernel) rfl
theorem inX9_1 : u_lay RX9 TX9 1 ∈ TB := tb_in 468 (by decide +kernel) rfl
theorem inX9_2 : u_lay RX9 TX9 2 ∈ TB := tb_in 470 (by decide +kernel) rfl
theorem inX9_3 : u_lay RX9 TX9 3 ∈ TB := tb_in 472 (by decide +kernel) rfl
theorem inX9_4 : u_lay RX9 TX9 4 ∈ TB := tb_in 474 (by decide +kernel) rfl
theorem inX9_5 : u_lay RX9 TX9 5 ∈ TB := tb_in 476 (by decide +kernel) rfl
theorem inX9_6 : u_lay RX9 TX9 6 ∈ TB := tb_in 478 (by decide +kernel) rfl
theorem inX9_7 : u_lay RX9 TX9 7 ∈ TB := tb_in 480 (by decide +kernel) rfl
theorem inX9_8 : u_lay RX9 TX9 8 ∈ TB := tb_in 482 (by decide +kernel) rfl
theorem inX9_9 : u_lay RX9 TX9 9 ∈ TB := tb_in 484 (by decide +kernel) rfl
theorem inX9_10 : u_lay RX9 TX9 10 ∈ TB := tb_in 486 (by decide +kernel) rfl
theorem inX9 : ∀ w ∈ u_ws RX9 TX9 11, w ∈ TB := u_all (fun k hk => match k, hk with
  | 0, _ => inX9_0
  | 1, _ => inX9_1
  | 2, _ => inX9_2
  | 3, _ => inX9_3
  | 4, _ => inX9_4
  | 5, _ => inX9_5
  | 6, _ => inX9_6
  | 7, _ => inX9_7
  | 8, _ => inX9_8
  | 9, _ => inX9_9
  | 10, _ => inX9_10
  | (k + 11), hk => absurd hk (by omega))
theorem inX10_0 : u_lay RX10 TX10 0 ∈ TB := tb_in 1309 (by decide +kernel) rfl
theorem inX10_1 : u_lay RX10 TX10 1 ∈ TB := tb_in 1311 (by decide +kernel) rfl
theorem inX10_2 : u_lay RX10 TX10 2 ∈ TB := tb_in 1313 (by decide +kernel) rfl
theorem inX10_3 : u_lay RX10 TX10 3 ∈ TB := tb_in 1315 (by decide +kernel) rfl
theorem inX10_4 : u_lay RX10 TX10 4 ∈ TB := tb_in 1317 (by decide +kernel) rfl
theorem inX10_5 : u_lay RX10 TX10 5 ∈ TB := tb_in 1319 (by decide +kernel) rfl
theorem inX10_6 : u_lay RX10 TX10 6 ∈ TB := tb_in 1321 (by decide +kernel) rfl
theorem inX10_7 : u_lay RX10 TX10 7 ∈ TB := tb_in 1323 (by decide +kernel) rfl
theorem inX10_8 : u_lay RX10 TX10 8 ∈ TB := tb_in 1325 (by decide +kernel) rfl
theorem inX10_9 : u_lay RX10 TX10 9 ∈ TB := tb_in 1327 (by decide +kernel) rfl
theorem inX10_10 : u_lay RX10 TX10 10 ∈ TB := tb_in 1329 (by decide +kernel) rfl
theorem inX10_11 : u_lay RX10 TX10 11 ∈ TB := tb_in 1331 (by decide +kernel) rfl
theorem inX10_12 : u_lay RX10 TX10 12 ∈ TB := tb_in 1333 (by decide +kernel) rfl
theorem inX10_13 : u_lay RX10 TX10 13 ∈ TB := tb_in 1335 (by decide +kernel) rfl
theorem inX10_14 : u_lay RX10 TX10 14 ∈ TB := tb_in 1337 (by decide +kernel) rfl
theorem inX10_15 : u_lay RX10 TX10 15 ∈ TB := tb_in 1339 (by decide +kernel) rfl
theorem inX10_16 : u_lay RX10 TX10 16 ∈ TB := tb_in 1341 (by decide +kernel) rfl
theorem inX10_17 : u_lay RX10 TX10 17 ∈ TB := tb_in 1343 (by decide +kernel) rfl
theorem inX10_18 : u_lay RX10 TX10 18 ∈ TB := tb_in 1345 (by decide +kernel) rfl
theorem inX10_19 : u_lay RX10 TX10 19 ∈ TB := tb_in 1347 (by decide +kernel) rfl
theorem inX10_20 : u_lay RX10 TX10 20 ∈ TB := tb_in 1349 (by decide +kernel) rfl
theorem inX10_21 : u_lay RX10 TX10 21 ∈ TB := tb_in 1351 (by decide +kernel) rfl
theorem inX10_22 : u_lay RX10 TX10 22 ∈ TB := tb_in 1353 (by decide +kernel) rfl
theorem inX10_23 : u_lay RX10 TX10 23 ∈ TB := tb_in 1355 (by decide +kernel) rfl
theorem inX10_24 : u_lay RX10 TX10 24 ∈ TB := tb_in 1357 (by decide +kernel) rfl
theorem inX10_25 : u_lay RX10 TX10 25 ∈ TB := tb_in 1359 (by decide +kernel) rfl
theorem inX10_26 : u_lay RX10 TX10 26 ∈ TB := tb_in 1361 (by decide +kernel) rfl
theorem inX10 : ∀ w ∈ u_ws RX10 TX10 27, w ∈ TB := u_all (fun k hk => match k, hk with
  | 0, _ => inX10_0
  | 1, _ => inX10_1
  | 2, _ => inX10_2
  | 3, _ => inX10_3
  | 4, _ => inX10_4
  | 5, _ => inX10_5
  | 6, _ => inX10_6
  | 7, _ => inX10_7
  | 8, _ => inX10_8
  | 9, _ => inX10_9
  | 10, _ => inX10_10
  | 11, _ => inX10_11
  | 12, _ => inX10_12
  | 13, _ => inX10_13
  | 14, _ => inX10_14
  | 15, _ => inX10_15
  | 16, _ => inX10_16
  | 17, _ => inX10_17
  | 18, _ => inX10_18
  | 19, _ => inX10_19
  | 20, _ => inX10_20
  | 21, _ => inX10_21
  | 22, _ => inX10_22
  | 23, _ => inX10_23
  | 24, _ => inX10_24
  | 25, _ => inX10_25
  | 26, _ => inX10_26
  | (k + 27), hk => absurd hk (by omega))
