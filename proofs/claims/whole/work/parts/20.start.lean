/-! the class's memory as it is made -/
def rowOf (c : Nat) : Nat → Int32 :=
  if c = 1 then fillF 64 (-2) (fun _ => 0) 64
  else if c = 2 then fillF 64 (-1) (fun _ => 0) 64
  else if c = 3 then fillF 6 (-1) (fun _ => 0) 6
  else if c = 4 then fillF 2 (-1) (fun _ => 0) 2
  else if c = 5 then fun i => if i = 15 then 2 else if i = 16 then 1 else if i = 18 then 463 else 0
  else if c = 6 then fun i => if i = 4 then -1 else 0
  else if c = 7 then fun i => if i = 6 then -1 else if i = 7 then -1 else if i = 10 then -1 else 0
  else fun _ => 0
def iBook : List Nat := [0, 0]
def iHeap : List Nat := [5, 1, 2, 0, 0, 0, 0, 0, 3, 4, 4, 4, 4] ++ iBook
def iTold : List Nat := [6, 0, 0]
def iSurvey : List Nat := [0, 0, 0, 0]
def iText : List Nat := List.replicate 9 0
def iReader : List Nat := [7, 0, 0, 0, 0] ++ iText
def iLaw : List Nat := [0, 0]
def iSteps : List Nat := [0, 0] ++ (List.replicate 31 iHeap).flatten
def iTexts : List Nat := [0] ++ (List.replicate 4 iText).flatten
def iniL : List Nat := [0] ++ iHeap ++ iSteps ++ iTold ++ iHeap ++ iSteps ++ iTold ++ iHeap ++ iSurvey ++ iReader ++ iLaw ++ iTexts
def inC (q : Nat) : Nat := iniL.getD q 0
def X0 : xm := fun q => rowOf (inC q)
def iat (q : Nat) (pat : List Nat) : Prop := ∀ (j : Nat) (x : Nat), pat[j]? = some x → inC (q + j) = x
def iatB (q : Nat) (pat : List Nat) : Bool := (List.range pat.length).all (fun j => decide (inC (q + j) = pat.getD j 99))
theorem iat_of {q : Nat} {pat : List Nat} (h : iatB q pat = true) : iat q pat := by
  intro j x hx
  have hj : j < pat.length := by
    rcases Nat.lt_or_ge j pat.length with h1 | h1
    · exact h1
    · rw [List.getElem?_eq_none h1] at hx; cases hx
  have h2 := List.all_eq_true.mp h j (List.mem_range.mpr hj)
  rw [decide_eq_true_eq] at h2
  rw [h2, List.getD_eq_getElem?_getD, hx]
  rfl
/-- one cell may stand for another -/
def eqv (e e' : va_E) : Prop := ∀ (D : va_G) (cl : List vw_C) (q : Nat) (H : Heap), va_at D cl (q, e) H → va_at D cl (q, e') H
theorem eqv_of {e e' : va_E} (h : e = e') : eqv e e' := by subst h; exact fun _ _ _ _ h => h
theorem eqv_q {cA : ClassId} {n : Nat} {f g : Nat → Option Nat} (h : ∀ j, j < n → f j = g j) : eqv (.inl (cA, n, .inr (.inr (.inr (.inr f))))) (.inl (cA, n, .inr (.inr (.inr (.inr g))))) := by
  intro D cl q H hq
  have hq : H[q]? = some (vp_cell cA (n, .inr (.inr (.inr (.inr f))))) := hq
  show H[q]? = some (vp_cell cA (n, .inr (.inr (.inr (.inr g)))))
  rw [hq, vp_cell_q, vp_cell_q]
  congr 1
  unfold arrV
  congr 1
  apply Array.ext
  · simp
  · intro i h1 h2
    simp only [Array.getElem_ofFn]
    rw [h i (by simpa using h1)]
def blk (E : xE) (a h : Nat) (B : List va_E) : Prop := ∀ j, j < B.length → eqv (cfL B j) (cX E a X0 (h + j))
theorem blk_nil {E : xE} {a h : Nat} : blk E a h [] := fun j hj => absurd hj (Nat.not_lt_zero j)
theorem blk_app {E : xE} {a h : Nat} {A B : List va_E} (hA : blk E a h A) (hB : blk E a (h + A.length) B) : blk E a h (A ++ B) := by
  intro j hj
  rw [List.length_append] at hj
  rcases Nat.lt_or_ge j A.length with h1 | h1
  · rw [cfL_old h1]; exact hA j h1
  · obtain ⟨k, rfl⟩ := Nat.exists_eq_add_of_le h1
    rw [cfL_new, ← Nat.add_assoc]
    exact hB k (by omega)
theorem blk_cons {E : xE} {a h : Nat} {e : va_E} {B : List va_E} (he : eqv e (cX E a X0 h)) (hB : blk E a (h + 1) B) : blk E a h (e :: B) := by
  intro j hj
  match j with
  | 0 => exact he
  | j + 1 =>
    have h1 := hB j (by simpa using hj)
    rw [show h + (j + 1) = h + 1 + j by omega]
    exact h1
theorem cX_I {E : xE} {b : Nat} {q n c : Nat} (h : lay q = (10, n)) (hc : inC q = c) : cX E b X0 q = .inl (E.2 0, n, .inl (rowOf c)) := by
  rw [(cx_I h).2]
  unfold X0
  rw [hc]

theorem blk_Heap {E : xE} {a h : Nat} (L : lat h pHeap) (I : iat h iHeap) : blk E a h (L_Heap E (a + h)) := by
  intro j hj
  rcases (show j = 0 ∨ j = 1 ∨ j = 2 ∨ j = 3 ∨ j = 4 ∨ j = 5 ∨ j = 6 ∨ j = 7 ∨ j = 8 ∨ j = 9 ∨ j = 10 ∨ j = 11 ∨ j = 12 ∨ j = 13 ∨ j = 14 by have h9 : (L_Heap E (a + h)).length = 15 := rfl; omega) with rfl | rfl | rfl | rfl | rfl | rfl | rfl | rfl | rfl | rfl | rfl | rfl | rfl | rfl | rfl
  · refine eqv_of ?_
    rw [(cx_Heap (L 0 _ rfl)).2]
    have hX : X0 (h + 0) = rowOf 5 := by unfold X0; rw [I 0 _ rfl]
    rw [hX]
    simp only [← Nat.add_assoc]
    rfl
  · exact eqv_of (by rw [cX_I (L 1 _ rfl) (I 1 _ rfl)]; rfl)
  · exact eqv_of (by rw [cX_I (L 2 _ rfl) (I 2 _ rfl)]; rfl)
  · exact eqv_of (by rw [cX_I (L 3 _ rfl) (I 3 _ rfl)]; rfl)
  · exact eqv_of (by rw [cX_I (L 4 _ rfl) (I 4 _ rfl)]; rfl)
  · exact eqv_of (by rw [cX_I (L 5 _ rfl) (I 5 _ rfl)]; rfl)
  · exact eqv_of (by rw [cX_I (L 6 _ rfl) (I 6 _ rfl)]; rfl)
  · exact eqv_of (by rw [cX_I (L 7 _ rfl) (I 7 _ rfl)]; rfl)
  · exact eqv_of (by rw [cX_I (L 8 _ rfl) (I 8 _ rfl)]; rfl)
  · exact eqv_of (by rw [cX_I (L 9 _ rfl) (I 9 _ rfl)]; rfl)
  · exact eqv_of (by rw [cX_I (L 10 _ rfl) (I 10 _ rfl)]; rfl)
  · exact eqv_of (by rw [cX_I (L 11 _ rfl) (I 11 _ rfl)]; rfl)
  · exact eqv_of (by rw [cX_I (L 12 _ rfl) (I 12 _ rfl)]; rfl)
  · refine eqv_of ?_
    rw [(cx_Book (L 13 _ rfl)).2]
    have hX : X0 (h + 13) = rowOf 0 := by unfold X0; rw [I 13 _ rfl]
    rw [hX]
    simp only [← Nat.add_assoc]
    rfl
  · exact eqv_of (by rw [cX_I (L 14 _ rfl) (I 14 _ rfl)]; rfl)
theorem blk_Told {E : xE} {a h : Nat} (L : lat h pTold) (I : iat h iTold) : blk E a h (L_Told E (a + h)) := by
  intro j hj
  rcases (show j = 0 ∨ j = 1 ∨ j = 2 by have h9 : (L_Told E (a + h)).length = 3 := rfl; omega) with rfl | rfl | rfl
  · refine eqv_of ?_
    rw [(cx_Told (L 0 _ rfl)).2]
    have hX : X0 (h + 0) = rowOf 6 := by unfold X0; rw [I 0 _ rfl]
    rw [hX]
    simp only [← Nat.add_assoc]
    rfl
  · exact eqv_of (by rw [cX_I (L 1 _ rfl) (I 1 _ rfl)]; rfl)
  · exact eqv_of (by rw [cX_I (L 2 _ rfl) (I 2 _ rfl)]; rfl)
theorem blk_Survey {E : xE} {a h : Nat} (L : lat h pSurvey) (I : iat h iSurvey) : blk E a h (L_Survey E (a + h)) := by
  intro j hj
  rcases (show j = 0 ∨ j = 1 ∨ j = 2 ∨ j = 3 by have h9 : (L_Survey E (a + h)).length = 4 := rfl; omega) with rfl | rfl | rfl | rfl
  · refine eqv_of ?_
    rw [(cx_Survey (L 0 _ rfl)).2]
    have hX : X0 (h + 0) = rowOf 0 := by unfold X0; rw [I 0 _ rfl]
    rw [hX]
    simp only [← Nat.add_assoc]
    rfl
  · exact eqv_of (by rw [cX_I (L 1 _ rfl) (I 1 _ rfl)]; rfl)
  · exact eqv_of (by rw [cX_I (L 2 _ rfl) (I 2 _ rfl)]; rfl)
  · exact eqv_of (by rw [cX_I (L 3 _ rfl) (I 3 _ rfl)]; rfl)
theorem blk_Reader {E : xE} {a h : Nat} (L : lat h pReader) (I : iat h iReader) : blk E a h (L_Reader E (a + h)) := by
  intro j hj
  rcases (show j = 0 ∨ j = 1 ∨ j = 2 ∨ j = 3 ∨ j = 4 ∨ j = 5 ∨ j = 6 ∨ j = 7 ∨ j = 8 ∨ j = 9 ∨ j = 10 ∨ j = 11 ∨ j = 12 ∨ j = 13 by have h9 : (L_Reader E (a + h)).length = 14 := rfl; omega) with rfl | rfl | rfl | rfl | rfl | rfl | rfl | rfl | rfl | rfl | rfl | rfl | rfl | rfl
  · refine eqv_of ?_
    rw [(cx_Reader (L 0 _ rfl)).2]
    have hX : X0 (h + 0) = rowOf 7 := by unfold X0; rw [I 0 _ rfl]
    rw [hX]
    simp only [← Nat.add_assoc]
    rfl
  · exact eqv_of (by rw [cX_I (L 1 _ rfl) (I 1 _ rfl)]; rfl)
  · exact eqv_of (by rw [cX_I (L 2 _ rfl) (I 2 _ rfl)]; rfl)
  · exact eqv_of (by rw [cX_I (L 3 _ rfl) (I 3 _ rfl)]; rfl)
  · exact eqv_of (by rw [cX_I (L 4 _ rfl) (I 4 _ rfl)]; rfl)
  · refine eqv_of ?_
    rw [(cx_Text (L 5 _ rfl)).2]
    have hX : X0 (h + 5) = rowOf 0 := by unfold X0; rw [I 5 _ rfl]
    rw [hX]
    simp only [← Nat.add_assoc]
    rfl
  · exact eqv_of (by rw [cX_I (L 6 _ rfl) (I 6 _ rfl)]; rfl)
  · exact eqv_of (by rw [cX_I (L 7 _ rfl) (I 7 _ rfl)]; rfl)
  · exact eqv_of (by rw [cX_I (L 8 _ rfl) (I 8 _ rfl)]; rfl)
  · exact eqv_of (by rw [cX_I (L 9 _ rfl) (I 9 _ rfl)]; rfl)
  · exact eqv_of (by rw [cX_I (L 10 _ rfl) (I 10 _ rfl)]; rfl)
  · exact eqv_of (by rw [cX_I (L 11 _ rfl) (I 11 _ rfl)]; rfl)
  · exact eqv_of (by rw [cX_I (L 12 _ rfl) (I 12 _ rfl)]; rfl)
  · exact eqv_of (by rw [cX_I (L 13 _ rfl) (I 13 _ rfl)]; rfl)
theorem blk_Law {E : xE} {a h : Nat} (L : lat h pLaw) (I : iat h iLaw) : blk E a h (L_Law E (a + h)) := by
  intro j hj
  rcases (show j = 0 ∨ j = 1 by have h9 : (L_Law E (a + h)).length = 2 := rfl; omega) with rfl | rfl
  · refine eqv_of ?_
    rw [(cx_Law (L 0 _ rfl)).2]
    have hX : X0 (h + 0) = rowOf 0 := by unfold X0; rw [I 0 _ rfl]
    rw [hX]
    simp only [← Nat.add_assoc]
    rfl
  · exact eqv_of (by rw [cX_I (L 1 _ rfl) (I 1 _ rfl)]; rfl)
theorem blk_Text {E : xE} {a h : Nat} (L : lat h pText) (I : iat h iText) : blk E a h (L_Text E (a + h)) := by
  intro j hj
  rcases (show j = 0 ∨ j = 1 ∨ j = 2 ∨ j = 3 ∨ j = 4 ∨ j = 5 ∨ j = 6 ∨ j = 7 ∨ j = 8 by have h9 : (L_Text E (a + h)).length = 9 := rfl; omega) with rfl | rfl | rfl | rfl | rfl | rfl | rfl | rfl | rfl
  · refine eqv_of ?_
    rw [(cx_Text (L 0 _ rfl)).2]
    have hX : X0 (h + 0) = rowOf 0 := by unfold X0; rw [I 0 _ rfl]
    rw [hX]
    simp only [← Nat.add_assoc]
    rfl
  · exact eqv_of (by rw [cX_I (L 1 _ rfl) (I 1 _ rfl)]; rfl)
  · exact eqv_of (by rw [cX_I (L 2 _ rfl) (I 2 _ rfl)]; rfl)
  · exact eqv_of (by rw [cX_I (L 3 _ rfl) (I 3 _ rfl)]; rfl)
  · exact eqv_of (by rw [cX_I (L 4 _ rfl) (I 4 _ rfl)]; rfl)
  · exact eqv_of (by rw [cX_I (L 5 _ rfl) (I 5 _ rfl)]; rfl)
  · exact eqv_of (by rw [cX_I (L 6 _ rfl) (I 6 _ rfl)]; rfl)
  · exact eqv_of (by rw [cX_I (L 7 _ rfl) (I 7 _ rfl)]; rfl)
  · exact eqv_of (by rw [cX_I (L 8 _ rfl) (I 8 _ rfl)]; rfl)
theorem iat_row {q i : Nat} (h : iat q iSteps) (hi : i < 31) : iat (q + (2 + 15 * i)) iHeap := by
  intro j x hx
  have hj : j < 15 := (List.getElem?_eq_some_iff.mp hx).1
  have h2 : ∀ i, i < 31 → ∀ j, j < 15 → iSteps[2 + 15 * i + j]? = iHeap[j]? := by decide +kernel
  rw [Nat.add_assoc]
  exact h _ x (by rw [h2 i hi j hj, hx])
theorem lat_rowF {q i : Nat} (h : lat q pSteps) (hi : i < 31) : lat (q + (2 + 15 * i)) pHeap := by
  have h1 := lat_row h hi
  rw [show 1 + (1 + 15 * i) = 2 + 15 * i by omega] at h1
  exact h1
theorem blk_hps {E : xE} {a h : Nat} (L : lat h pSteps) (I : iat h iSteps) : ∀ i, i ≤ 31 → blk E a (h + 2) (hps E (a + h) i)
  | 0, _ => blk_nil
  | i + 1, hi => by
    refine blk_app (blk_hps L I i (by omega)) ?_
    rw [hps_len, show h + 2 + 15 * i = h + (2 + 15 * i) by omega, show a + h + (2 + 15 * i) = a + (h + (2 + 15 * i)) by omega]
    exact blk_Heap (lat_rowF L (by omega)) (iat_row I (by omega))
theorem blk_Steps {E : xE} {a h : Nat} (L : lat h pSteps) (I : iat h iSteps) : blk E a h (L_Steps E (a + h)) := by
  unfold L_Steps L_Stp
  rw [List.cons_append, List.cons_append, List.nil_append]
  have h3 := blk_hps (E := E) (a := a) L I 31 (Nat.le_refl _)
  generalize hps E (a + h) 31 = T at h3 ⊢
  have h4 : blk E a h ((.inr (4, [.ref (a + h + 1), .int 0, .int 0]) : va_E) :: (.inl (E.2 3, 31, .inr (.inr (.inr (.inr (rfs (a + h) 31)))))) :: T) := by
    refine blk_cons ?_ (blk_cons ?_ h3)
    · refine eqv_of ?_
      rw [(cx_Steps (q := h) (L 0 _ rfl)).2]
      have hX : X0 h = rowOf 0 := by unfold X0; rw [show inC h = 0 from I 0 _ rfl]
      rw [hX]
      simp only [← Nat.add_assoc]
      rfl
    · rw [(cx_H (q := h + 1) (L 1 _ rfl)).2]
      refine eqv_q (fun j hj => ?_)
      show (if j < 31 then some (a + h + (2 + 15 * j)) else none) = _
      rw [if_pos hj, show a + h + (2 + 15 * j) = a + (h + 1 + (1 + 15 * j)) by omega]
  exact h4
theorem IX_heap : iat 1 iHeap := iat_of (by decide +kernel)
theorem IX_steps : iat 16 iSteps := iat_of (by decide +kernel)
theorem IX_told : iat 483 iTold := iat_of (by decide +kernel)
theorem IX_imageHeap : iat 486 iHeap := iat_of (by decide +kernel)
theorem IX_imageSteps : iat 501 iSteps := iat_of (by decide +kernel)
theorem IX_imageTold : iat 968 iTold := iat_of (by decide +kernel)
theorem IX_trial : iat 971 iHeap := iat_of (by decide +kernel)
theorem IX_survey : iat 986 iSurvey := iat_of (by decide +kernel)
theorem IX_reader : iat 990 iReader := iat_of (by decide +kernel)
theorem IX_law : iat 1004 iLaw := iat_of (by decide +kernel)
theorem LT_0 : lat 1007 pText := lat_of (by decide +kernel)
theorem IT_0 : iat 1007 iText := iat_of (by decide +kernel)
theorem LT_1 : lat 1016 pText := lat_of (by decide +kernel)
theorem IT_1 : iat 1016 iText := iat_of (by decide +kernel)
theorem LT_2 : lat 1025 pText := lat_of (by decide +kernel)
theorem IT_2 : iat 1025 iText := iat_of (by decide +kernel)
theorem LT_3 : lat 1034 pText := lat_of (by decide +kernel)
theorem IT_3 : iat 1034 iText := iat_of (by decide +kernel)
set_option maxRecDepth 20000 in
theorem blk_Top {E : xE} {a : Nat} : blk E a 0 (L_Top E a) := by
  unfold L_Top
  refine blk_cons ?_ (blk_app ?_ (blk_cons ?_ ?_))
  · refine eqv_of ?_
    rw [(cx_ColouredHeap LX_top).2]
  · refine blk_app (blk_app (blk_app (blk_app (blk_app (blk_app (blk_app (blk_app (blk_app (blk_app blk_nil ?_) ?_) ?_) ?_) ?_) ?_) ?_) ?_) ?_) ?_
    · simp only [List.length_append, L_Heap_len, L_Steps_len, L_Told_len, L_Survey_len, L_Reader_len, L_Law_len, List.length_nil]
      exact blk_Heap LX_heap IX_heap
    · simp only [List.length_append, L_Heap_len, L_Steps_len, L_Told_len, L_Survey_len, L_Reader_len, L_Law_len, List.length_nil]
      exact blk_Steps LX_steps IX_steps
    · simp only [List.length_append, L_Heap_len, L_Steps_len, L_Told_len, L_Survey_len, L_Reader_len, L_Law_len, List.length_nil]
      exact blk_Told LX_told IX_told
    · simp only [List.length_append, L_Heap_len, L_Steps_len, L_Told_len, L_Survey_len, L_Reader_len, L_Law_len, List.length_nil]
      exact blk_Heap LX_imageHeap IX_imageHeap
    · simp only [List.length_append, L_Heap_len, L_Steps_len, L_Told_len, L_Survey_len, L_Reader_len, L_Law_len, List.length_nil]
      exact blk_Steps LX_imageSteps IX_imageSteps
    · simp only [List.length_append, L_Heap_len, L_Steps_len, L_Told_len, L_Survey_len, L_Reader_len, L_Law_len, List.length_nil]
      exact blk_Told LX_imageTold IX_imageTold
    · simp only [List.length_append, L_Heap_len, L_Steps_len, L_Told_len, L_Survey_len, L_Reader_len, L_Law_len, List.length_nil]
      exact blk_Heap LX_trial IX_trial
    · simp only [List.length_append, L_Heap_len, L_Steps_len, L_Told_len, L_Survey_len, L_Reader_len, L_Law_len, List.length_nil]
      exact blk_Survey LX_survey IX_survey
    · simp only [List.length_append, L_Heap_len, L_Steps_len, L_Told_len, L_Survey_len, L_Reader_len, L_Law_len, List.length_nil]
      exact blk_Reader LX_reader IX_reader
    · simp only [List.length_append, L_Heap_len, L_Steps_len, L_Told_len, L_Survey_len, L_Reader_len, L_Law_len, List.length_nil]
      exact blk_Law LX_law IX_law
  · simp only [List.length_append, L_Heap_len, L_Steps_len, L_Told_len, L_Survey_len, L_Reader_len, L_Law_len, List.length_nil]
    rw [(cx_T (q := 0 + 1 + (0 + 15 + 467 + 3 + 15 + 467 + 3 + 15 + 4 + 14 + 2)) (LX_texts 0 _ rfl)).2]
    refine eqv_q (fun j hj => ?_)
    rcases (show j = 0 ∨ j = 1 ∨ j = 2 ∨ j = 3 by omega) with rfl | rfl | rfl | rfl <;> rfl
  · simp only [List.length_append, L_Heap_len, L_Steps_len, L_Told_len, L_Survey_len, L_Reader_len, L_Law_len, List.length_nil]
    refine blk_app (blk_app (blk_app (blk_app blk_nil ?_) ?_) ?_) ?_
    · simp only [List.length_append, L_Text_len, List.length_nil]
      exact blk_Text LT_0 IT_0
    · simp only [List.length_append, L_Text_len, List.length_nil]
      exact blk_Text LT_1 IT_1
    · simp only [List.length_append, L_Text_len, List.length_nil]
      exact blk_Text LT_2 IT_2
    · simp only [List.length_append, L_Text_len, List.length_nil]
      exact blk_Text LT_3 IT_3
theorem top_P {E : xE} {a : Nat} {D : va_G} {cl : List vw_C} {H : Heap} (h : va_P D cl (xw a (L_Top E a).length (cfL (L_Top E a))) H) (hl : (L_Top E a).length = NX) : va_P D cl (xw a NX (cX E a X0)) H := by
  intro k q hq
  obtain ⟨hk, rfl⟩ := xw_of hq
  have h1 := h k _ (xw_get (by rw [hl]; exact hk))
  have h2 := blk_Top (E := E) (a := a) k (by rw [hl]; exact hk)
  rw [Nat.zero_add] at h2
  exact h2 _ _ _ _ h1
theorem L_Top_len (E : xE) (a : Nat) : (L_Top E a).length = NX := by
  unfold L_Top
  simp only [List.length_cons, List.length_append, L_Heap_len, L_Steps_len, L_Told_len, L_Survey_len, L_Reader_len, L_Law_len, L_Text_len, List.length_nil]
