/-! where roots lead, where fields lead; x is left out -/
def rtE (s : hs) (x : Int) (w : Nat) : Prop := ∃ r, r < 6 ∧ s 8 r ≠ -1 ∧ sWh s (s 8 r) = w ∧ (w : Int) ≠ x
def edE (s : hs) (x : Int) (v w : Nat) : Prop := ∃ j : Nat, (1 ≤ j ∧ (j : Int) ≤ s 1 v - 1000) ∧ s 1 (v + j) ≠ -1 ∧ sWh s (s 1 (v + j)) = w ∧ (w : Int) ≠ x
def upD (D : Nat → Int) (w : Nat) (d : Int) : Nat → Int := fun i => if i = w then d else D i
/-- layer d, places below v done, fields of v below j done -/
def LI (s : hs) (x : Int) (G : Nat → Prop) (d : Int) (v j : Nat) (D : Nat → Int) : Prop := (∀ w, -1 ≤ D w ∧ D w ≤ d + 1) ∧ (∀ w, D w ≠ -1 → G w) ∧ (∀ w, rtE s x w → D w = 0) ∧ (∀ w, D w = 0 → rtE s x w) ∧ (∀ u w, 0 ≤ D u → D u < d → edE s x u w → 0 ≤ D w ∧ D w ≤ D u + 1) ∧ (∀ u w, u < v → D u = d → edE s x u w → 0 ≤ D w) ∧ (∀ i w, 1 ≤ i → i < j → (i : Int) ≤ s 1 v - 1000 → D v = d → s 1 (v + i) ≠ -1 → sWh s (s 1 (v + i)) = w → (w : Int) ≠ x → 0 ≤ D w) ∧ ∀ w, 1 ≤ D w → ∃ u, D u = D w - 1 ∧ edE s x u w
theorem LI.put {s : hs} {x : Int} {G : Nat → Prop} {d : Int} {v j : Nat} {D : Nat → Int} (h : LI s x G d v j D) (hd : 0 ≤ d) (hv : D v = d) (hj : 1 ≤ j ∧ (j : Int) ≤ s 1 v - 1000) (hp : s 1 (v + j) ≠ -1) (hx : (sWh s (s 1 (v + j)) : Int) ≠ x) (hD : D (sWh s (s 1 (v + j))) = -1) (hG : G (sWh s (s 1 (v + j)))) : LI s x G d v (j + 1) (upD D (sWh s (s 1 (v + j))) (d + 1)) := by
  obtain ⟨h1, h2, h3, h4, h5, h6, h7, h8⟩ := h
  generalize hw : sWh s (s 1 (v + j)) = w0 at *
  have e1 : upD D w0 (d + 1) w0 = d + 1 := by unfold upD; rw [if_pos rfl]
  have e2 : ∀ w, w ≠ w0 → upD D w0 (d + 1) w = D w := fun w q => by unfold upD; rw [if_neg q]
  have nn : ∀ w, 0 ≤ D w → 0 ≤ upD D w0 (d + 1) w ∧ upD D w0 (d + 1) w = D w := fun w q => by
    have : w ≠ w0 := fun e => by rw [e, hD] at q; omega
    rw [e2 w this]; exact ⟨q, rfl⟩
  have bk : ∀ w, upD D w0 (d + 1) w ≤ d → upD D w0 (d + 1) w = D w := fun w q => by
    by_cases c : w = w0
    · rw [c, e1] at q; omega
    · exact e2 w c
  refine ⟨fun w => ?_, fun w q => ?_, fun w q => ?_, fun w q => ?_, fun u w q1 q2 q3 => ?_, fun u w q1 q2 q3 => ?_, fun i w i1 i2 i3 q1 q2 q3 q4 => ?_, fun w q => ?_⟩
  · by_cases c : w = w0
    · rw [c, e1]; omega
    · rw [e2 w c]; exact h1 w
  · by_cases c : w = w0
    · rw [c]; exact hG
    · rw [e2 w c] at q; exact h2 w q
  · have := h3 w q
    rw [(nn w (by omega)).2]; exact this
  · rw [bk w (by omega)] at q; exact h4 w q
  · have eu := bk u (by omega)
    rw [eu] at q1 q2 ⊢
    have a := h5 u w q1 q2 q3
    rw [(nn w a.1).2]; exact a
  · rw [bk u (by omega)] at q2
    exact (nn w (h6 u w q1 q2 q3)).1
  · by_cases c : i = j
    · subst c
      rw [← q3, hw, e1]; omega
    · exact (nn w (h7 i w i1 (by omega) i3 hv q2 q3 q4)).1
  · by_cases c : w = w0
    · refine ⟨v, ?_, j, hj, hp, by rw [hw, c], by rw [c]; exact hx⟩
      rw [c, e1, (nn v (by omega)).2]; omega
    · rw [e2 w c] at q ⊢
      obtain ⟨u, u1, u2⟩ := h8 w q
      exact ⟨u, by rw [(nn u (by omega)).2]; exact u1, u2⟩
theorem LI.keep {s : hs} {x : Int} {G : Nat → Prop} {d : Int} {v j : Nat} {D : Nat → Int} (h : LI s x G d v j D) (hk : s 1 (v + j) ≠ -1 → (sWh s (s 1 (v + j)) : Int) ≠ x → 0 ≤ D (sWh s (s 1 (v + j)))) : LI s x G d v (j + 1) D := by
  obtain ⟨h1, h2, h3, h4, h5, h6, h7, h8⟩ := h
  refine ⟨h1, h2, h3, h4, h5, h6, fun i w i1 i2 i3 q1 q2 q3 q4 => ?_, h8⟩
  by_cases c : i = j
  · subst c; rw [← q3]; exact hk q2 (by rw [q3]; exact q4)
  · exact h7 i w i1 (by omega) i3 q1 q2 q3 q4
theorem LI.next {s : hs} {x : Int} {G : Nat → Prop} {d : Int} {v j : Nat} {D : Nat → Int} (h : LI s x G d v j D) (hj : D v = d → s 1 v - 1000 < j) : LI s x G d (v + 1) 1 D := by
  obtain ⟨h1, h2, h3, h4, h5, h6, h7, h8⟩ := h
  refine ⟨h1, h2, h3, h4, h5, fun u w q1 q2 q3 => ?_, fun i w i1 i2 => by omega, h8⟩
  by_cases c : u = v
  · subst c
    obtain ⟨i, i1, i2, i3, i4⟩ := q3
    have := hj q2
    exact h7 i w i1.1 (by omega) i1.2 q2 i2 i3 i4
  · exact h6 u w (by omega) q2 q3
theorem LI.layer {s : hs} {x : Int} {G : Nat → Prop} {d : Int} {D : Nat → Int} (h : LI s x G d 64 1 D) (hd : 0 ≤ d) (g1 : G1 s G) : LI s x G (d + 1) 0 1 D := by
  obtain ⟨h1, h2, h3, h4, h5, h6, h7, h8⟩ := h
  refine ⟨fun w => by have := h1 w; omega, h2, h3, h4, fun u w q1 q2 q3 => ?_, fun u w q => by omega, fun i w i1 i2 => by omega, h8⟩
  by_cases c : D u = d
  · have := h6 u w (g1 u (h2 u (by omega))).1 c q3
    have := h1 w
    omega
  · exact h5 u w q1 (by omega) q3
