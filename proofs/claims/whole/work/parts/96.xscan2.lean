/-! the class's tokens -/
theorem v_sign : ∀ c, c < 256 → f_J0_indexOf_0f7a4 0 (((nI c).toUInt32 % 65536).toInt32) = some (if sgK (c : Nat) = 42 then -1 else nI (sgK (c : Nat) - 27)) := by decide +kernel
/-- token t is laid down -/
def AdT (M M' : xm) (t kd p nm : Nat) : Prop := (M' 990 8).toInt = ((t + 1 : Nat) : Int) ∧ (M' 992 t).toInt = (kd : Int) ∧ (M' 993 t).toInt = (p : Int) ∧ (M' 994 t).toInt = (nm : Int) ∧ (∀ q, q ≠ 990 → q ≠ 992 → q ≠ 993 → q ≠ 994 → M' q = M q) ∧ (∀ i, i ≠ 8 → M' 990 i = M 990 i) ∧ ∀ q i, q = 992 ∨ q = 993 ∨ q = 994 → i ≠ t → M' q i = M q i
theorem x_addToken {M : xm} {t kd p nm : Nat} {a1 a2 a3 : Int32} (ht : (M 990 8).toInt = (t : Int)) (h3 : t ≤ 300) (h1 : a1.toInt = (kd : Int)) (h2 : a2.toInt = (p : Int)) (hn : a3.toInt = (nm : Int)) : ∃ M', f_X4_addToken M a1 a2 a3 = some M' ∧ AdT M M' t kd p nm := by
  have q1 : up2 M 992 t a1 990 = M 990 := up2_cell (by decide)
  have q2 : up2 (up2 M 992 t a1) 993 t a2 990 = M 990 := by rw [up2_cell (by decide), q1]
  have q3 : up2 (up2 (up2 M 992 t a1) 993 t a2) 994 t a3 990 = M 990 := by rw [up2_cell (by decide), q2]
  refine ⟨up2 (up2 (up2 (up2 M 992 t a1) 993 t a2) 994 t a3) 990 8 (M 990 8 + 1), ?_, ?_, ?_, ?_, ?_, ?_, ?_, ?_⟩
  · unfold f_X4_addToken
    rw [if_neg (by rw [i_lt, ht]; simp only [Int32.reduceToInt]; omega), if_pos (i_in ht (by omega)), i_ix ht, xlet_eq, show (990 + 2 : Nat) = 992 from rfl, q1, if_pos (i_in ht (by omega)), i_ix ht, xlet_eq, show (990 + 3 : Nat) = 993 from rfl, q2, if_pos (i_in ht (by omega)), i_ix ht, xlet_eq, show (990 + 4 : Nat) = 994 from rfl, q3, xlet_eq]
  · rw [up2_same]; exact k_add ht (y := 1) (b := 1) rfl (by omega)
  · rw [up2_cell (by decide), up2_cell (by decide), up2_cell (by decide), up2_same]; exact h1
  · rw [up2_cell (by decide), up2_cell (by decide), up2_same]; exact h2
  · rw [up2_cell (by decide), up2_same]; exact hn
  · intro q a b c d
    rw [up2_cell a, up2_cell d, up2_cell c, up2_cell b]
  · intro i hi
    rw [up2_ne (by omega), q3]
  · intro q i hq hi
    rw [up2_cell (by omega)]
    rcases hq with rfl | rfl | rfl
    · rw [up2_cell (by decide), up2_cell (by decide), up2_ne (by omega)]
    · rw [up2_cell (by decide), up2_ne (by omega), up2_cell (by decide)]
    · rw [up2_ne (by omega), up2_cell (by decide), up2_cell (by decide)]
theorem XB.fr {M M' : xm} {B : Nat → Int} {n : Nat} (h : XB M B n) (h1 : M' 990 5 = M 990 5) (h2 : M' 991 = M 991) : XB M' B n := by
  unfold XB; rw [h1, h2]; exact h
theorem AdT.xb {M M' : xm} {B : Nat → Int} {n t kd p nm : Nat} (h : XB M B n) (a : AdT M M' t kd p nm) : XB M' B n := h.fr (a.2.2.2.2.2.1 5 (by decide)) (a.2.2.2.2.1 991 (by decide) (by decide) (by decide) (by decide))
theorem x_scanFrom {M : xm} {B : Nat → Int} {n i t : Nat} {x : Int32} (h : XB M B n) (hx : x.toInt = (i : Int)) (hi : i < n) (ht : (M 990 8).toInt = (t : Int)) (h3 : t ≤ 300) : (blP (bt B n i) → ∃ r, f_X4_scanFrom M x = some (r, M) ∧ r.toInt = ((i + 1 : Nat) : Int)) ∧ (¬ blP (bt B n i) → ∃ r M' kd nm e, f_X4_scanFrom M x = some (r, M') ∧ r.toInt = ((e : Nat) : Int) ∧ i < e ∧ e ≤ n ∧ Tok B n i kd nm e ∧ kd ≠ 41 ∧ AdT M M' t kd i nm) := by
  have n3 := h.2.1
  obtain ⟨r, r1, r2⟩ := h.byte hx
  have bi := h.2.2 i hi
  have be : bt B n i = B i := by unfold bt; rw [if_pos hi]
  have nx : (x + 1).toInt = ((i + 1 : Nat) : Int) := k_add hx (y := 1) (b := 1) rfl (by omega)
  have nx2 : (x + 2).toInt = ((i + 2 : Nat) : Int) := k_add hx (y := 2) (b := 2) rfl (by omega)
  unfold f_X4_scanFrom
  rw [r1, xb1_some]
  constructor
  · intro b
    rcases b with b | b
    · rw [if_pos (c := r = 32) (by rw [i_eq, r2, b]; rfl)]
      exact ⟨_, rfl, nx⟩
    · rw [if_neg (c := r = 32) (by rw [i_eq, r2, b]; decide), if_pos (c := r = 10) (by rw [i_eq, r2, b]; rfl)]
      exact ⟨_, rfl, nx⟩
  · intro b
    rw [if_neg (c := r = 32) (fun q => b (Or.inl (by rw [← r2, q]; rfl))), if_neg (c := r = 10) (fun q => b (Or.inr (by rw [← r2, q]; rfl))), xLet r2]
    by_cases cl : lcP (bt B n i)
    · obtain ⟨e, j, k1, k2, k3⟩ := x_letters (u := x) h (n - i) i xfuel x (by omega) (by unfold xfuel; omega) hx
      have jn := k3.le (by omega) (by decide)
      have j1 : i < j := by
        rcases Nat.lt_or_ge i j with q | q
        · exact q
        · exact absurd cl (by have := k3.1; rw [show i = j by omega]; exact k3.2.2)
      obtain ⟨kd, w1, w2⟩ := x_wordKind h hx k2 (by omega) (by omega)
      have kdl : kd ≤ 42 ∧ kd ≠ 41 ∧ kd ≠ 40 := by
        rcases w1 with w | w
        · have := w.1; omega
        · omega
      obtain ⟨M', m1, m2⟩ := x_addToken ht h3 (a1 := nI kd) (a3 := 0) (nI_toInt (by omega)) hx (nm := 0) rfl
      rw [if_pos cl, if_neg n10, k1, xb1_some, w2, xb1_some, m1, xb1_some]
      exact ⟨e, M', kd, 0, j, rfl, k2, j1, jn, Or.inr (Or.inr (Or.inl ⟨cl, k3, w1⟩)), kdl.2.1, m2⟩
    · rw [if_neg cl, if_pos rfl, xFig r2]
      by_cases cd : dgP (bt B n i)
      · obtain ⟨e, s, j, k1, k2, k3, k4⟩ := x_digits (i := i) (u := x) h (n - i) 0 xfuel x 0 (by omega) (by unfold xfuel; omega) hx rfl (fun k hk => by omega)
        have jn := k4.le (by omega) (by decide)
        have j1 : i < j := by
          rcases Nat.lt_or_ge i j with q | q
          · exact q
          · exact absurd cd (by have := k4.1; rw [show i = j by omega]; exact k4.2.2)
        obtain ⟨M', m1, m2⟩ := x_addToken (kd := 40) (a1 := 40) ht h3 rfl hx k3
        rw [if_pos cd, if_neg n10, k1, xb2_some, m1, xb1_some]
        exact ⟨e, M', 40, _, j, rfl, k2, j1, jn, Or.inr (Or.inl ⟨cd, rfl, k4, rfl⟩), by omega, m2⟩
      · rw [if_neg cd, if_pos rfl]
        simp only [xlet_eq]
        obtain ⟨v, v1, v2⟩ := h.byte nx
        rw [v1, xb1_some]
        have rc : r = nI (bt B n i).toNat := by rw [i_eq, r2, nI_toInt (by omega)]; omega
        have bn : (((bt B n i).toNat : Nat) : Int) = bt B n i := by omega
        have vs := v_sign (bt B n i).toNat (by omega)
        rw [bn, ← rc] at vs
        by_cases tw : twP B n i
        · have two : ∀ (A : Option (Int32 × xm)) (C : Option (Int32 × xm)), (if r = 60 then (if v = 61 then A else C) else if r = 62 then (if v = 61 then A else C) else C) = A := fun A C => by
            rw [if_pos (c := v = 61) (by rw [i_eq, v2, tw.2]; rfl)]
            rcases tw.1 with q | q
            · rw [if_pos (by rw [i_eq, r2, q]; rfl)]
            · rw [if_neg (by rw [i_eq, r2, q]; decide), if_pos (by rw [i_eq, r2, q]; rfl)]
          rw [two, if_neg n10]
          have i2 : i + 2 ≤ n := by
            rcases Nat.lt_or_ge (i + 1) n with q | q
            · omega
            · have t2 := tw.2
              unfold bt at t2
              rw [if_neg (by omega)] at t2
              omega
          by_cases q : bt B n i = 60
          · obtain ⟨M', m1, m2⟩ := x_addToken (kd := 38) (a1 := 38) (a3 := 0) ht h3 rfl hx (nm := 0) rfl
            rw [if_pos (c := r = 60) (by rw [i_eq, r2, q]; rfl), m1, xb1_some]
            exact ⟨_, M', 38, 0, i + 2, rfl, nx2, by omega, i2, Or.inr (Or.inr (Or.inr (Or.inl ⟨⟨by omega, cd, cl⟩, tw, rfl, by rw [if_pos q]⟩))), by omega, m2⟩
          · obtain ⟨M', m1, m2⟩ := x_addToken (kd := 39) (a1 := 39) (a3 := 0) ht h3 rfl hx (nm := 0) rfl
            rw [if_neg (c := r = 60) (by rw [i_eq, r2]; exact q), m1, xb1_some]
            exact ⟨_, M', 39, 0, i + 2, rfl, nx2, by omega, i2, Or.inr (Or.inr (Or.inr (Or.inl ⟨⟨by omega, cd, cl⟩, tw, rfl, by rw [if_neg q]⟩))), by omega, m2⟩
        · have one : ∀ (A : Option (Int32 × xm)) (C : Option (Int32 × xm)), (if r = 60 then (if v = 61 then A else C) else if r = 62 then (if v = 61 then A else C) else C) = C := fun A C => by
            by_cases q : v = 61
            · have q' : bt B n (i + 1) = 61 := by rw [← v2, q]; rfl
              rw [if_neg (c := r = 60) (fun p => tw ⟨Or.inl (by rw [← r2, p]; rfl), q'⟩), if_neg (c := r = 62) (fun p => tw ⟨Or.inr (by rw [← r2, p]; rfl), q'⟩)]
            · rw [if_neg (c := v = 61) q]
              split
              · rfl
              · split <;> rfl
          rw [one, if_pos trivial, vs, xb1_some]
          have ki := sgK_in (bt B n i)
          have k41 : sgK (bt B n i) ≠ 41 := by
            unfold sgK
            repeat' split
            all_goals omega
          by_cases q : sgK (bt B n i) = 42
          · obtain ⟨M', m1, m2⟩ := x_addToken (kd := sgK (bt B n i)) (a1 := 42) (a3 := 0) ht h3 (by rw [q]; rfl) hx (nm := 0) rfl
            rw [if_pos (c := sgK (bt B n i) = 42) q, if_neg (c := (0 : Int32) ≤ -1) (by decide), m1, xb1_some]
            exact ⟨_, M', _, 0, i + 1, rfl, nx, by omega, by omega, Or.inr (Or.inr (Or.inr (Or.inr ⟨⟨by omega, cd, cl⟩, tw, rfl, rfl⟩))), k41, m2⟩
          · have nk : (nI (sgK (bt B n i) - 27)).toInt = ((sgK (bt B n i) - 27 : Nat) : Int) := nI_toInt (by omega)
            obtain ⟨M', m1, m2⟩ := x_addToken (kd := sgK (bt B n i)) (a1 := 27 + nI (sgK (bt B n i) - 27)) (a3 := 0) ht h3 (by rw [i_add (a := 27) rfl nk (by omega) (by omega)]; omega) hx (nm := 0) rfl
            rw [if_neg (c := sgK (bt B n i) = 42) q, if_pos (c := 0 ≤ nI (sgK (bt B n i) - 27)) (by rw [i_le, nk]; simp only [Int32.reduceToInt]; omega), m1, xb1_some]
            exact ⟨_, M', _, 0, i + 1, rfl, nx, by omega, by omega, Or.inr (Or.inr (Or.inr (Or.inr ⟨⟨by omega, cd, cl⟩, tw, rfl, rfl⟩))), k41, m2⟩
