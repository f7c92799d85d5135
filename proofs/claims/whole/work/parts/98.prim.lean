/-! the class at token i, without a fault; behind one -/
def XP (M : xm) (T : Nat) (K P N : Nat → Nat) (i : Nat) : Prop := M 990 6 = 0 ∧ (M 990 9).toInt = (i : Int) ∧ i ≤ T ∧ T ≤ 300 ∧ (M 990 8).toInt = ((T + 1 : Nat) : Int) ∧ XT M (T + 1) K P N ∧ M 990 7 = -1
theorem XP.fr {M M' : xm} {T i : Nat} {K P N : Nat → Nat} (h : XP M T K P N i) (h0 : ∀ j, j ≠ 10 → M' 990 j = M 990 j) (h2 : M' 992 = M 992) (h3 : M' 993 = M 993) (h4 : M' 994 = M 994) : XP M' T K P N i := by
  unfold XP XT
  rw [h0 6 (by decide), h0 7 (by decide), h0 8 (by decide), h0 9 (by decide), h2, h3, h4]
  exact h
theorem XP.at {M : xm} {T i : Nat} {K P N : Nat → Nat} (h : XP M T K P N i) {j : Nat} (hj : j ≤ T) {v : Int32} (hv : v.toInt = (j : Int)) : XP (up2 M 990 9 v) T K P N j := by
  obtain ⟨a1, a2, a3, a4, a5, a6, a7⟩ := h
  refine ⟨by rw [up2_ne (by omega)]; exact a1, by rw [up2_same]; exact hv, hj, a4, by rw [up2_ne (by omega)]; exact a5, fun k hk => ?_, by rw [up2_ne (by omega)]; exact a7⟩
  rw [up2_cell (by decide), up2_cell (by decide), up2_cell (by decide)]
  exact a6 k hk
theorem x_nextKind {M : xm} {T i : Nat} {K P N : Nat → Nat} (h : XP M T K P N i) : ∃ k, f_X4_nextKind M = some k ∧ k.toInt = (K i : Int) := by
  obtain ⟨a1, a2, a3, a4, a5, a6, a7⟩ := h
  unfold f_X4_nextKind
  rw [if_pos a1, if_neg (c := M 990 9 < 0) (by rw [i_lt, a2]; simp only [Int32.reduceToInt]; omega), if_neg (c := M 990 8 ≤ M 990 9) (by rw [i_le, a2, a5]; omega), if_pos (i_in a2 (by omega)), i_ix a2]
  exact ⟨_, rfl, (a6 i (by omega)).1⟩
theorem x_nextKind0 {M : xm} (h : M 990 6 ≠ 0) : f_X4_nextKind M = some 42 := by
  unfold f_X4_nextKind
  rw [if_neg h]
theorem x_isNext {M : xm} {T i : Nat} {K P N : Nat → Nat} (h : XP M T K P N i) {a : Int32} {c : Nat} (ha : a.toInt = (c : Int)) : f_X4_isNext M a = some (if K i = c then 1 else 0) := by
  obtain ⟨k, k1, k2⟩ := x_nextKind h
  unfold f_X4_isNext
  rw [k1, xb1_some]
  by_cases q : K i = c
  · rw [if_pos q, if_pos (by rw [i_eq, k2, ha, q])]
  · rw [if_neg q, if_neg (by rw [i_eq, k2, ha]; omega)]
theorem x_isNext0 {M : xm} (h : M 990 6 ≠ 0) {a : Int32} (ha : a.toInt ≠ 42) : f_X4_isNext M a = some 0 := by
  unfold f_X4_isNext
  rw [x_nextKind0 h, xb1_some, if_neg (by rw [i_eq]; exact fun q => ha q.symm)]
/-- refused at token i -/
def XF (M M' : xm) (f : Int32) (p : Nat) : Prop := M' 990 6 = f ∧ (M' 990 7).toInt = (p : Int) ∧ (∀ q, q ≠ 990 → M' q = M q) ∧ ∀ j, j ≠ 6 → j ≠ 7 → M' 990 j = M 990 j
theorem x_refuse {M : xm} {T i : Nat} {K P N : Nat → Nat} (h : XP M T K P N i) (f : Int32) : ∃ M', f_X4_refuse M f = some M' ∧ XF M M' f (P i) := by
  obtain ⟨a1, a2, a3, a4, a5, a6, a7⟩ := h
  have e9 : up2 M 990 6 f 990 9 = M 990 9 := up2_ne (by omega)
  refine ⟨up2 (up2 M 990 6 f) 990 7 (M 993 i), ?_, by rw [up2_ne (by omega), up2_same], by rw [up2_same]; exact (a6 i (by omega)).2.1, fun q hq => by rw [up2_cell hq, up2_cell hq], fun j h6 h7 => by rw [up2_ne (by omega), up2_ne (by omega)]⟩
  unfold f_X4_refuse
  rw [if_pos a1, if_neg (c := M 990 9 < 0) (by rw [i_lt, a2]; simp only [Int32.reduceToInt]; omega), if_neg (c := M 990 8 ≤ M 990 9) (by rw [i_le, a2, a5]; omega), xlet_eq, e9, if_pos (i_in a2 (by omega)), i_ix a2, xlet_eq, up2_cell (by decide)]
theorem x_refuse0 {M : xm} (h : M 990 6 ≠ 0) (f : Int32) : f_X4_refuse M f = some M := by
  unfold f_X4_refuse
  rw [if_neg h]
theorem x_want {M : xm} {T i : Nat} {K P N : Nat → Nat} (h : XP M T K P N i) {a : Int32} {c : Nat} (ha : a.toInt = (c : Int)) (hc : c ≠ 41) (hK : K T = 41) : (K i = c → ∃ v, f_X4_want M a = some (up2 M 990 9 v) ∧ XP (up2 M 990 9 v) T K P N (i + 1)) ∧ (K i ≠ c → ∃ M', f_X4_want M a = some M' ∧ XF M M' 1 (P i)) := by
  have nx : (M 990 9 + 1).toInt = ((i + 1 : Nat) : Int) := k_add h.2.1 (y := 1) (b := 1) rfl (by have := h.2.2.1; have := h.2.2.2.1; omega)
  unfold f_X4_want
  rw [x_isNext h ha, xb1_some]
  constructor
  · intro q
    have iT : i ≠ T := fun e => by rw [e, hK] at q; exact hc q.symm
    rw [if_pos q, if_neg n10, xlet_eq]
    exact ⟨_, rfl, h.at (by have := h.2.2.1; omega) nx⟩
  · intro q
    obtain ⟨M', m1, m2⟩ := x_refuse h 1
    rw [if_neg q, if_pos rfl, m1, xb1_some]
    exact ⟨M', rfl, m2⟩
theorem x_want0 {M : xm} (h : M 990 6 ≠ 0) {a : Int32} (ha : a.toInt ≠ 42) : f_X4_want M a = some M := by
  unfold f_X4_want
  rw [x_isNext0 h ha, xb1_some, if_pos rfl, x_refuse0 h, xb1_some]
/-- code laid down at k -/
def XE (M M' : xm) (k : Nat) (o v : Int) : Prop := (M' 995 9).toInt = ((k + 1 : Nat) : Int) ∧ (M' 1000 k).toInt = o ∧ (M' 1001 k).toInt = v ∧ (∀ i, i ≠ k → M' 1000 i = M 1000 i ∧ M' 1001 i = M 1001 i) ∧ (∀ q, q ≠ 995 → q ≠ 1000 → q ≠ 1001 → M' q = M q) ∧ ∀ i, i ≠ 9 → M' 995 i = M 995 i
theorem x_emit {M : xm} (h : M 990 6 = 0) {k : Nat} (hk : (M 995 9).toInt = (k : Int)) (k3 : k < 300) {a b : Int32} {o v : Int} (ha : a.toInt = o) (hb : b.toInt = v) : ∃ r M', f_X4_emit M a b = some (r, M') ∧ r.toInt = (k : Int) ∧ XE M M' k o v := by
  have q1 : up2 M 1000 k a 995 = M 995 := up2_cell (by decide)
  have q2 : up2 (up2 M 1000 k a) 1001 k b 995 = M 995 := by rw [up2_cell (by decide), q1]
  have nx : (M 995 9 + 1).toInt = ((k + 1 : Nat) : Int) := k_add hk (y := 1) (b := 1) rfl (by omega)
  refine ⟨M 995 9 + 1 - 1, up2 (up2 (up2 M 1000 k a) 1001 k b) 995 9 (M 995 9 + 1), ?_, ?_, by rw [up2_same]; exact nx, by rw [up2_cell (by decide), up2_cell (by decide), up2_same]; exact ha, by rw [up2_cell (by decide), up2_same]; exact hb, fun i hi => ⟨by rw [up2_cell (by decide), up2_cell (by decide), up2_ne (by omega)], by rw [up2_cell (by decide), up2_ne (by omega), up2_cell (by decide)]⟩, fun q c1 c2 c3 => by rw [up2_cell c1, up2_cell c3, up2_cell c2], fun i hi => by rw [up2_ne (by omega), q2]⟩
  · unfold f_X4_emit f_X7_addCode
    rw [if_pos h, if_pos (c := M (990 + 5) 9 < 300) (by rw [i_lt, show M (990 + 5) 9 = M 995 9 from rfl, hk]; simp only [Int32.reduceToInt]; omega), if_pos (i_in (x := M (990 + 5) 9) hk k3), i_ix (x := M (990 + 5) 9) hk, xlet_eq, show (990 + 5 + 5 : Nat) = 1000 from rfl, show (990 + 5 + 6 : Nat) = 1001 from rfl, show (990 + 5 : Nat) = 995 from rfl, q1, if_pos (i_in hk k3), i_ix hk, xlet_eq, q2, xlet_eq, xb2_some, up2_same]
  · rw [i_sub nx (b := 1) rfl (by omega) (by omega)]; omega
theorem x_emit0 {M : xm} (h : M 990 6 ≠ 0) (a b : Int32) : f_X4_emit M a b = some (-1, M) := by
  unfold f_X4_emit
  rw [if_neg h]
theorem x_wantNumber {M : xm} {T i : Nat} {K P N : Nat → Nat} (h : XP M T K P N i) (hK : K T = 41) {a b : Int32} {lo hi : Nat} (ha : a.toInt = (lo : Int)) (hb : b.toInt = (hi : Int)) : (K i ≠ 40 → ∃ M', f_X4_wantNumber M a b = some (0, M') ∧ XF M M' 1 (P i)) ∧ (K i = 40 → ¬ (lo ≤ N i ∧ N i ≤ hi) → ∃ M', f_X4_wantNumber M a b = some (0, M') ∧ XF M M' 2 (P i)) ∧ (K i = 40 → (lo ≤ N i ∧ N i ≤ hi) → ∃ r v, f_X4_wantNumber M a b = some (r, up2 M 990 9 v) ∧ r.toInt = (N i : Int) ∧ XP (up2 M 990 9 v) T K P N (i + 1)) := by
  have nx : (M 990 9 + 1).toInt = ((i + 1 : Nat) : Int) := k_add h.2.1 (y := 1) (b := 1) rfl (by have := h.2.2.1; have := h.2.2.2.1; omega)
  have i9 := h.2.1
  have iT := h.2.2.1
  have T3 := h.2.2.2.1
  have vn : (M 994 i).toInt = (N i : Int) := (h.2.2.2.2.2.1 i (by omega)).2.2
  unfold f_X4_wantNumber
  rw [x_isNext h (a := 40) (c := 40) rfl, xb1_some]
  refine ⟨fun q => ?_, fun q r => ?_, fun q r => ?_⟩
  · obtain ⟨M', m1, m2⟩ := x_refuse h 1
    rw [if_neg q, if_pos rfl, m1, xb1_some]
    exact ⟨M', rfl, m2⟩
  · obtain ⟨M', m1, m2⟩ := x_refuse h 2
    rw [if_pos q, if_neg n10, if_pos (i_in i9 (by omega)), i_ix i9, xlet_eq, xlet_eq, show M (990 + 4) i = M 994 i from rfl, m1, xb1_some]
    refine ⟨M', ?_, m2⟩
    by_cases c : M 994 i < a
    · rw [if_pos c]
    · rw [if_neg c, if_neg]
      rw [i_lt, vn, ha] at c
      rw [i_le, vn, hb]
      omega
  · rw [if_pos q, if_neg n10, if_pos (i_in i9 (by omega)), i_ix i9, xlet_eq, xlet_eq, show M (990 + 4) i = M 994 i from rfl, if_neg (c := M 994 i < a) (by rw [i_lt, vn, ha]; omega), if_pos (c := M 994 i ≤ b) (by rw [i_le, vn, hb]; omega), xlet_eq]
    have iT2 : i ≠ T := fun e => by rw [e, hK] at q; omega
    exact ⟨_, _, rfl, vn, h.at (by omega) nx⟩
theorem x_wantNumber0 {M : xm} (h : M 990 6 ≠ 0) (a b : Int32) : f_X4_wantNumber M a b = some (0, M) := by
  unfold f_X4_wantNumber
  rw [x_isNext0 h (by decide), xb1_some, if_pos rfl, x_refuse0 h, xb1_some]
/-! the reference at token i -/
def YP (M : xm) (L : xn) (B : Nat → Int) (n : Nat) (K P N E : Nat → Nat) (i : Nat) : Prop := YB M B n ∧ (M 0 7).toInt = (E (i + 1) : Int) ∧ (M 0 8).toInt = (P i : Int) ∧ TkY M L (K i) (N i)
theorem YP.fr {M M' : xm} {L : xn} {B : Nat → Int} {n i : Nat} {K P N E : Nat → Nat} (h : YP M L B n K P N E i) (h4 : M' 4 = M 4) (h0 : ∀ j, j = 4 ∨ j = 7 ∨ j = 8 ∨ j = 9 ∨ j = 10 → M' 0 j = M 0 j) : YP M' L B n K P N E i := by
  unfold YP YB TkY
  rw [h4, h0 4 (by omega), h0 7 (by omega), h0 8 (by omega), h0 9 (by omega), h0 10 (by omega)]
  exact h
theorem y_next {M : xm} {L : xn} {B : Nat → Int} {n T i : Nat} {K P N E : Nat → Nat} (h : YP M L B n K P N E i) (ht : Tks B n T K P N E) (hi : i < T) : ∃ M' L', f_X10_nextToken M L = some (M', L') ∧ YP M' L' B n K P N E (i + 1) ∧ fr0 M M' := by
  obtain ⟨a1, a2, a3, a4⟩ := h
  obtain ⟨b1, b2, b3, b4⟩ := ht.2.2.2.2.1 (i + 1) (by omega)
  obtain ⟨M', L', k1, k2, k3, k4, k5⟩ := y_nextToken (L := L) a1 a2 b3 b1 b2
  exact ⟨M', L', k1, ⟨a1.fr k5, k2, k3, k4⟩, k5⟩
theorem TkY.is {M : xm} {L : xn} {kd nm : Nat} (h : TkY M L kd nm) {x : Int32} (h2 : x.toInt ≠ 2) (h3 : x.toInt ≠ 3) (h5 : x.toInt ≠ 58) : M 0 9 = x ↔ tkc kd = x.toInt := by
  rw [i_eq]
  rcases h.1 with q | ⟨q1, q2⟩
  · rw [q]
  · rw [q1]
    have e : tkc 42 = 3 := rfl
    rw [e]
    constructor
    · intro c; rw [c] at q2; omega
    · intro c; exact absurd c.symm h3
theorem TkY.word {M : xm} {L : xn} {kd nm : Nat} (h : TkY M L kd nm) {w : Int64} {k : Nat} (hk : k < 27) (hw : w.toInt = (vcd k : Int)) : f_X10_isWord M L w = if kd = k then 1 else 0 := by
  unfold f_X10_isWord
  by_cases c : M 0 9 = 2
  · have c2 : (M 0 9).toInt = 2 := by rw [c]; rfl
    have e := h.2.2.1 c2 k hk
    rw [if_pos c]
    by_cases q : kd = k
    · rw [if_pos q, if_pos (by rw [lc_eq, hw]; exact e.mpr q)]
    · rw [if_neg q, if_neg (by rw [lc_eq, hw]; exact fun p => q (e.mp p))]
  · rw [if_neg c, if_neg]
    intro q
    apply c
    rw [i_eq]
    rcases h.1 with p | ⟨p1, _⟩
    · rw [p, q]
      unfold tkc
      rw [if_pos hk]; rfl
    · omega
