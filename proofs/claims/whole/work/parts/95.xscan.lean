/-! the class's scanner -/
def XB (M : xm) (B : Nat → Int) (n : Nat) : Prop := (M 990 5).toInt = (n : Int) ∧ n ≤ 300 ∧ ∀ i, i < n → (M 991 i).toInt = B i ∧ 0 ≤ B i ∧ B i ≤ 255
theorem XB.byte {M : xm} {B : Nat → Int} {n : Nat} (h : XB M B n) {x : Int32} {i : Nat} (hx : x.toInt = (i : Int)) : ∃ r, f_X4_byteAt M x = some r ∧ r.toInt = bt B n i := by
  have h2 := h.2.1
  unfold f_X4_byteAt bt
  rw [if_neg (c := x < 0) (by rw [i_lt, hx]; simp only [Int32.reduceToInt]; omega)]
  by_cases c : i < n
  · rw [if_neg (c := M 990 5 ≤ x) (by rw [i_le, h.1, hx]; omega), if_neg (c := (300 : Int32) ≤ x) (by rw [i_le, hx]; simp only [Int32.reduceToInt]; omega), if_pos (i_in hx (by omega)), i_ix hx, if_pos c]
    exact ⟨_, rfl, (h.2.2 i c).1⟩
  · rw [if_pos (c := M 990 5 ≤ x) (by rw [i_le, h.1, hx]; omega), if_neg c]
    exact ⟨-1, rfl, rfl⟩
theorem xLet {x : Int32} {c : Int} (h : x.toInt = c) : f_X4_isLetter x = if lcP c then 1 else 0 := yLet h
theorem xFig {x : Int32} {c : Int} (h : x.toInt = c) : f_X4_isDigit x = if dgP c then 1 else 0 := yFig h
theorem Rn.cons {P : Int → Prop} {B : Nat → Int} {n i j : Nat} (h : Rn P B n (i + 1) j) (hp : P (bt B n i)) : Rn P B n i j := by
  refine ⟨by have := h.1; omega, fun m h1 h2 => ?_, h.2.2⟩
  by_cases c : m = i
  · rw [c]; exact hp
  · exact h.2.1 m (by omega) h2
theorem bt_end {B : Nat → Int} {n : Nat} : bt B n n = -1 := by unfold bt; rw [if_neg (by omega)]
theorem x_letters {M : xm} {B : Nat → Int} {n : Nat} {u : Int32} (h : XB M B n) : ∀ (d i f : Nat) (x : Int32), i + d = n → d < f → x.toInt = (i : Int) → ∃ r j, g_X4_scanFrom_31 M u f x = some r ∧ r.toInt = ((j : Nat) : Int) ∧ Rn lcP B n i j := by
  have h2 := h.2.1
  intro d
  induction d with
  | zero =>
    intro i f x hi hf hx
    obtain ⟨f, rfl⟩ : ∃ q, f = q + 1 := ⟨f - 1, by omega⟩
    have e : i = n := by omega
    subst e
    unfold g_X4_scanFrom_31
    rw [if_pos (by rw [i_le, h.1, hx]; omega)]
    exact ⟨x, i, rfl, hx, Nat.le_refl _, fun m _ _ => by omega, by rw [bt_end]; decide⟩
  | succ d ih =>
    intro i f x hi hf hx
    obtain ⟨f, rfl⟩ : ∃ q, f = q + 1 := ⟨f - 1, by omega⟩
    obtain ⟨r, r1, r2⟩ := h.byte hx
    unfold g_X4_scanFrom_31
    rw [if_neg (by rw [i_le, h.1, hx]; omega), r1, xb1_some, xLet r2]
    by_cases c : lcP (bt B n i)
    · rw [if_pos c, if_neg n10, xlet_eq]
      obtain ⟨s, j, k1, k2, k3⟩ := ih (i + 1) f (x + 1) (by omega) (by omega) (k_add hx (y := 1) (b := 1) rfl (by omega))
      exact ⟨s, j, k1, k2, k3.cons c⟩
    · rw [if_neg c, if_pos rfl]
      exact ⟨x, i, rfl, hx, Nat.le_refl _, fun m _ _ => by omega, c⟩
theorem min10 {a : Nat} {d : Int} (hd : 48 ≤ d ∧ d ≤ 57) : min 10000 (10 * min 10000 a + (d - 48).toNat) = min 10000 (if 99999 < a then a else 10 * a + (d - 48).toNat) := by
  split <;> omega
theorem x_digits {M : xm} {B : Nat → Int} {n i : Nat} {u : Int32} (h : XB M B n) : ∀ (d c f : Nat) (x y : Int32), i + c + d = n → d < f → x.toInt = ((i + c : Nat) : Int) → y.toInt = ((min 10000 (ynm B n i c) : Nat) : Int) → (∀ k, k < c → dgP (bt B n (i + k))) → ∃ r s j, g_X4_scanFrom_82 M u f x y = some (r, s) ∧ r.toInt = ((j : Nat) : Int) ∧ s.toInt = ((min 10000 (ynm B n i (j - i)) : Nat) : Int) ∧ Rn dgP B n i j := by
  have h2 := h.2.1
  intro d
  induction d with
  | zero =>
    intro c f x y hi hf hx hy hc
    obtain ⟨f, rfl⟩ : ∃ q, f = q + 1 := ⟨f - 1, by omega⟩
    unfold g_X4_scanFrom_82
    rw [if_pos (by rw [i_le, h.1, hx]; omega)]
    refine ⟨x, y, i + c, rfl, hx, by rw [show i + c - i = c by omega]; exact hy, by omega, fun m h1 h2 => ?_, by rw [show i + c = n by omega, bt_end]; decide⟩
    have := hc (m - i) (by omega)
    rw [show i + (m - i) = m by omega] at this
    exact this
  | succ d ih =>
    intro c f x y hi hf hx hy hc
    obtain ⟨f, rfl⟩ : ∃ q, f = q + 1 := ⟨f - 1, by omega⟩
    obtain ⟨r, r1, r2⟩ := h.byte hx
    unfold g_X4_scanFrom_82
    rw [if_neg (by rw [i_le, h.1, hx]; omega), r1, xb1_some, xFig r2]
    by_cases q : dgP (bt B n (i + c))
    · have v1 : (y * 10).toInt = ((min 10000 (ynm B n i c) : Nat) : Int) * 10 := i_mul hy (b := 10) rfl (by omega) (by omega)
      have v2 : (y * 10 + r).toInt = ((min 10000 (ynm B n i c) : Nat) : Int) * 10 + bt B n (i + c) := i_add v1 r2 (by omega) (by omega)
      have v3 : (y * 10 + r - 48).toInt = ((10 * min 10000 (ynm B n i c) + (bt B n (i + c) - 48).toNat : Nat) : Int) := by rw [i_sub v2 (b := 48) rfl (by omega) (by omega)]; omega
      have v4 := k_min (x := 10000) (a := 10000) rfl v3
      have e : ynm B n i (c + 1) = if 99999 < ynm B n i c then ynm B n i c else 10 * ynm B n i c + (bt B n (i + c) - 48).toNat := rfl
      rw [min10 q, ← e] at v4
      rw [if_pos q, if_neg n10, xb1_some, xlet_eq, xlet_eq]
      exact ih (c + 1) f (x + 1) _ (by omega) (by omega) (by rw [k_add hx (y := 1) (b := 1) rfl (by omega)]; omega) v4 (fun k hk => by
        by_cases ck : k = c
        · rw [ck]; exact q
        · exact hc k (by omega))
    · rw [if_neg q, if_pos rfl]
      refine ⟨x, y, i + c, rfl, hx, by rw [show i + c - i = c by omega]; exact hy, by omega, fun m h1 h2 => ?_, q⟩
      have := hc (m - i) (by omega)
      rw [show i + (m - i) = m by omega] at this
      exact this
/-! words of the vocabulary -/
def pS : Nat → Nat
  | 0 => 1
  | k + 1 => pS k + vLn k + 1
theorem v_len : f_J0_length_8abf5 1 = 134 := by decide +kernel
theorem v_word : ∀ k, k < 27 → ∀ m, m < vLn k → f_J0_charAt_5068e 1 (nI (pS k + m)) = some (nI (vO k m).toNat) := by decide +kernel
theorem v_gap : ∀ k, k < 27 → f_J0_charAt_5068e 1 (nI (pS k + vLn k)) = some 32 := by decide +kernel
theorem v_end : pS 27 = 134 := by decide +kernel
theorem v_lt : ∀ k, k < 27 → pS k + vLn k < 134 := by decide +kernel
theorem x_same {M : xm} {B : Nat → Int} {n j k : Nat} (h : XB M B n) (hk : k < 27) {x5 x6 x7 : Int32} (h5 : x5.toInt = (j : Int)) (hj : j ≤ 300) (h6 : x6.toInt = (pS k : Int)) (h7 : x7.toInt = ((pS k + vLn k : Nat) : Int)) : ∀ (d m f : Nat) (y : Int32), m + d = vLn k → d < f → y.toInt = (m : Int) → (∀ i, i < m → bt B n (j + i) = vO k i) → ((∀ i, i < vLn k → bt B n (j + i) = vO k i) → g_X4_isWord_29 M x5 x6 x7 f y = some (Sum.inr ())) ∧ (¬ (∀ i, i < vLn k → bt B n (j + i) = vO k i) → g_X4_isWord_29 M x5 x6 x7 f y = some (Sum.inl ())) := by
  have e76 : (x7 - x6).toInt = (vLn k : Int) := by rw [i_sub h7 h6 (by have := v_lt k hk; omega) (by have := v_lt k hk; omega)]; omega
  have vl := v_lt k hk
  intro d
  induction d with
  | zero =>
    intro m f y hm hf hy hi
    obtain ⟨f, rfl⟩ : ∃ q, f = q + 1 := ⟨f - 1, by omega⟩
    have e : g_X4_isWord_29 M x5 x6 x7 (f + 1) y = some (Sum.inr ()) := by
      unfold g_X4_isWord_29
      rw [if_pos (by rw [i_le, e76, hy]; omega)]
    exact ⟨fun _ => e, fun q => absurd (fun i hi' => hi i (by omega)) q⟩
  | succ d ih =>
    intro m f y hm hf hy hi
    obtain ⟨f, rfl⟩ : ∃ q, f = q + 1 := ⟨f - 1, by omega⟩
    obtain ⟨r, r1, r2⟩ := h.byte (x := x5 + y) (i := j + m) (k_add h5 hy (by omega))
    have e6 : x6 + y = nI (pS k + m) := by rw [i_eq, k_add h6 hy (by omega), nI_toInt (by omega)]
    have vl := vO_let k hk m (by omega)
    have ev : (nI (vO k m).toNat).toInt = vO k m := by rw [nI_toInt (by omega)]; omega
    have ny : (y + 1).toInt = ((m + 1 : Nat) : Int) := k_add hy (y := 1) (b := 1) rfl (by omega)
    have st : g_X4_isWord_29 M x5 x6 x7 (f + 1) y = if r = nI (vO k m).toNat then g_X4_isWord_29 M x5 x6 x7 f (y + 1) else some (Sum.inl ()) := by
      rw [g_X4_isWord_29, if_neg (by rw [i_le, e76, hy]; omega), r1, xb1_some, e6, v_word k hk m (by omega), xb1_some, xlet_eq]
    by_cases c : bt B n (j + m) = vO k m
    · rw [st, if_pos (by rw [i_eq, r2, ev]; exact c)]
      exact ih (m + 1) f (y + 1) (by omega) (by omega) ny (fun i hi' => by
        by_cases ci : i = m
        · rw [ci]; exact c
        · exact hi i (by omega))
    · rw [st, if_neg (by rw [i_eq, r2, ev]; exact c)]
      exact ⟨fun q => absurd (q m (by omega)) c, fun _ => rfl⟩
theorem x_isWord {M : xm} {B : Nat → Int} {n j e k : Nat} (h : XB M B n) (hk : k < 27) {a1 a2 a3 a4 : Int32} (h1 : a1.toInt = (j : Int)) (h2 : a2.toInt = (e : Int)) (hje : j ≤ e) (he : e ≤ 300) (h3 : a3.toInt = (pS k : Int)) (h4 : a4.toInt = ((pS k + vLn k : Nat) : Int)) : (wkP B n j e k → f_X4_isWord M a1 a2 a3 a4 = some 1) ∧ (¬ wkP B n j e k → f_X4_isWord M a1 a2 a3 a4 = some 0) := by
  have vl := v_lt k hk
  have e21 : (a2 - a1).toInt = ((e - j : Nat) : Int) := k_sub h2 h1 hje (by omega)
  have e43 : (a4 - a3).toInt = (vLn k : Int) := by rw [i_sub h4 h3 (by omega) (by omega)]; omega
  have lp := x_same h hk h1 (by omega) h3 h4 (vLn k) 0 xfuel 0 (by omega) (by have := (vLn_in k hk).2; unfold xfuel; omega) rfl (fun i hi => by omega)
  unfold f_X4_isWord
  by_cases c : e - j = vLn k
  · rw [if_pos (by rw [i_eq, e21, e43, c]), if_neg (c := a3 < 0) (by rw [i_lt, h3]; simp only [Int32.reduceToInt]; omega), if_pos (by rw [v_len, i_le, h4]; simp only [Int32.reduceToInt]; omega)]
    constructor
    · rintro ⟨_, _, q⟩
      rw [lp.1 q, xs2_r]
    · intro q
      rw [lp.2 (fun p => q ⟨hk, c, p⟩), xs2_l]
  · rw [if_neg (by rw [i_eq, e21, e43]; omega)]
    exact ⟨fun q => absurd q.2.1 c, fun _ => rfl⟩
theorem x_kind_loop {M : xm} {B : Nat → Int} {n j e : Nat} (h : XB M B n) {x1 x2 : Int32} (h1 : x1.toInt = (j : Int)) (h2 : x2.toInt = (e : Int)) (hje : j ≤ e) (he : e ≤ 300) : ∀ (d k m f : Nat) (x3 x4 x5 : Int32), k ≤ 27 → (k < 27 → m ≤ vLn k) → (k = 27 → m = 0) → pS k + m + d = 134 → d < f → x3.toInt = (k : Int) → x4.toInt = (pS k : Int) → x5.toInt = ((pS k + m : Nat) : Int) → (∀ l, l < k → ¬ wkP B n j e l) → ∃ kd : Nat, WkD B n j e kd ∧ xs2 (g_X4_wordKind_8 M x1 x2 f x3 x4 x5) (fun q20 => some q20) (fun q20 => some (42 : Int32)) = some (nI kd) := by
  intro d
  induction d with
  | zero =>
    intro k m f x3 x4 x5 hk hm hm0 hd hf e3 e4 e5 hn
    obtain ⟨f, rfl⟩ : ∃ q, f = q + 1 := ⟨f - 1, by omega⟩
    have k27 : k = 27 := by
      by_cases q : k < 27
      · have := v_lt k q; have := hm q; omega
      · omega
    refine ⟨42, Or.inr ⟨rfl, fun l hl => hn l (by omega)⟩, ?_⟩
    unfold g_X4_wordKind_8
    rw [if_pos (by rw [v_len, i_le, e5]; simp only [Int32.reduceToInt]; omega), xs2_r]
    rfl
  | succ d ih =>
    intro k m f x3 x4 x5 hk hm hm0 hd hf e3 e4 e5 hn
    obtain ⟨f, rfl⟩ : ∃ q, f = q + 1 := ⟨f - 1, by omega⟩
    have k27 : k < 27 := by
      by_cases q : k < 27
      · exact q
      · have k2 : k = 27 := by omega
        have := hm0 k2
        rw [k2, v_end] at hd
        omega
    have vl := v_lt k k27
    have x5n : x5 = nI (pS k + m) := by rw [i_eq, e5, nI_toInt (by omega)]
    have n5 : (x5 + 1).toInt = ((pS k + m + 1 : Nat) : Int) := k_add e5 (y := 1) (b := 1) rfl (by omega)
    unfold g_X4_wordKind_8
    rw [if_neg (by rw [v_len, i_le, e5]; simp only [Int32.reduceToInt]; omega)]
    by_cases c : m < vLn k
    · have lt := vO_let k k27 m c
      rw [x5n, v_word k k27 m c, xb1_some, if_neg (by rw [i_eq, nI_toInt (by omega)]; simp only [Int32.reduceToInt]; omega), xlet_eq, ← x5n]
      exact ih k (m + 1) f x3 x4 (x5 + 1) hk (fun _ => by omega) (fun q => by omega) (by omega) (by omega) e3 e4 (by rw [n5]; omega) hn
    · have me : m = vLn k := by have := hm k27; omega
      rw [x5n, me, v_gap k k27, xb1_some, if_pos rfl, ← me, ← x5n]
      obtain ⟨w1, w2⟩ := x_isWord h k27 h1 h2 hje he e4 (by rw [e5, me])
      by_cases q : wkP B n j e k
      · rw [w1 q, xb1_some, if_neg n10, xs2_l]
        exact ⟨k, Or.inl q, by rw [show x3 = nI k by rw [i_eq, e3, nI_toInt (by omega)]]⟩
      · rw [w2 q, xb1_some, if_pos rfl, xlet_eq, xlet_eq, xlet_eq]
        have ps : pS (k + 1) = pS k + vLn k + 1 := rfl
        exact ih (k + 1) 0 f (x3 + 1) (x5 + 1) (x5 + 1) (by omega) (fun _ => by omega) (fun _ => rfl) (by omega) (by omega) (k_add e3 (y := 1) (b := 1) rfl (by omega)) (by rw [n5]; omega) (by rw [n5]; omega) (fun l hl => by
          by_cases cl : l = k
          · rw [cl]; exact q
          · exact hn l (by omega))
theorem x_wordKind {M : xm} {B : Nat → Int} {n j e : Nat} (h : XB M B n) {x1 x2 : Int32} (h1 : x1.toInt = (j : Int)) (h2 : x2.toInt = (e : Int)) (hje : j ≤ e) (he : e ≤ 300) : ∃ kd : Nat, WkD B n j e kd ∧ f_X4_wordKind M x1 x2 = some (nI kd) := by
  unfold f_X4_wordKind
  exact x_kind_loop h h1 h2 hje he 133 0 0 xfuel 0 1 1 (by omega) (fun _ => by omega) (fun q => by omega) rfl (by unfold xfuel; omega) rfl rfl rfl (fun l hl => by omega)
