/-! pack: two formulas for the fewest pages -/
theorem k_add {x y : Int32} {a b : Nat} (hx : x.toInt = (a : Int)) (hy : y.toInt = (b : Int)) (h : a + b < 2147483648) : (x + y).toInt = ((a + b : Nat) : Int) := by
  rw [i_add hx hy (by omega) (by omega)]; omega
theorem k_sub {x y : Int32} {a b : Nat} (hx : x.toInt = (a : Int)) (hy : y.toInt = (b : Int)) (h : b ≤ a) (ha : a < 2147483648) : (x - y).toInt = ((a - b : Nat) : Int) := by
  rw [i_sub hx hy (by omega) (by omega)]; omega
theorem k_mul2 {x : Int32} {a : Nat} (hx : x.toInt = (a : Int)) (k : Int32) (n : Nat) (hk : k.toInt = (n : Int)) (hn : n ≤ 8) (h : a < 100000000) : (k * x).toInt = ((n * a : Nat) : Int) := by
  have h1 : n * a ≤ 8 * a := Nat.mul_le_mul_right a hn
  have e : (n : Int) * (a : Int) = ((n * a : Nat) : Int) := by rw [Int.natCast_mul]
  rw [i_mul hk hx (by omega) (by omega), e]
theorem k_div {x y : Int32} {a b : Nat} (hx : x.toInt = (a : Int)) (hy : y.toInt = (b : Int)) (hb : 0 < b) (ha : a < 2147483648) : (x / y).toInt = ((a / b : Nat) : Int) := by
  rw [i_div hx hy (by omega) (by omega) (by omega)]; omega
theorem k_max0 {x y : Int32} {a b : Nat} (hx : x.toInt = (a : Int)) (hy : y.toInt = (b : Int)) (ha : a < 2147483648) (hb : b < 2147483648) : (xmax 0 (x - y)).toInt = ((a - b : Nat) : Int) := by
  have e := i_sub hx hy (by omega) (by omega)
  have z : (0 : Int32).toInt = 0 := rfl
  unfold xmax
  by_cases c : (0 : Int32) < x - y
  · rw [if_pos c, e]; rw [i_lt, z, e] at c; omega
  · rw [if_neg c, z]; rw [i_lt, z, e] at c; omega
theorem k_max {x y : Int32} {a b : Nat} (hx : x.toInt = (a : Int)) (hy : y.toInt = (b : Int)) : (xmax x y).toInt = ((max a b : Nat) : Int) := by
  unfold xmax
  by_cases c : x < y
  · rw [if_pos c, hy]; rw [i_lt, hx, hy] at c; omega
  · rw [if_neg c, hx]; rw [i_lt, hx, hy] at c; omega
theorem k_min {x y : Int32} {a b : Nat} (hx : x.toInt = (a : Int)) (hy : y.toInt = (b : Int)) : (xmin x y).toInt = ((min a b : Nat) : Int) := by
  unfold xmin
  by_cases c : y < x
  · rw [if_pos c, hy]; rw [i_lt, hx, hy] at c; omega
  · rw [if_neg c, hx]; rw [i_lt, hx, hy] at c; omega
def pkF (c2 c3 c4 P : Nat) : Nat := P + (c3 - 2 * P) + ((c4 + (c2 - P + 1) / 2 - (c3 - 2 * P)) + 1) / 2
def pkP (c2 tw al : Nat) : Nat := c2 - (tw + 2 * al)
def pkM (c1 c2 on tw al : Nat) : Nat := max ((2 * pkP c2 tw al + c1 - (on + 2 * tw - 2 * (c2 - pkP c2 tw al)) + 7) / 8) ((pkP c2 tw al + 3) / 4)
def pkV (c1 c2 c3 c4 F B T : Nat) : Nat := F + B + T + (c4 - 2 * F - B) + (c3 - B - 2 * T) + pkM c1 c2 (B + 4 * (c4 - 2 * F - B) + 5 * (c3 - B - 2 * T)) T ((c4 - 2 * F - B) + (c3 - B - 2 * T))
theorem pkv_eq {c1 c2 c3 c4 F B T : Nat} (h1 : 2 * F + B ≤ c4) (h2 : B + 2 * T ≤ c3) : pkV c1 c2 c3 c4 F B T = max (F + B + T + (c4 - 2 * F - B) + (c3 - B - 2 * T) + (pkP c2 T ((c4 - 2 * F - B) + (c3 - B - 2 * T)) + 3) / 4) ((c1 + 2 * c2 + 3 * c3 + 4 * c4 + 7) / 8) := by
  unfold pkV pkM pkP
  omega
theorem pkv_ge {c1 c2 c3 c4 F B T : Nat} (h1 : 2 * F + B ≤ c4) (h2 : B + 2 * T ≤ c3) : max (pkF c2 c3 c4 T) ((c1 + 2 * c2 + 3 * c3 + 4 * c4 + 7) / 8) ≤ pkV c1 c2 c3 c4 F B T := by
  rw [pkv_eq h1 h2]
  unfold pkF pkP
  omega
theorem pkv_le {c1 c2 c3 c4 P : Nat} (h : 2 * P ≤ c3) : ∃ F B, 2 * F + B ≤ c4 ∧ B + 2 * P ≤ c3 ∧ pkV c1 c2 c3 c4 F B P ≤ max (pkF c2 c3 c4 P) ((c1 + 2 * c2 + 3 * c3 + 4 * c4 + 7) / 8) := by
  by_cases c : c3 - 2 * P ≤ c4
  · refine ⟨(c4 - (c3 - 2 * P)) / 2, c3 - 2 * P, by omega, by omega, ?_⟩
    rw [pkv_eq (by omega) (by omega)]
    unfold pkF pkP
    omega
  · refine ⟨0, c4, by omega, by omega, ?_⟩
    rw [pkv_eq (by omega) (by omega)]
    unfold pkF pkP
    omega
theorem x_few_loop {M : xm} {x2 x3 x4 : Int32} {c2 c3 c4 : Nat} (h2 : x2.toInt = (c2 : Int)) (h3 : x3.toInt = (c3 : Int)) (h4 : x4.toInt = (c4 : Int)) (b2 : c2 ≤ 64) (b3 : c3 ≤ 64) (b4 : c4 ≤ 64) : ∀ (k P f : Nat) (x y : Int32) (m : Nat), P + k = c3 / 2 + 1 → k < f → x.toInt = (m : Int) → m ≤ 64 → y.toInt = (P : Int) → ∃ r r', g_X6_fewestPages_29 M x2 x3 x4 f x y = some r ∧ r.toInt = (r' : Nat) ∧ r' ≤ m ∧ (∀ Q, P ≤ Q → 2 * Q ≤ c3 → r' ≤ pkF c2 c3 c4 Q) ∧ (r' = m ∨ ∃ Q, 2 * Q ≤ c3 ∧ r' = pkF c2 c3 c4 Q) := by
  intro k
  induction k with
  | zero =>
    intro P f x y m hk hf hx hm hy
    obtain ⟨f, rfl⟩ : ∃ q, f = q + 1 := ⟨f - 1, by omega⟩
    have e := i_mul hy (y := 2) (b := 2) rfl (by omega) (by omega)
    unfold g_X6_fewestPages_29
    rw [if_pos (by rw [i_lt, h3, e]; omega)]
    exact ⟨x, m, rfl, hx, Nat.le_refl _, fun Q q1 q2 => by omega, Or.inl rfl⟩
  | succ k ih =>
    intro P f x y m hk hf hx hm hy
    obtain ⟨f, rfl⟩ : ∃ q, f = q + 1 := ⟨f - 1, by omega⟩
    have e : (y * 2).toInt = ((2 * P : Nat) : Int) := by rw [i_mul hy (y := 2) (b := 2) rfl (by omega) (by omega)]; omega
    have ny : (y + 1).toInt = ((P + 1 : Nat) : Int) := k_add hy (y := 1) (b := 1) rfl (by omega)
    have e17 := k_sub h3 e (by omega) (by omega)
    have e18 := k_max0 h2 hy (by omega) (by omega)
    have e18a := k_div (k_add e18 (y := 1) (b := 1) rfl (by omega)) (y := 2) (b := 2) rfl (by omega) (by omega)
    have e19 := k_max0 (k_add h4 e18a (by omega)) e17 (by omega) (by omega)
    have e19a := k_div (k_add e19 (y := 1) (b := 1) rfl (by omega)) (y := 2) (b := 2) rfl (by omega) (by omega)
    have e20 := k_min hx (k_add (k_add hy e17 (by omega)) e19a (by omega))
    unfold g_X6_fewestPages_29
    rw [if_neg (by rw [i_lt, h3, e]; omega)]
    simp only [xlet_eq]
    obtain ⟨r, r', k1, k2, k3, k4, k5⟩ := ih (P + 1) f _ (y + 1) _ (by omega) (by omega) e20 (by omega) ny
    refine ⟨r, r', k1, k2, by omega, fun Q q1 q2 => ?_, ?_⟩
    · by_cases c : Q = P
      · subst c; unfold pkF; omega
      · exact k4 Q (by omega) q2
    · rcases k5 with k5 | k5
      · by_cases c : m ≤ P + (c3 - 2 * P) + (c4 + (c2 - P + 1) / 2 - (c3 - 2 * P) + 1) / 2
        · exact Or.inl (by omega)
        · exact Or.inr ⟨P, by omega, by unfold pkF; omega⟩
      · exact Or.inr k5
theorem y_more {M : xm} {a b c : Int32} {c1 c2 on tw al : Nat} (m1 : (M 11 1).toInt = (c1 : Int)) (m2 : (M 11 2).toInt = (c2 : Int)) (ha : a.toInt = (on : Int)) (hb : b.toInt = (tw : Int)) (hc : c.toInt = (al : Int)) (b1 : c1 ≤ 64) (b2 : c2 ≤ 64) (b3 : on ≤ 2000) (b4 : tw ≤ 64) (b5 : al ≤ 200) (h : 4 * al ≤ on) : (f_X10_morePages M a b c).toInt = (pkM c1 c2 on tw al : Nat) := by
  have e1 := k_add hb (k_mul2 hc 2 2 rfl (by omega) (by omega)) (by omega)
  have key : ∀ (w : Int32), w.toInt = (pkP c2 tw al : Nat) → (xlet (M 11 2 - w) fun v4 => xlet (2 * w + M 11 1) fun v5 => xlet (a + 2 * b - 2 * v4) fun v6 => xlet (fun (w7 : Int32) => xlet ((w7 + 7) / 8) fun v9 => if v9 ≤ (w + 3) / 4 then (w + 3) / 4 else v9) fun k8 => if v5 ≤ v6 then k8 0 else k8 (v5 - v6)).toInt = (pkM c1 c2 on tw al : Nat) := by
    intro w hw
    have pl : pkP c2 tw al ≤ c2 := by unfold pkP; omega
    have f4 := k_sub m2 hw pl (by omega)
    have f5 := k_add (k_mul2 hw 2 2 rfl (by omega) (by omega)) m1 (by omega)
    have f6 := k_sub (k_add ha (k_mul2 hb 2 2 rfl (by omega) (by omega)) (by omega)) (k_mul2 f4 2 2 rfl (by omega) (by omega)) (by unfold pkP; omega) (by omega)
    have f9 := k_div (k_add hw (y := 3) (b := 3) rfl (by omega)) (y := 4) (b := 4) rfl (by omega) (by omega)
    have last : ∀ (w7 : Int32) (n7 : Nat), w7.toInt = (n7 : Int) → n7 = 2 * pkP c2 tw al + c1 - (on + 2 * tw - 2 * (c2 - pkP c2 tw al)) → (if (w7 + 7) / 8 ≤ (w + 3) / 4 then (w + 3) / 4 else (w7 + 7) / 8).toInt = (pkM c1 c2 on tw al : Nat) := by
      intro w7 n7 h7 e7
      have f8 := k_div (k_add h7 (y := 7) (b := 7) rfl (by omega)) (y := 8) (b := 8) rfl (by omega) (by omega)
      unfold pkM
      by_cases q : (w7 + 7) / 8 ≤ (w + 3) / 4
      · rw [if_pos q, f9]; rw [i_le, f8, f9] at q; omega
      · rw [if_neg q, f8]; rw [i_le, f8, f9] at q; omega
    simp only [xlet_eq]
    by_cases q : 2 * w + M 11 1 ≤ a + 2 * b - 2 * (M 11 2 - w)
    · rw [if_pos q]
      rw [i_le, f5, f6] at q
      exact last 0 0 rfl (by omega)
    · rw [if_neg q]
      rw [i_le, f5, f6] at q
      exact last _ _ (k_sub f5 f6 (by omega) (by omega)) (by omega)
  unfold f_X10_morePages
  simp only [xlet_eq]
  simp only [xlet_eq] at key
  by_cases q : M 11 2 ≤ b + 2 * c
  · rw [if_pos q]
    rw [i_le, m2, e1] at q
    exact key 0 (by unfold pkP; rw [show c2 - (tw + 2 * al) = 0 by omega]; rfl)
  · rw [if_neg q]
    rw [i_le, m2, e1] at q
    exact key _ (k_sub m2 e1 (by omega) (by omega))
theorem pkV_top {c1 c2 c3 c4 F B T : Nat} (hs : c1 + c2 + c3 + c4 ≤ 64) (h1 : 2 * F + B ≤ c4) (h2 : B + 2 * T ≤ c3) : pkV c1 c2 c3 c4 F B T ≤ 1000 := by
  rw [pkv_eq h1 h2]
  unfold pkP
  omega
/-- what a loop has found out of the ways that are in S -/
def Lst (S : Nat → Nat → Nat → Prop) (V : Nat → Nat → Nat → Nat) (m r : Nat) : Prop := r ≤ m ∧ (∀ F B T, S F B T → r ≤ V F B T) ∧ (r = m ∨ ∃ F B T, S F B T ∧ r = V F B T)
theorem y_p110 {M : xm} {xF xB : Int32} {c1 c2 c3 c4 F B : Nat} (m1 : (M 11 1).toInt = (c1 : Int)) (m2 : (M 11 2).toInt = (c2 : Int)) (m3 : (M 11 3).toInt = (c3 : Int)) (m4 : (M 11 4).toInt = (c4 : Int)) (hs : c1 + c2 + c3 + c4 ≤ 64) (hF : xF.toInt = (F : Int)) (hB : xB.toInt = (B : Int)) (h1 : 2 * F + B ≤ c4) (hB3 : B ≤ c3) : ∀ (k T f : Nat) (x y : Int32) (m : Nat), T + k = (c3 - B) / 2 + 1 → k < f → x.toInt = (m : Int) → m ≤ 1000000 → y.toInt = (T : Int) → ∃ r r', g_X10_pack_110 M xF xB f x y = some r ∧ r.toInt = (r' : Nat) ∧ Lst (fun F' B' T' => F' = F ∧ B' = B ∧ T ≤ T' ∧ B + 2 * T' ≤ c3) (pkV c1 c2 c3 c4) m r' := by
  intro k
  induction k with
  | zero =>
    intro T f x y m hk hf hx hm hy
    obtain ⟨f, rfl⟩ : ∃ q, f = q + 1 := ⟨f - 1, by omega⟩
    have e := k_add hB (k_mul2 hy 2 2 rfl (by omega) (by omega)) (by omega)
    unfold g_X10_pack_110
    rw [if_pos (by rw [i_lt, m3, e]; omega)]
    exact ⟨x, m, rfl, hx, Nat.le_refl _, fun F' B' T' ⟨_, _, q1, q2⟩ => by omega, Or.inl rfl⟩
  | succ k ih =>
    intro T f x y m hk hf hx hm hy
    obtain ⟨f, rfl⟩ : ∃ q, f = q + 1 := ⟨f - 1, by omega⟩
    have e := k_add hB (k_mul2 hy 2 2 rfl (by omega) (by omega)) (by omega)
    have ny : (y + 1).toInt = ((T + 1 : Nat) : Int) := k_add hy (y := 1) (b := 1) rfl (by omega)
    have e42 := k_sub (k_sub m4 (k_mul2 hF 2 2 rfl (by omega) (by omega)) (by omega) (by omega)) hB (by omega) (by omega)
    have e43 := k_sub (k_sub m3 hB (by omega) (by omega)) (k_mul2 hy 2 2 rfl (by omega) (by omega)) (by omega) (by omega)
    have em := y_more m1 m2 (k_add (k_add hB (k_mul2 e42 4 4 rfl (by omega) (by omega)) (by omega)) (k_mul2 e43 5 5 rfl (by omega) (by omega)) (by omega)) hy (k_add e42 e43 (by omega)) (by omega) (by omega) (by omega) (by omega) (by omega) (by omega)
    have vl := pkV_top hs h1 (T := T) (by omega)
    have e45 := k_add (k_add (k_add (k_add (k_add hF hB (by omega)) hy (by omega)) e42 (by omega)) e43 (by omega)) em (by unfold pkV at vl; omega)
    have e45 : ((xF + xB + y + (M 11 4 - 2 * xF - xB) + (M 11 3 - xB - 2 * y)) + f_X10_morePages M (xB + 4 * (M 11 4 - 2 * xF - xB) + 5 * (M 11 3 - xB - 2 * y)) y (M 11 4 - 2 * xF - xB + (M 11 3 - xB - 2 * y))).toInt = (pkV c1 c2 c3 c4 F B T : Nat) := e45
    unfold g_X10_pack_110
    rw [if_neg (by rw [i_lt, m3, e]; omega)]
    simp only [xlet_eq]
    by_cases c : x ≤ (xF + xB + y + (M 11 4 - 2 * xF - xB) + (M 11 3 - xB - 2 * y)) + f_X10_morePages M (xB + 4 * (M 11 4 - 2 * xF - xB) + 5 * (M 11 3 - xB - 2 * y)) y (M 11 4 - 2 * xF - xB + (M 11 3 - xB - 2 * y))
    · rw [if_pos c]
      rw [i_le, hx, e45] at c
      obtain ⟨r, r', k1, k2, k3, k4, k5⟩ := ih (T + 1) f x (y + 1) m (by omega) (by omega) hx hm ny
      refine ⟨r, r', k1, k2, k3, fun F' B' T' ⟨q1, q2, q3, q4⟩ => ?_, ?_⟩
      · by_cases ct : T' = T
        · rw [q1, q2, ct]; omega
        · exact k4 F' B' T' ⟨q1, q2, by omega, q4⟩
      · rcases k5 with k5 | ⟨F', B', T', ⟨q1, q2, q3, q4⟩, q5⟩
        · exact Or.inl k5
        · exact Or.inr ⟨F', B', T', ⟨q1, q2, by omega, q4⟩, q5⟩
    · rw [if_neg c]
      rw [i_le, hx, e45] at c
      obtain ⟨r, r', k1, k2, k3, k4, k5⟩ := ih (T + 1) f _ (y + 1) _ (by omega) (by omega) e45 (by omega) ny
      refine ⟨r, r', k1, k2, by omega, fun F' B' T' ⟨q1, q2, q3, q4⟩ => ?_, ?_⟩
      · by_cases ct : T' = T
        · rw [q1, q2, ct]; omega
        · exact k4 F' B' T' ⟨q1, q2, by omega, q4⟩
      · rcases k5 with k5 | ⟨F', B', T', ⟨q1, q2, q3, q4⟩, q5⟩
        · exact Or.inr ⟨F, B, T, ⟨rfl, rfl, by omega, by omega⟩, k5⟩
        · exact Or.inr ⟨F', B', T', ⟨q1, q2, by omega, q4⟩, q5⟩
theorem Lst.tr {S S1 S2 : Nat → Nat → Nat → Prop} {V : Nat → Nat → Nat → Nat} {m m1 r : Nat} (h1 : Lst S1 V m m1) (h2 : Lst S2 V m1 r) (hs : ∀ F B T, S F B T ↔ S1 F B T ∨ S2 F B T) : Lst S V m r := by
  refine ⟨Nat.le_trans h2.1 h1.1, fun F B T q => ?_, ?_⟩
  · rcases (hs F B T).mp q with q | q
    · exact Nat.le_trans h2.1 (h1.2.1 F B T q)
    · exact h2.2.1 F B T q
  · rcases h2.2.2 with q | ⟨F, B, T, q, q2⟩
    · rcases h1.2.2 with p | ⟨F, B, T, p, p2⟩
      · exact Or.inl (q.trans p)
      · exact Or.inr ⟨F, B, T, (hs F B T).mpr (Or.inl p), q.trans p2⟩
    · exact Or.inr ⟨F, B, T, (hs F B T).mpr (Or.inr q), q2⟩
theorem Lst.no {S : Nat → Nat → Nat → Prop} {V : Nat → Nat → Nat → Nat} {m : Nat} (hs : ∀ F B T, ¬ S F B T) : Lst S V m m := ⟨Nat.le_refl _, fun F B T q => absurd q (hs F B T), Or.inl rfl⟩
theorem y_p83 {M : xm} {xF : Int32} {c1 c2 c3 c4 F : Nat} (m1 : (M 11 1).toInt = (c1 : Int)) (m2 : (M 11 2).toInt = (c2 : Int)) (m3 : (M 11 3).toInt = (c3 : Int)) (m4 : (M 11 4).toInt = (c4 : Int)) (hs : c1 + c2 + c3 + c4 ≤ 64) (hF : xF.toInt = (F : Int)) (h1 : 2 * F ≤ c4) : ∀ (k B f : Nat) (x y : Int32) (m : Nat), B + k = c4 + 1 → k < f → x.toInt = (m : Int) → m ≤ 1000000 → y.toInt = (B : Int) → ∃ r r', g_X10_pack_83 M xF f x y = some r ∧ r.toInt = (r' : Nat) ∧ Lst (fun F' B' T' => F' = F ∧ B ≤ B' ∧ 2 * F + B' ≤ c4 ∧ B' + 2 * T' ≤ c3) (pkV c1 c2 c3 c4) m r' := by
  intro k
  induction k with
  | zero =>
    intro B f x y m hk hf hx hm hy
    obtain ⟨f, rfl⟩ : ∃ q, f = q + 1 := ⟨f - 1, by omega⟩
    have e := k_add (k_mul2 hF 2 2 rfl (by omega) (by omega)) hy (by omega)
    unfold g_X10_pack_83
    rw [if_pos (by rw [i_lt, m4, e]; omega)]
    exact ⟨x, m, rfl, hx, Lst.no (fun F' B' T' ⟨q1, q2, q3, q4⟩ => by omega)⟩
  | succ k ih =>
    intro B f x y m hk hf hx hm hy
    obtain ⟨f, rfl⟩ : ∃ q, f = q + 1 := ⟨f - 1, by omega⟩
    have e := k_add (k_mul2 hF 2 2 rfl (by omega) (by omega)) hy (by omega)
    have ny : (y + 1).toInt = ((B + 1 : Nat) : Int) := k_add hy (y := 1) (b := 1) rfl (by omega)
    unfold g_X10_pack_83
    by_cases c : c4 < 2 * F + B
    · rw [if_pos (by rw [i_lt, m4, e]; omega)]
      exact ⟨x, m, rfl, hx, Lst.no (fun F' B' T' ⟨q1, q2, q3, q4⟩ => by omega)⟩
    · rw [if_neg (by rw [i_lt, m4, e]; omega)]
      by_cases c' : c3 < B
      · rw [if_pos (by rw [i_lt, m3, hy]; omega)]
        exact ⟨x, m, rfl, hx, Lst.no (fun F' B' T' ⟨q1, q2, q3, q4⟩ => by omega)⟩
      · rw [if_neg (by rw [i_lt, m3, hy]; omega)]
        obtain ⟨r, r', k1, k2, k3⟩ := y_p110 m1 m2 m3 m4 hs hF hy (by omega) (by omega) ((c3 - B) / 2 + 1) 0 xfuel x 0 m (by omega) (by unfold xfuel; omega) hx hm rfl
        rw [k1, xb1_some, xlet_eq]
        obtain ⟨u, u', l1, l2, l3⟩ := ih (B + 1) f r (y + 1) r' (by omega) (by omega) k2 (by have := k3.1; omega) ny
        refine ⟨u, u', l1, l2, k3.tr l3 (fun F' B' T' => ?_)⟩
        constructor
        · rintro ⟨q1, q2, q3, q4⟩
          by_cases cb : B' = B
          · exact Or.inl ⟨q1, cb, by omega, by omega⟩
          · exact Or.inr ⟨q1, by omega, q3, q4⟩
        · rintro (⟨q1, q2, q3, q4⟩ | ⟨q1, q2, q3, q4⟩)
          · exact ⟨q1, by omega, by omega, by omega⟩
          · exact ⟨q1, by omega, q3, q4⟩
theorem y_p69 {M : xm} {c1 c2 c3 c4 : Nat} (m1 : (M 11 1).toInt = (c1 : Int)) (m2 : (M 11 2).toInt = (c2 : Int)) (m3 : (M 11 3).toInt = (c3 : Int)) (m4 : (M 11 4).toInt = (c4 : Int)) (hs : c1 + c2 + c3 + c4 ≤ 64) : ∀ (k F f : Nat) (x y : Int32) (m : Nat), F + k = c4 / 2 + 1 → k < f → x.toInt = (m : Int) → m ≤ 1000000 → y.toInt = (F : Int) → ∃ r r', g_X10_pack_69 M f x y = some r ∧ r.toInt = (r' : Nat) ∧ Lst (fun F' B' T' => F ≤ F' ∧ 2 * F' + B' ≤ c4 ∧ B' + 2 * T' ≤ c3) (pkV c1 c2 c3 c4) m r' := by
  intro k
  induction k with
  | zero =>
    intro F f x y m hk hf hx hm hy
    obtain ⟨f, rfl⟩ : ∃ q, f = q + 1 := ⟨f - 1, by omega⟩
    have e := k_mul2 hy 2 2 rfl (by omega) (by omega)
    unfold g_X10_pack_69
    rw [if_pos (by rw [i_lt, m4, e]; omega)]
    exact ⟨x, m, rfl, hx, Lst.no (fun F' B' T' ⟨q1, q2, q3⟩ => by omega)⟩
  | succ k ih =>
    intro F f x y m hk hf hx hm hy
    obtain ⟨f, rfl⟩ : ∃ q, f = q + 1 := ⟨f - 1, by omega⟩
    have e := k_mul2 hy 2 2 rfl (by omega) (by omega)
    have ny : (y + 1).toInt = ((F + 1 : Nat) : Int) := k_add hy (y := 1) (b := 1) rfl (by omega)
    unfold g_X10_pack_69
    rw [if_neg (by rw [i_lt, m4, e]; omega)]
    obtain ⟨r, r', k1, k2, k3⟩ := y_p83 m1 m2 m3 m4 hs hy (by omega) (c4 + 1) 0 xfuel x 0 m (by omega) (by unfold xfuel; omega) hx hm rfl
    rw [k1, xb1_some, xlet_eq]
    obtain ⟨u, u', l1, l2, l3⟩ := ih (F + 1) f r (y + 1) r' (by omega) (by omega) k2 (by have := k3.1; omega) ny
    refine ⟨u, u', l1, l2, k3.tr l3 (fun F' B' T' => ?_)⟩
    constructor
    · rintro ⟨q1, q2, q3⟩
      by_cases cb : F' = F
      · exact Or.inl ⟨cb, by omega, by omega, q3⟩
      · exact Or.inr ⟨by omega, q2, q3⟩
    · rintro (⟨q1, q2, q3, q4⟩ | ⟨q1, q2, q3⟩)
      · exact ⟨by omega, by omega, q4⟩
      · exact ⟨by omega, q2, q3⟩
