/-! what code means: f : heap, page or fields asked about -> number -/
def cl6 (z : Int) : Int := if 1000000 < z then 1000000 else if z < -1000000 then -1000000 else z
theorem cl6_in (z : Int) : -1000000 ≤ cl6 z ∧ cl6 z ≤ 1000000 := by unfold cl6; split; omega; split <;> omega
theorem cl6_id {z : Int} (h : -1000000 ≤ z ∧ z ≤ 1000000) : cl6 z = z := by unfold cl6; rw [if_neg (by omega), if_neg (by omega)]
theorem j_lt (x y : Int64) : x < y ↔ x.toInt < y.toInt := Int64.lt_iff_toInt_lt
theorem j_le (x y : Int64) : x ≤ y ↔ x.toInt ≤ y.toInt := Int64.le_iff_toInt_le
theorem j_eq (x y : Int64) : x = y ↔ x.toInt = y.toInt := ⟨fun h => by rw [h], fun h => Int64.toInt_inj.mp h⟩
theorem j_32 {x : Int32} {z : Int} (h : x.toInt = z) : x.toInt64.toInt = z := by rw [Int32.toInt_toInt64, h]
theorem j_add {x y : Int64} {a b : Int} (hx : x.toInt = a) (hy : y.toInt = b) (h1 : -9223372036854775808 ≤ a + b) (h2 : a + b < 9223372036854775808) : (x + y).toInt = a + b := by
  rw [Int64.toInt_add, hx, hy]
  apply Int.bmod_eq_of_le <;> omega
theorem j_sub {x y : Int64} {a b : Int} (hx : x.toInt = a) (hy : y.toInt = b) (h1 : -9223372036854775808 ≤ a - b) (h2 : a - b < 9223372036854775808) : (x - y).toInt = a - b := by
  rw [Int64.toInt_sub, hx, hy]
  apply Int.bmod_eq_of_le <;> omega
theorem j_mul {x y : Int64} {a b : Int} (hx : x.toInt = a) (hy : y.toInt = b) (h1 : -9223372036854775808 ≤ a * b) (h2 : a * b < 9223372036854775808) : (x * y).toInt = a * b := by
  rw [Int64.toInt_mul, hx, hy]
  apply Int.bmod_eq_of_le <;> omega
theorem mul6 {a b : Int} (ha : -1000000 ≤ a ∧ a ≤ 1000000) (hb : -1000000 ≤ b ∧ b ≤ 1000000) : -1000000000000 ≤ a * b ∧ a * b ≤ 1000000000000 := by
  have h1 : a * b ≤ (a * b).natAbs := Int.le_natAbs
  have h2 : -((a * b).natAbs : Int) ≤ a * b := by omega
  have h3 : (a * b).natAbs = a.natAbs * b.natAbs := Int.natAbs_mul a b
  have h4 : a.natAbs * b.natAbs ≤ 1000000 * 1000000 := Nat.mul_le_mul (by omega) (by omega)
  omega
theorem tdiv6 {a b : Int} (ha : -1000000 ≤ a ∧ a ≤ 1000000) : -1000000 ≤ a.tdiv b ∧ a.tdiv b ≤ 1000000 := by
  have h : (a.tdiv b).natAbs = a.natAbs / b.natAbs := Int.natAbs_tdiv a b
  have h2 : a.natAbs / b.natAbs ≤ a.natAbs := Nat.div_le_self _ _
  omega
abbrev fn : Type := hs → Nat → Int
def Mf (f : fn) : Prop := (∀ s p, Ok s → p < 8 → -1000000 ≤ f s p ∧ f s p ≤ 1000000) ∧ ∀ s t : hs, (∀ i, s 0 i = t 0 i) → (∀ i, s 5 i = t 5 i) → (∀ i, s 6 i = t 6 i) → (∀ i, s 7 i = 0 ↔ t 7 i = 0) → ∀ p, f s p = f t p
def mName (k : Nat) : fn := fun s p => if k = 19 then s 0 17 else if k = 20 then s 0 14 else if k = 21 then ((popc (sFB s) : Nat) : Int) else if k = 22 then s 0 13 else if k = 24 then s 5 p else if k = 25 then s 6 p else (p : Int)
def pgV (s : hs) (k : Nat) (v : Int) : Int := if 0 ≤ v ∧ v < 8 then s k v.toNat else 0
/-- of one: 43 less, 10 live, 11 used, 18 not -/
def mUn (op : Int) (f : fn) : fn := fun s p => if op = 10 then pgV s 5 (f s p) else if op = 11 then pgV s 6 (f s p) else if op = 18 then cl6 (1 - f s p) else cl6 (-(f s p))
def bI (b : Bool) : Int := if b = true then 1 else 0
/-- of two that are compared -/
def mAsk (op : Int) (a b : Int) : Bool := if op = 27 then decide (a < b) else if op = 28 then decide (b < a) else if op = 29 then decide (a = b) else if op = 30 then decide (a ≠ b) else if op = 38 then decide (a ≤ b) else decide (b ≤ a)
def mTwo (op : Int) (a b : Int) : Int := if op = 31 then cl6 (a + b) else if op = 32 then cl6 (a - b) else if op = 33 then cl6 (a * b) else if b = 0 then 0 else a.tdiv b
abbrev cn : Type := hs → Nat → Bool
def mBo (c : cn) : fn := fun s p => bI (c s p)
theorem bI_in (b : Bool) : 0 ≤ bI b ∧ bI b ≤ 1 := by cases b <;> decide
theorem mName_ok {k : Nat} (hk : 19 ≤ k ∧ k ≤ 26) : Mf (mName k) := by
  constructor
  · intro s p o hp
    have h1 := o.clock
    have h2 := o.phase
    have h3 := popc_le (sFB s) (sFB_lt s)
    have h4 := o.stacked
    have h5 := o.l hp
    have h6 := o.u hp
    unfold mName
    repeat' split
    all_goals omega
  · intro s t h0 h5 h6 h7 p
    have e : sFB s = sFB t := sFb_congr h7 8 0 0
    unfold mName
    rw [h0, h0, h0, h5, h6, e]
theorem mUn_ok {op : Int} {f : fn} (h : Mf f) : Mf (mUn op f) := by
  constructor
  · intro s p o hp
    have hf := h.1 s p o hp
    have c1 := cl6_in (1 - f s p)
    have c2 := cl6_in (-(f s p))
    unfold mUn pgV
    by_cases q : 0 ≤ f s p ∧ f s p < 8
    · have h5 := o.l (show (f s p).toNat < 8 by omega)
      have h6 := o.u (show (f s p).toNat < 8 by omega)
      rw [if_pos q, if_pos q]
      repeat' split
      all_goals omega
    · rw [if_neg q, if_neg q]
      repeat' split
      all_goals omega
  · intro s t h0 h5 h6 h7 p
    have e := h.2 s t h0 h5 h6 h7 p
    unfold mUn pgV
    rw [e, h5, h6]
theorem mTwo_in {op a b : Int} (ha : -1000000 ≤ a ∧ a ≤ 1000000) : -1000000 ≤ mTwo op a b ∧ mTwo op a b ≤ 1000000 := by
  have c1 := cl6_in (a + b)
  have c2 := cl6_in (a - b)
  have c3 := cl6_in (a * b)
  have c4 := tdiv6 (b := b) ha
  unfold mTwo
  repeat' split
  all_goals omega
theorem mTwo_ok {op : Int} {f g : fn} (h : Mf f) (h' : Mf g) : Mf (fun s p => mTwo op (f s p) (g s p)) := by
  constructor
  · intro s p o hp
    exact mTwo_in (h.1 s p o hp)
  · intro s t h0 h5 h6 h7 p
    show mTwo _ _ _ = mTwo _ _ _
    rw [h.2 s t h0 h5 h6 h7 p, h'.2 s t h0 h5 h6 h7 p]
def Mc (c : cn) : Prop := ∀ s t : hs, (∀ i, s 0 i = t 0 i) → (∀ i, s 5 i = t 5 i) → (∀ i, s 6 i = t 6 i) → (∀ i, s 7 i = 0 ↔ t 7 i = 0) → ∀ p, c s p = c t p
theorem mBo_ok {c : cn} (h : Mc c) : Mf (mBo c) := by
  constructor
  · intro s p o hp
    have := bI_in (c s p)
    unfold mBo; omega
  · intro s t h0 h5 h6 h7 p
    unfold mBo
    rw [h s t h0 h5 h6 h7 p]
theorem mIf_ok {c : cn} {f g : fn} (hc : Mc c) (h : Mf f) (h' : Mf g) : Mf (fun s p => if c s p = true then f s p else g s p) := by
  constructor
  · intro s p o hp
    have := h.1 s p o hp
    have := h'.1 s p o hp
    show -1000000 ≤ (if c s p = true then f s p else g s p) ∧ (if c s p = true then f s p else g s p) ≤ 1000000
    split <;> omega
  · intro s t h0 h5 h6 h7 p
    show (if c s p = true then f s p else g s p) = (if c t p = true then f t p else g t p)
    rw [hc s t h0 h5 h6 h7 p, h.2 s t h0 h5 h6 h7 p, h'.2 s t h0 h5 h6 h7 p]
/-! the class's machine -/
def XGo (T u : Nat) (xs xe : Int32) (M : xm) (k : Nat) (M' : xm) (k' n : Nat) : Prop := ∀ (fu t : Nat) (x8 x10 : Int32), x8.toInt = (k : Int) → x10.toInt = (t : Int) → t + n ≤ 300 → ∃ y8 y10 : Int32, y8.toInt = (k' : Int) ∧ y10.toInt = ((t + n : Nat) : Int) ∧ g_X3_value_30 T u xs xe (fu + n) M x8 x10 = g_X3_value_30 T u xs xe fu M' y8 y10
theorem XGo.tr {T u : Nat} {xs xe : Int32} {M M' M'' : xm} {k k' k'' n n' : Nat} (h : XGo T u xs xe M k M' k' n) (h' : XGo T u xs xe M' k' M'' k'' n') : XGo T u xs xe M k M'' k'' (n + n') := by
  intro fu t x8 x10 e8 e10 ht
  obtain ⟨y8, y10, a1, a2, a3⟩ := h (fu + n') t x8 x10 e8 e10 (by omega)
  obtain ⟨z8, z10, b1, b2, b3⟩ := h' fu (t + n) y8 y10 a1 a2 (by omega)
  refine ⟨z8, z10, b1, by rw [b2]; omega, ?_⟩
  rw [show fu + (n + n') = fu + n' + n by omega, a3, b3]
theorem x_push {M : xm} {a : Int64} {z : Int} {sz : Nat} (ha : a.toInt = z) (hs : (M 1004 1).toInt = (sz : Int)) (h : sz < 300) : ∃ v : Int32, f_X3_push M a = some (up2 (up2 M 1005 sz v) 1004 1 (M 1004 1 + 1)) ∧ v.toInt = cl6 z := by
  have m1 : (-1000000 : Int64).toInt = -1000000 := rfl
  have m2 : (1000000 : Int64).toInt = 1000000 := rfl
  have e1 : (xminL 1000000 a).toInt = if z < 1000000 then z else 1000000 := by
    unfold xminL
    by_cases c : a < 1000000
    · rw [if_pos c, ha]; rw [j_lt, ha, m2] at c; rw [if_pos c]
    · rw [if_neg c, m2]; rw [j_lt, ha, m2] at c; rw [if_neg c]
  have e2 : (xmaxL (-1000000) (xminL 1000000 a)).toInt = cl6 z := by
    unfold xmaxL cl6
    by_cases c : xminL 1000000 a < -1000000
    · rw [if_pos c, m1]; rw [j_lt, e1, m1] at c
      split at c
      · rw [if_neg (by omega), if_pos c]
      · omega
    · rw [if_neg c, e1]; rw [j_lt, e1, m1] at c
      split at c
      · rw [if_pos (by assumption), if_neg (by omega), if_neg c]
      · rw [if_neg (by assumption)]
        by_cases q : 1000000 < z
        · rw [if_pos q]
        · rw [if_neg q, if_neg (by omega)]; omega
  refine ⟨(xmaxL (-1000000) (xminL 1000000 a)).toInt32, ?_, ?_⟩
  · unfold f_X3_push
    rw [if_neg (by rw [i_le, hs]; simp only [Int32.reduceToInt]; omega), if_pos (i_in hs h), i_ix hs]
    rfl
  · rw [Int64.toInt_toInt32, e2]
    have := cl6_in z
    apply Int.bmod_eq_of_le <;> omega
theorem x_pop {M : xm} {sz : Nat} (hs : (M 1004 1).toInt = ((sz + 1 : Nat) : Int)) (h : sz < 300) : ∃ w : Int32, f_X3_pop M = some (M 1005 sz, up2 M 1004 1 w) ∧ w.toInt = (sz : Int) := by
  have e : (M 1004 1 - 1).toInt = (sz : Int) := by rw [i_sub hs (b := 1) rfl (by omega) (by omega)]; omega
  refine ⟨M 1004 1 - 1, ?_, e⟩
  unfold f_X3_pop
  rw [if_pos (by rw [i_le, hs]; simp only [Int32.reduceToInt]; omega), xlet_eq, up2_same, if_pos (i_in e h), i_ix e, up2_cell (by decide)]
/-- what is set: the text's code, the heap -/
def XSt (o v : Nat → Int) (T u : Nat) (M : xm) (s : hs) (xs xe : Int32) (sub e sz k k' : Nat) : Prop := 1007 ≤ T ∧ u + 15 ≤ 1004 ∧ RX u M s ∧ Ok s ∧ xs.toInt = (sub : Int) ∧ sub < 8 ∧ xe.toInt = (e : Int) ∧ k' ≤ e ∧ e ≤ 300 ∧ (∀ i, k ≤ i → i < k' → (M (T + 5) i).toInt = o i ∧ (M (T + 6) i).toInt = v i) ∧ (M 1004 1).toInt = (sz : Int) ∧ sz + (k' - k) ≤ 300
def XEn (T u : Nat) (xs xe : Int32) (M : xm) (sz k k' : Nat) (z : Int) : Prop := ∃ M' n, n ≤ k' - k ∧ XGo T u xs xe M k M' k' n ∧ (M' 1004 1).toInt = ((sz + 1 : Nat) : Int) ∧ (M' 1005 sz).toInt = z ∧ (∀ i, i < sz → M' 1005 i = M 1005 i) ∧ ∀ q, q ≠ 1004 → q ≠ 1005 → M' q = M q
def VX (o v : Nat → Int) (k k' : Nat) (f : fn) : Prop := k < k' ∧ ∀ (T u : Nat) (M : xm) (s : hs) (xs xe : Int32) (sub e sz : Nat), XSt o v T u M s xs xe sub e sz k k' → XEn T u xs xe M sz k k' (f s sub)
theorem VX.eq {o v o' v' : Nat → Int} {k k' : Nat} {f : fn} (h : VX o v k k' f) (he : ∀ i, k ≤ i → i < k' → o' i = o i ∧ v' i = v i) : VX o' v' k k' f := by
  refine ⟨h.1, fun T u M s xs xe sub e sz ⟨a1, a2, a3, a4, a5, a6, a7, a8, a9, a10, a11⟩ => h.2 T u M s xs xe sub e sz ⟨a1, a2, a3, a4, a5, a6, a7, a8, a9, fun i i1 i2 => ?_, a11⟩⟩
  have := a10 i i1 i2
  rw [(he i i1 i2).1, (he i i1 i2).2] at this
  exact this
/-- one step that pushes, all else known -/
theorem XGo.one {T u : Nat} {xs xe : Int32} {M M' : xm} {k k' e : Nat} (hk : k < 300) (he : xe.toInt = (e : Int)) (hke : k < e) (h : ∀ (fu : Nat) (x8 x10 : Int32), x8.toInt = (k : Int) → ∃ y8 : Int32, y8.toInt = (k' : Int) ∧ (xlet (M (T + 5) k) (fun v17 => xlet (M (T + 6) k) (fun v18 => xlet (x8 + (1 : Int32)) (fun v19 => (if v17 = (44 : Int32) then xlet (x10 + (1 : Int32)) (fun v81 => g_X3_value_30 T u xs xe fu M v18 v81) else (if v17 = (45 : Int32) then xb2 (f_X3_pop M) (fun v75 M76 => (if v75 = 0 then xlet (x10 + (1 : Int32)) (fun v80 => g_X3_value_30 T u xs xe fu M76 v18 v80) else xlet (x10 + (1 : Int32)) (fun v79 => g_X3_value_30 T u xs xe fu M76 v19 v79))) else (if v17 = (40 : Int32) then xb1 (f_X3_push M (v18.toInt64)) (fun M71 => xlet (x10 + (1 : Int32)) (fun v73 => g_X3_value_30 T u xs xe fu M71 v19 v73)) else (if v17 = (21 : Int32) then xb1 (f_X1_freePages u M) (fun v63 => xb1 (f_X3_push M ((f_J6_bitCount_0f7a4 v63).toInt64)) (fun M67 => xlet (x10 + (1 : Int32)) (fun v69 => g_X3_value_30 T u xs xe fu M67 v19 v69))) else xlet ((if (f_X3_isOfOne v17) = 0 then xb2 (f_X3_pop M) (fun v28 M29 => xb2 (f_X3_pop M29) (fun v32 M33 => xb1 (f_X3_joined v17 v32 v28) (fun v36 => xb1 (f_X3_push M33 v36) (fun M39 => xlet (x10 + (1 : Int32)) (fun v41 => g_X3_value_30 T u xs xe fu M39 v19 v41))))) else xb2 (f_X3_pop M) (fun v43 M44 => xb1 (f_X3_changed u M44 v17 v43) (fun v47 => xb1 (f_X3_push M44 (v47.toInt64)) (fun M50 => xlet (x10 + (1 : Int32)) (fun v52 => g_X3_value_30 T u xs xe fu M50 v19 v52)))))) (fun k24 => (if v17 < (19 : Int32) then k24 else (if (26 : Int32) < v17 then k24 else xb1 (f_X3_named u M v17 xs) (fun v56 => xb1 (f_X3_push M (v56.toInt64)) (fun M59 => xlet (x10 + (1 : Int32)) (fun v61 => g_X3_value_30 T u xs xe fu M59 v19 v61)))))))))))))) = g_X3_value_30 T u xs xe fu M' y8 (x10 + 1)) : XGo T u xs xe M k M' k' 1 := by
  intro fu t x8 x10 e8 e10 ht
  obtain ⟨y8, y1, y2⟩ := h fu x8 x10 e8
  refine ⟨y8, x10 + 1, y1, by rw [i_add e10 (b := 1) rfl (by omega) (by omega)]; omega, ?_⟩
  rw [← y2]
  rw [g_X3_value_30, if_neg (c := (300 : Int32) ≤ x10) (by rw [i_le, e10]; simp only [Int32.reduceToInt]; omega), if_neg (c := x8 < 0) (by rw [i_lt, e8]; simp only [Int32.reduceToInt]; omega), if_neg (c := xe ≤ x8) (by rw [i_le, e8, he]; omega), if_pos (i_in e8 hk), i_ix e8]
theorem o_lit {x : Int32} {z : Int} (h : x.toInt = z) (y : Int32) (hy : z ≠ y.toInt) : ¬ x = y := by rw [i_eq, h]; exact hy
theorem o_is {x : Int32} {z : Int} (h : x.toInt = z) (y : Int32) (hy : z = y.toInt) : x = y := by rw [i_eq, h]; exact hy
theorem k_next {x8 : Int32} {k : Nat} (h : x8.toInt = (k : Int)) (hk : k < 300) : (x8 + 1).toInt = ((k + 1 : Nat) : Int) := by rw [i_add h (b := 1) rfl (by omega) (by omega)]; omega
theorem pushed {M : xm} {sz : Nat} {v w : Int32} (hw : w.toInt = ((sz + 1 : Nat) : Int)) : (up2 (up2 M 1005 sz v) 1004 1 w 1004 1).toInt = ((sz + 1 : Nat) : Int) ∧ up2 (up2 M 1005 sz v) 1004 1 w 1005 sz = v ∧ (∀ i, i < sz → up2 (up2 M 1005 sz v) 1004 1 w 1005 i = M 1005 i) ∧ ∀ q, q ≠ 1004 → q ≠ 1005 → up2 (up2 M 1005 sz v) 1004 1 w q = M q := by
  refine ⟨by rw [up2_same]; exact hw, by rw [up2_cell (by decide), up2_same], fun i hi => by rw [up2_cell (by decide), up2_ne (by omega)], fun q a b => by rw [up2_cell a, up2_cell b]⟩
theorem VX_num {o v : Nat → Int} {k : Nat} {z : Int} (ho : o k = 40) (hv : v k = z) (hz : -1000000 ≤ z ∧ z ≤ 1000000) : VX o v k (k + 1) (fun _ _ => z) := by
  refine ⟨by omega, fun T u M s xs xe sub e sz ⟨a1, a2, a3, a4, a5, a6, a7, a8, a9, a10, a11, a12⟩ => ?_⟩
  obtain ⟨b1, b2⟩ := a10 k (by omega) (by omega)
  rw [ho] at b1
  rw [hv] at b2
  obtain ⟨w, w1, w2⟩ := x_push (M := M) (j_32 b2) a11 (by omega)
  have nx : (M 1004 1 + 1).toInt = ((sz + 1 : Nat) : Int) := by rw [i_add a11 (b := 1) rfl (by omega) (by omega)]; omega
  obtain ⟨p1, p2, p3, p4⟩ := pushed (M := M) (sz := sz) (v := w) nx
  refine ⟨_, 1, by omega, XGo.one (M' := up2 (up2 M 1005 sz w) 1004 1 (M 1004 1 + 1)) (by omega) a7 (by omega) (fun fu x8 x10 e8 => ⟨x8 + 1, k_next e8 (by omega), ?_⟩), p1, by rw [p2, w2, cl6_id hz], p3, p4⟩
  simp only [xlet_eq]
  rw [if_neg (o_lit b1 44 (by decide)), if_neg (o_lit b1 45 (by decide)), if_pos (o_is b1 40 rfl), w1, xb1_some]
