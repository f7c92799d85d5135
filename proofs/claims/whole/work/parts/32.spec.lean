/-! whole numbers out of words; what the heap's calls do, plainly (state: field, place -> number;
    field 0: 13 stacked, 14 phase, 15 good, 16 latest, 17 clock, 18 x; 1 words, 2 forwards, 3 marks, 4 stack, 5 live, 6 used, 7 how, 8 roots, 9 makes moves, 10 read word, 11 read pointer, 12 copy; 13: 0 lines, 1 + 3 i + j part j of line i) -/
abbrev hs : Type := Nat → Nat → Int
theorem i_cl (x : Int32) : x.toNatClampNeg = x.toInt.toNat := rfl
theorem i_add {x y : Int32} {a b : Int} (hx : x.toInt = a) (hy : y.toInt = b) (h1 : -2147483648 ≤ a + b) (h2 : a + b < 2147483648) : (x + y).toInt = a + b := by
  rw [Int32.toInt_add, hx, hy]
  apply Int.bmod_eq_of_le <;> omega
theorem i_sub {x y : Int32} {a b : Int} (hx : x.toInt = a) (hy : y.toInt = b) (h1 : -2147483648 ≤ a - b) (h2 : a - b < 2147483648) : (x - y).toInt = a - b := by
  rw [Int32.toInt_sub, hx, hy]
  apply Int.bmod_eq_of_le <;> omega
theorem i_mul {x y : Int32} {a b : Int} (hx : x.toInt = a) (hy : y.toInt = b) (h1 : -2147483648 ≤ a * b) (h2 : a * b < 2147483648) : (x * y).toInt = a * b := by
  rw [Int32.toInt_mul, hx, hy]
  apply Int.bmod_eq_of_le <;> omega
theorem i_div {x y : Int32} {a b : Int} (hx : x.toInt = a) (hy : y.toInt = b) (h0 : 0 ≤ a) (h1 : a < 2147483648) (hb : 0 < b) : (x / y).toInt = a / b := by
  rw [Int32.toInt_div, hx, hy, Int.tdiv_eq_ediv_of_nonneg h0]
  have h2 : 0 ≤ a / b := Int.ediv_nonneg h0 (by omega)
  have h3 : a / b ≤ a := Int.ediv_le_self b h0
  apply Int.bmod_eq_of_le <;> omega
theorem i_rem {x y : Int32} {a b : Int} (hx : x.toInt = a) (hy : y.toInt = b) (h0 : 0 ≤ a) (h1 : a < 2147483648) (hb : 0 < b) : (xrem x y).toInt = a % b := by
  have h2 : 0 ≤ a / b := Int.ediv_nonneg h0 (by omega)
  have h3 : a / b * b ≤ a := Int.ediv_mul_le a (by omega)
  have h5 : 0 ≤ a / b * b := Int.mul_nonneg h2 (by omega)
  have h4 := i_mul (i_div hx hy h0 h1 hb) hy (by omega) (by omega)
  have h6 := i_sub hx h4 (by omega) (by omega)
  have h7 := Int.emod_def a b
  have h8 := Int.mul_comm b (a / b)
  rw [show xrem x y = x - x / y * y from rfl, h6]
  omega
/-- a place by its number -/
theorem i_ix {x : Int32} {w : Nat} (hx : x.toInt = (w : Int)) : x.toNatClampNeg = w := by
  rw [i_cl, hx]; rfl
theorem i_in {x : Int32} {w n : Nat} (hx : x.toInt = (w : Int)) (h : w < n) : xin x n = true := by
  rw [xin_iff, hx]; omega
/-- a place behind a base -/
theorem i_bx {x b : Int32} {w : Nat} (k : Nat) (hb : b.toInt = (k : Int)) (hx : x.toInt = (w : Int)) (h : k + w < 2147483648) : (b + x).toInt = ((k + w : Nat) : Int) := by
  rw [i_add hb hx (by omega) (by omega)]; omega
theorem i_nat {x : Int32} (h : 0 ≤ x.toInt) : x.toInt = (x.toInt.toNat : Int) := by omega
theorem i_J {z : Int} (h1 : -2147483648 ≤ z) (h2 : z < 2147483648) : (Int32.ofInt z).toInt = z := Int32.toInt_ofInt_of_le (by omega) (by omega)
theorem up2_id {α : Type} {M : Nat → Nat → α} {k i : Nat} {v : α} (h : M k i = v) : up2 M k i v = M := by
  funext q j
  rw [up2_ap]
  split
  · rename_i c; obtain ⟨rfl, rfl⟩ := c; exact h.symm
  · rfl
/-! the specification -/
def sSz (s : hs) (w : Nat) : Nat := if 1000 ≤ s 1 w then (s 1 w - 999).toNat else 0
abbrev sGood (s : hs) (p : Int) : Prop := p = -1 ∨ p / 64 = s 0 15
def sWh (s : hs) (p : Int) : Nat := if p / 64 = s 0 15 ∨ p / 64 = 2 ∨ s 2 (p % 64).toNat = -1 then (p % 64).toNat else (s 2 (p % 64).toNat).toNat
abbrev sMust (s : hs) (w : Nat) : Prop := s 0 14 = 2 ∧ s 7 (w / 8) = 2 ∧ s 2 w = -1
abbrev sNeed (s : hs) (p : Int) : Prop := ¬ sGood s p ∧ sMust s (sWh s p)
def sFr (s : hs) : Nat → Nat → Nat
  | 0, p => p
  | d + 1, p => if s 7 p = 0 then p else sFr s d (p + 1)
def sFree (s : hs) : Nat := sFr s 8 0
abbrev sFits (s : hs) (u n : Nat) : Prop := s 9 u ≠ -1 ∧ s 6 (s 9 u).toNat + n ≤ 8
abbrev sRoom (s : hs) (u n : Nat) : Prop := sFits s u n ∨ sFree s < 8
def sPg (s : hs) (u n : Nat) : Nat := if sFits s u n then (s 9 u).toNat else sFree s
def sAt (s : hs) (u n : Nat) : Nat := 8 * sPg s u n + (s 6 (sPg s u n)).toNat
def sGive (s : hs) (u n : Nat) : hs := if sFits s u n then up2 s 6 (s 9 u).toNat (s 6 (s 9 u).toNat + n) else up2 (up2 (up2 s 7 (sFree s) 1) 9 u (sFree s)) 6 (sFree s) (s 6 (sFree s) + n)
def sCopy (s : hs) (a b n : Nat) : hs := fun k i => if k = 1 ∧ b ≤ i ∧ i < b + n then s 1 (a + (i - b)) else s k i
def sMark (s : hs) (w : Nat) : hs := if s 3 w = 0 ∧ 1000 ≤ s 1 w then up2 (up2 s 3 w 1) 5 (w / 8) (s 5 (w / 8) + (s 1 w - 999)) else s
/-- a line more; the eldest goes, if there are 25 -/
def sWr (s : hs) (kd v : Int) : hs := fun k i =>
  if k = 13 then
    (if s 13 0 = 25 then
      (if i = 0 then 25 else if i = 73 then s 0 17 else if i = 74 then kd else if i = 75 then v else s 13 (i + 3))
    else
      (if i = 0 then s 13 0 + 1 else if i = 1 + 3 * (s 13 0).toNat then s 0 17 else if i = 2 + 3 * (s 13 0).toNat then kd else if i = 3 + 3 * (s 13 0).toNat then v else s 13 i))
  else s k i
def sTell (s : hs) (a b : Nat) : hs := sWr (sMark (up2 s 2 a b) b) 4 a
def sMove (s : hs) (a : Nat) : hs := sTell (sCopy (sGive s 1 (sSz s a)) a (sAt s 1 (sSz s a)) (sSz s a)) a (sAt s 1 (sSz s a))
def sPush (s : hs) (w : Nat) : hs := if s 3 w = 0 then up2 (up2 (sMark s w) 4 (s 0 13).toNat w) 0 13 (s 0 13 + 1) else s
def sMend (s : hs) (p : Int) : hs := if sGood s p then s else if s 0 14 = 1 then sPush s (sWh s p) else if sMust s (sWh s p) then (if sRoom s 1 (sSz s (sWh s p)) then sMove s (sWh s p) else s) else s
def sMendV (s : hs) (p : Int) : Int := if sGood s p then p else if s 0 14 = 1 then s 0 15 * 64 + sWh s p else if sMust s (sWh s p) then (if sRoom s 1 (sSz s (sWh s p)) then s 0 15 * 64 + sAt s 1 (sSz s (sWh s p)) else -2) else s 0 15 * 64 + sWh s p
def sWM (s : hs) (w : Nat) (m : Int) : hs := if m = -2 ∨ s 1 w = m then s else sWr (up2 s 1 w m) 5 w
def sMW (s : hs) (w : Nat) : hs := sWM (sMend s (s 1 w)) w (sMendV s (s 1 w))
def sMR (s : hs) (r : Nat) : hs := if sMendV s (s 8 r) = -2 then sMend s (s 8 r) else up2 (sMend s (s 8 r)) 8 r (sMendV s (s 8 r))
def sMRs (s : hs) : Nat → Nat → hs
  | 0, _ => s
  | d + 1, r => sMRs (sMR s r) d (r + 1)
/-! class and reference against it -/
def xl : Nat → Nat
  | 0 => 19
  | 1 => 64
  | 2 => 64
  | 3 => 64
  | 4 => 64
  | 5 => 8
  | 6 => 8
  | 7 => 8
  | 8 => 6
  | 9 => 2
  | 10 => 2
  | 11 => 2
  | 12 => 2
  | _ => 0
def xd (k i : Nat) : Bool := decide (i < xl k ∧ (k = 0 → 13 ≤ i))
def RXb (u : Nat) (M : xm) (s : hs) : Prop := (M (u + 13) 2).toInt = s 13 0 ∧ 0 ≤ (M (u + 13) 1).toInt ∧ (M (u + 13) 1).toInt < 25 ∧ ∀ i j : Nat, (i : Int) < s 13 0 → j < 3 → (M (u + 14) (((M (u + 13) 1).toInt.toNat + i) % 25 * 3 + j)).toInt = s 13 (1 + 3 * i + j)
def RX (u : Nat) (M : xm) (s : hs) : Prop := (∀ k i, xd k i = true → (M (u + k) i).toInt = s k i) ∧ RXb u M s
def yf : Nat → Nat → Nat
  | 0, i => if i = 13 then 8 else if i = 14 then 6 else if i = 15 then 7 else if i = 16 then 11 else if i = 17 then 4 else 5
  | 1, i => 41 + i
  | 2, i => 105 + i
  | 3, i => 169 + i
  | 4, i => 233 + i
  | 6, i => 21 + i
  | 7, i => 13 + i
  | 8, i => 29 + i
  | 9, i => 9 + i
  | 10, i => 35 + i
  | 11, i => 37 + i
  | 12, i => 39 + i
  | _, _ => 0
def yd (k i : Nat) : Bool := xd k i && decide (k ≠ 5)
def RYb (a : Nat → Int32) (s : hs) : Prop := (a 12).toInt = s 13 0 ∧ ∀ i : Nat, (i : Int) < s 13 0 → (a (297 + i)).toInt = (s 13 (1 + 3 * i) * 6 + s 13 (2 + 3 * i)) * 256 + s 13 (3 + 3 * i)
def RYr (a : Nat → Int32) (s : hs) : Prop := (∀ k i, yd k i = true → (k = 11 ∨ k = 12 → s 10 i ≠ -1) → (a (yf k i)).toInt = s k i) ∧ RYb a s
abbrev RY (M : xm) (s : hs) : Prop := RYr (M 1) s
theorem xd_lt {k i : Nat} (h : xd k i = true) : k < 13 ∧ i < 64 := by
  have h := of_decide_eq_true h
  have : k < 13 := by
    rcases Nat.lt_or_ge k 13 with q | q
    · exact q
    · exfalso
      have : xl k = 0 := by
        unfold xl
        split <;> first | omega | rfl
      omega
  refine ⟨this, Nat.lt_of_lt_of_le h.1 ?_⟩
  unfold xl
  split <;> omega
def yinv (j : Nat) : Nat := if 4 ≤ j ∧ j < 322 then (if j = 8 then 13 else if j = 6 then 14 else if j = 7 then 15 else if j = 11 then 16 else if j = 4 then 17 else if j = 5 then 18 else if j < 12 then 900 + (j - 9) else if j < 21 then 700 + (j - 13) else if j < 29 then 600 + (j - 21) else if j < 35 then 800 + (j - 29) else if j < 37 then 1000 + (j - 35) else if j < 39 then 1100 + (j - 37) else if j < 41 then 1200 + (j - 39) else if j < 105 then 100 + (j - 41) else if j < 169 then 200 + (j - 105) else if j < 233 then 300 + (j - 169) else 400 + (j - 233)) else 0
theorem yinv_all : ∀ k, k < 13 → ∀ i, i < 64 → yd k i = true → yinv (yf k i) = 100 * k + i ∧ yf k i ≠ 12 ∧ yf k i < 297 ∧ 4 ≤ yf k i := by decide +kernel
theorem yd_x {k i : Nat} (h : yd k i = true) : xd k i = true ∧ k ≠ 5 := by
  unfold yd at h
  rw [Bool.and_eq_true, decide_eq_true_eq] at h
  exact h
theorem yf_inj {k i k' i' : Nat} (h : yd k i = true) (h' : yd k' i' = true) (e : yf k i = yf k' i') : k = k' ∧ i = i' := by
  have a := xd_lt (yd_x h).1
  have a' := xd_lt (yd_x h').1
  have b := (yinv_all k a.1 i a.2 h).1
  have b' := (yinv_all k' a'.1 i' a'.2 h').1
  rw [e, b'] at b
  omega
theorem up2_row {M : xm} {k j : Nat} {v : Int32} (i : Nat) : up2 M k j v k i = if i = j then v else M k i := by
  rw [up2_ap]; simp
theorem RY.up {M : xm} {s : hs} (h : RY M s) {k i : Nat} (hd : yd k i = true) (hk : k ≠ 10) {v : Int32} {z : Int} (hv : v.toInt = z) : RY (up2 M 1 (yf k i) v) (up2 s k i z) := by
  have hx := xd_lt (yd_x hd).1
  have hy := (yinv_all k hx.1 i hx.2 hd).2
  refine ⟨fun k' i' hd' hc => ?_, ?_, fun q hq => ?_⟩
  · rw [up2_row, up2_ap]
    by_cases e : k' = k ∧ i' = i
    · rw [if_pos e, e.1, e.2, if_pos rfl, hv]
    · rw [if_neg e, if_neg (fun c => e (yf_inj hd' hd c))]
      refine h.1 k' i' hd' (fun c => ?_)
      have := hc c
      rw [up2_ap, if_neg (fun c => hk c.1.symm)] at this
      exact this
  · rw [up2_row, if_neg (Ne.symm hy.1), up2_ap, if_neg (by omega)]
    exact h.2.1
  · rw [up2_ap, if_neg (by omega)] at hq
    rw [up2_row, if_neg (by omega), up2_ap, if_neg (by omega), up2_ap, if_neg (by omega), up2_ap, if_neg (by omega)]
    exact h.2.2 q hq
theorem RX.up {u : Nat} {M : xm} {s : hs} (h : RX u M s) {k i : Nat} (hk : k < 13) {v : Int32} {z : Int} (hv : v.toInt = z) : RX u (up2 M (u + k) i v) (up2 s k i z) := by
  refine ⟨fun k' i' hd' => ?_, ?_⟩
  · rw [up2_ap, up2_ap]
    by_cases e : k' = k ∧ i' = i
    · rw [if_pos e, if_pos ⟨by rw [e.1], e.2⟩, hv]
    · rw [if_neg e, if_neg (fun c => e ⟨by omega, c.2⟩)]
      exact h.1 k' i' hd'
  · obtain ⟨h1, h2, h3, h4⟩ := h.2
    have a : ∀ i' : Nat, up2 M (u + k) i v (u + 13) i' = M (u + 13) i' := fun i' => by rw [up2_ap, if_neg (by omega)]
    have b : ∀ i' : Nat, up2 M (u + k) i v (u + 14) i' = M (u + 14) i' := fun i' => by rw [up2_ap, if_neg (by omega)]
    have c : ∀ i' : Nat, up2 s k i z 13 i' = s 13 i' := fun i' => by rw [up2_ap, if_neg (by omega)]
    refine ⟨by rw [a, c]; exact h1, by rw [a]; exact h2, by rw [a]; exact h3, fun i' j' q q' => ?_⟩
    rw [c] at q
    rw [a, b, c]
    exact h4 i' j' q q'
/-- nothing changed but the heap's own cells -/
def frX (u : Nat) (M M' : xm) : Prop := ∀ q, (q < u ∨ u + 15 ≤ q) → M' q = M q
def frY (M M' : xm) : Prop := (∀ q, q ≠ 1 → M' q = M q) ∧ ∀ j, (j < 4 ∨ 322 ≤ j) → M' 1 j = M 1 j
theorem frX.rfl {u : Nat} {M : xm} : frX u M M := fun _ _ => Eq.refl _
theorem frY.rfl {M : xm} : frY M M := ⟨fun _ _ => Eq.refl _, fun _ _ => Eq.refl _⟩
theorem frX.tr {u : Nat} {M M' M'' : xm} (h : frX u M M') (h' : frX u M' M'') : frX u M M'' := fun q c => (h' q c).trans (h q c)
theorem frY.tr {M M' M'' : xm} (h : frY M M') (h' : frY M' M'') : frY M M'' := ⟨fun q c => (h'.1 q c).trans (h.1 q c), fun q c => (h'.2 q c).trans (h.2 q c)⟩
theorem frX.up {u : Nat} {M : xm} {k i : Nat} {v : Int32} (hk : k < 15) : frX u M (up2 M (u + k) i v) := fun q c => by
  funext j; rw [up2_ap, if_neg (by omega)]
theorem frY.up {M : xm} {j : Nat} {v : Int32} (h : 4 ≤ j ∧ j < 322) : frY M (up2 M 1 j v) := ⟨fun q c => by funext i; rw [up2_ap, if_neg (by omega)], fun i c => by rw [up2_ap, if_neg (by omega)]⟩
