/-! words as longs -/
theorem j_nat {x : Int64} {a : Nat} (h : x.toInt = (a : Int)) : x.toBitVec.toNat = a := by
  have e := BitVec.toInt_eq_toNat_cond x.toBitVec
  rw [Int64.toInt_toBitVec, h] at e
  have lt := x.toBitVec.isLt
  split at e <;> omega
theorem j_of {x : Int64} {a : Nat} (h : x.toBitVec.toNat = a) (ha : a < 2 ^ 63) : x.toInt = (a : Int) := by
  have e := BitVec.toInt_eq_toNat_cond x.toBitVec
  rw [Int64.toInt_toBitVec, h, if_pos (by omega)] at e
  exact e
theorem j_cat {x y : Int64} {a b : Nat} (hx : x.toInt = (a : Int)) (hy : y.toInt = (b : Int)) (ha : a < 2 ^ 48) (hb : b < 256) : ((x <<< ((8 : Int32).toInt64 &&& 63)) ||| y).toInt = ((a * 256 + b : Nat) : Int) := by
  have e8 : ((8 : Int32).toInt64 &&& 63) = (8 : Int64) := by decide
  rw [e8]
  refine j_of ?_ (by omega)
  have e1 : (x <<< (8 : Int64)).toBitVec = x.toBitVec <<< 8 := rfl
  rw [Int64.toBitVec_or, BitVec.toNat_or, e1, BitVec.toNat_shiftLeft, j_nat hx, j_nat hy, Nat.shiftLeft_eq, Nat.mod_eq_of_lt (by omega), ← Nat.shiftLeft_eq, ← Nat.shiftLeft_add_eq_or_of_lt (by omega), Nat.shiftLeft_eq]
theorem j_shr {x : Int64} {a : Nat} (hx : x.toInt = (a : Int)) : lg_cmp (x >>> ((48 : Int32).toInt64 &&& 63)) 0 = 0 ↔ a < 2 ^ 48 := by
  have e8 : ((48 : Int32).toInt64 &&& 63) = (48 : Int64) := by decide
  have e1 : (x >>> (48 : Int64)).toBitVec = x.toBitVec.sshiftRight 48 := rfl
  have e2 : (x >>> (48 : Int64)).toInt = x.toInt >>> 48 := by
    rw [← Int64.toInt_toBitVec, e1, BitVec.toInt_sshiftRight, Int64.toInt_toBitVec]
  have z : (0 : Int64).toInt = 0 := rfl
  rw [e8, lc_eq, e2, hx, z, Int.shiftRight_eq_div_pow]
  constructor
  · intro h; omega
  · intro h; omega
/-! letters and their codes -/
abbrev lcP (c : Int) : Prop := (65 ≤ c ∧ c ≤ 90) ∨ (97 ≤ c ∧ c ≤ 122)
def wcd (b : Nat → Int) : Nat → Nat
  | 0 => 0
  | m + 1 => if 281474976710656 ≤ wcd b m then 1152921504606846976 else wcd b m * 256 + (b m).toNat
theorem wcd_pos {b : Nat → Int} : ∀ m : Nat, (∀ i, i < m → lcP (b i)) → 1 ≤ m → 65 ≤ wcd b m := by
  intro m
  induction m with
  | zero => intro _ h; omega
  | succ m ih =>
    intro h _
    have a := h m (by omega)
    unfold wcd
    split
    · omega
    · omega
theorem wcd_small {b : Nat → Int} : ∀ m : Nat, m ≤ 6 → (∀ i, i < m → lcP (b i)) → wcd b m < 256 ^ m := by
  intro m
  induction m with
  | zero => intro _ _; exact Nat.lt_of_lt_of_le Nat.zero_lt_one (Nat.le_refl _)
  | succ m ih =>
    intro hm h
    have a := h m (by omega)
    have c := ih (by omega) (fun i hi => h i (by omega))
    have p : 256 ^ m ≤ 256 ^ 5 := Nat.pow_le_pow_right (by omega) (by omega)
    have e : 256 ^ (m + 1) = 256 ^ m * 256 := Nat.pow_succ 256 m
    unfold wcd
    rw [if_neg (by omega), e]
    omega
theorem wcd_le {b : Nat → Int} : ∀ m : Nat, (∀ i, i < m → lcP (b i)) → wcd b m ≤ 1152921504606846976 := by
  intro m
  induction m with
  | zero => intro _; unfold wcd; omega
  | succ m ih =>
    intro h
    have a := h m (by omega)
    unfold wcd
    split <;> omega
theorem wcd_inj {a b : Nat → Int} : ∀ (q p : Nat), q ≤ 6 → (∀ i, i < p → lcP (a i)) → (∀ i, i < q → lcP (b i)) → wcd a p = wcd b q → p = q ∧ ∀ i, i < q → a i = b i := by
  intro q
  induction q with
  | zero =>
    intro p _ ha _ e
    have : ¬ 1 ≤ p := fun h => by have := wcd_pos p ha h; have z : wcd b 0 = 0 := rfl; omega
    exact ⟨by omega, fun i hi => by omega⟩
  | succ q ih =>
    intro p hq ha hb e
    have s1 := wcd_small (b := b) (q + 1) hq hb
    have p6 : 256 ^ (q + 1) ≤ 256 ^ 6 := Nat.pow_le_pow_right (by omega) (by omega)
    have pb := wcd_pos (q + 1) hb (by omega)
    have s2 := wcd_small (b := b) q (by omega) (fun i hi => hb i (by omega))
    have p5 : 256 ^ q ≤ 256 ^ 5 := Nat.pow_le_pow_right (by omega) (by omega)
    have eb : wcd b (q + 1) = wcd b q * 256 + (b q).toNat := by rw [wcd, if_neg (by omega)]
    have lb := hb q (by omega)
    obtain ⟨p, rfl⟩ : ∃ r, p = r + 1 := ⟨p - 1, by
      rcases Nat.eq_zero_or_pos p with z | z
      · rw [z] at e; have zz : wcd a 0 = 0 := rfl; omega
      · omega⟩
    have la := ha p (by omega)
    by_cases c : 281474976710656 ≤ wcd a p
    · rw [wcd, if_pos c] at e; omega
    · have ea : wcd a (p + 1) = wcd a p * 256 + (a p).toNat := by rw [wcd, if_neg c]
      rw [ea, eb] at e
      have ab : a p = b q := by omega
      obtain ⟨r1, r2⟩ := ih p (by omega) (fun i hi => ha i (by omega)) (fun i hi => hb i (by omega)) (by omega)
      refine ⟨by omega, fun i hi => ?_⟩
      by_cases ci : i = q
      · rw [ci]; rw [r1] at ab; exact ab
      · exact r2 i (by omega)
