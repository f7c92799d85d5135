/-! tokens: bytes B i for i < n; the reference's nextToken -/
def bt (B : Nat → Int) (n i : Nat) : Int := if i < n then B i else -1
abbrev dgP (c : Int) : Prop := 48 ≤ c ∧ c ≤ 57
abbrev blP (c : Int) : Prop := c = 32 ∨ c = 10
/-- from i to j all are so, j isn't -/
def Rn (P : Int → Prop) (B : Nat → Int) (n i j : Nat) : Prop := i ≤ j ∧ (∀ m, i ≤ m → m < j → P (bt B n m)) ∧ ¬ P (bt B n j)
theorem Rn.one {P : Int → Prop} {B : Nat → Int} {n i j j' : Nat} (h : Rn P B n i j) (h' : Rn P B n i j') : j = j' := by
  rcases Nat.lt_trichotomy j j' with q | q | q
  · exact absurd (h'.2.1 j h.1 q) h.2.2
  · exact q
  · exact absurd (h.2.1 j' h'.1 q) h'.2.2
theorem Rn.le {P : Int → Prop} {B : Nat → Int} {n i j : Nat} (h : Rn P B n i j) (hi : i ≤ n) (hP : ¬ P (-1)) : j ≤ n := by
  rcases Nat.lt_or_ge n j with q | q
  · exfalso
    have := h.2.1 n hi q
    unfold bt at this
    rw [if_neg (by omega)] at this
    exact hP this
  · exact q
theorem Rn.next {P : Int → Prop} {B : Nat → Int} {n i j : Nat} (h : Rn P B n i j) (hp : P (bt B n i)) : Rn P B n (i + 1) j := by
  have : i ≠ j := fun e => h.2.2 (by rw [← e]; exact hp)
  exact ⟨by have := h.1; omega, fun m h1 h2 => h.2.1 m (by omega) h2, h.2.2⟩
theorem Rn.nil {P : Int → Prop} {B : Nat → Int} {n i j : Nat} (h : Rn P B n i j) (hp : ¬ P (bt B n i)) : j = i := by
  rcases Nat.lt_or_ge i j with q | q
  · exact absurd (h.2.1 i (Nat.le_refl _) q) hp
  · have := h.1; omega
/-- the tape, as the reference has it -/
def YB (M : xm) (B : Nat → Int) (n : Nat) : Prop := (M 0 4).toInt = (n : Int) ∧ n ≤ 300 ∧ ∀ i, i < n → (M 4 i).toInt = B i ∧ 0 ≤ B i ∧ B i ≤ 255
theorem YB.byte {M : xm} {B : Nat → Int} {n : Nat} (h : YB M B n) {x : Int32} {i : Nat} (hx : x.toInt = (i : Int)) : ∃ r, f_X10_byteAt M x = some r ∧ r.toInt = bt B n i := by
  unfold f_X10_byteAt bt
  by_cases c : i < n
  · have h2 := h.2.1
    rw [if_neg (by rw [i_le, h.1, hx]; omega), if_pos (i_in hx (by omega)), i_ix hx, if_pos c]
    exact ⟨_, rfl, (h.2.2 i c).1⟩
  · rw [if_pos (by rw [i_le, h.1, hx]; omega), if_neg c]
    exact ⟨-1, rfl, rfl⟩
theorem YB.up {M : xm} {B : Nat → Int} {n : Nat} (h : YB M B n) {j : Nat} {v : Int32} (hj : j ≠ 4) : YB (up2 M 0 j v) B n := by
  unfold YB
  rw [up2_ne (by omega), up2_cell (by decide)]
  exact h
/-- nothing but some slots of cell 0 -/
def fr0 (M M' : xm) : Prop := (∀ q, q ≠ 0 → M' q = M q) ∧ ∀ i, i ≠ 7 → i ≠ 8 → i ≠ 9 → i ≠ 10 → M' 0 i = M 0 i
theorem fr0.rfl {M : xm} : fr0 M M := ⟨fun _ _ => Eq.refl _, fun _ _ _ _ _ => Eq.refl _⟩
theorem fr0.tr {M M' M'' : xm} (h : fr0 M M') (h' : fr0 M' M'') : fr0 M M'' := ⟨fun q a => (h'.1 q a).trans (h.1 q a), fun i a b c d => (h'.2 i a b c d).trans (h.2 i a b c d)⟩
theorem fr0.up {M : xm} {j : Nat} {v : Int32} (hj : j = 7 ∨ j = 8 ∨ j = 9 ∨ j = 10) : fr0 M (up2 M 0 j v) := ⟨fun q a => up2_cell a, fun i a b c d => up2_ne (by omega)⟩
theorem YB.fr {M M' : xm} {B : Nat → Int} {n : Nat} (h : YB M B n) (hf : fr0 M M') : YB M' B n := by
  unfold YB
  rw [hf.1 4 (by decide), hf.2 4 (by decide) (by decide) (by decide) (by decide)]
  exact h
theorem y_skip {B : Nat → Int} {n : Nat} {L : xn} : ∀ (d c j f : Nat) (M : xm), YB M B n → (M 0 7).toInt = (c : Int) → Rn blP B n c j → j - c = d → c ≤ 400 → j ≤ 400 → d < f → ∃ M', g_X10_nextToken_0 L f M = some M' ∧ (M' 0 7).toInt = (j : Int) ∧ fr0 M M' := by
  intro d
  induction d with
  | zero =>
    intro c j f M h hc hr hd hc4 hj4 hf
    obtain ⟨f, rfl⟩ : ∃ q, f = q + 1 := ⟨f - 1, by omega⟩
    have e : j = c := by have := hr.1; omega
    subst e
    obtain ⟨r, r1, r2⟩ := h.byte hc
    have nb := hr.2.2
    unfold g_X10_nextToken_0
    rw [r1, xb1_some, if_neg (by rw [i_eq, r2]; exact fun q => nb (Or.inl q)), xb1_some, if_neg (by rw [i_eq, r2]; exact fun q => nb (Or.inr q))]
    exact ⟨M, rfl, hc, fr0.rfl⟩
  | succ d ih =>
    intro c j f M h hc hr hd hc4 hj4 hf
    obtain ⟨f, rfl⟩ : ∃ q, f = q + 1 := ⟨f - 1, by omega⟩
    obtain ⟨r, r1, r2⟩ := h.byte hc
    have b := hr.2.1 c (Nat.le_refl _) (by omega)
    have nx : (M 0 7 + 1).toInt = ((c + 1 : Nat) : Int) := k_add hc (y := 1) (b := 1) rfl (by omega)
    obtain ⟨M', k1, k2, k3⟩ := ih (c + 1) j f (up2 M 0 7 (M 0 7 + 1)) (h.up (by decide)) (by rw [up2_same]; exact nx) (hr.next b) (by omega) (by omega) hj4 (by omega)
    refine ⟨M', ?_, k2, (fr0.up (Or.inl rfl)).tr k3⟩
    unfold g_X10_nextToken_0
    rw [r1, xb1_some]
    rcases b with b | b
    · rw [if_pos (by rw [i_eq, r2, b]; rfl), xlet_eq]
      exact k1
    · rw [if_neg (by rw [i_eq, r2, b]; decide), xb1_some, if_pos (by rw [i_eq, r2, b]; rfl), xlet_eq]
      exact k1
theorem yLet {x : Int32} {c : Int} (h : x.toInt = c) : f_X10_isLetterByte x = if lcP c then 1 else 0 := by
  unfold f_X10_isLetterByte
  simp only [xlet_eq, i_lt, i_le, h, Int32.reduceToInt]
  by_cases a : c < 97
  · rw [if_pos a]
    by_cases b : c < 65
    · rw [if_pos b, if_neg (by unfold lcP; omega)]
    · rw [if_neg b]
      by_cases d : 90 < c
      · rw [if_pos d, if_neg (by unfold lcP; omega)]
      · rw [if_neg d, if_pos (by unfold lcP; omega)]
  · rw [if_neg a]
    by_cases b : c ≤ 122
    · rw [if_pos b, if_pos (by unfold lcP; omega)]
    · rw [if_neg b, if_neg (c := c < 65) (by omega), if_pos (c := 90 < c) (by omega), if_neg (by unfold lcP; omega)]
theorem yFig {x : Int32} {c : Int} (h : x.toInt = c) : f_X10_isFigure x = if dgP c then 1 else 0 := by
  unfold f_X10_isFigure
  simp only [i_lt, h, Int32.reduceToInt]
  by_cases b : c < 48
  · rw [if_pos b, if_neg (by unfold dgP; omega)]
  · rw [if_neg b]
    by_cases d : 57 < c
    · rw [if_pos d, if_neg (by unfold dgP; omega)]
    · rw [if_neg d, if_pos (by unfold dgP; omega)]
/-- the reference's number, digit by digit -/
def ynm (B : Nat → Int) (n i : Nat) : Nat → Nat
  | 0 => 0
  | m + 1 => if 99999 < ynm B n i m then ynm B n i m else 10 * ynm B n i m + (bt B n (i + m) - 48).toNat
theorem ynm_le {B : Nat → Int} {n i : Nat} : ∀ m, (∀ k, k < m → dgP (bt B n (i + k))) → ynm B n i m ≤ 1000000 := by
  intro m
  induction m with
  | zero => intro _; unfold ynm; omega
  | succ m ih =>
    intro h
    have a := ih (fun k hk => h k (by omega))
    have b := h m (by omega)
    unfold ynm
    split <;> omega
theorem y_digits {B : Nat → Int} {n i : Nat} {L : xn} : ∀ (d c j f : Nat) (M : xm), YB M B n → (M 0 7).toInt = ((i + c : Nat) : Int) → Rn dgP B n i j → i + c ≤ j → j - (i + c) = d → j ≤ 400 → (M 0 10).toInt = (ynm B n i c : Int) → d < f → ∃ M', g_X10_nextToken_85 L f M = some M' ∧ (M' 0 7).toInt = (j : Int) ∧ (M' 0 10).toInt = (ynm B n i (j - i) : Int) ∧ M' 0 9 = M 0 9 ∧ M' 0 8 = M 0 8 ∧ fr0 M M' := by
  intro d
  induction d with
  | zero =>
    intro c j f M h hc hr hij hd hj4 hn hf
    obtain ⟨f, rfl⟩ : ∃ q, f = q + 1 := ⟨f - 1, by omega⟩
    have e : j = i + c := by omega
    subst e
    obtain ⟨r, r1, r2⟩ := h.byte hc
    unfold g_X10_nextToken_85
    rw [r1, xb1_some, yFig r2, if_neg hr.2.2, if_pos rfl]
    exact ⟨M, rfl, hc, by rw [show i + c - i = c by omega]; exact hn, rfl, rfl, fr0.rfl⟩
  | succ d ih =>
    intro c j f M h hc hr hij hd hj4 hn hf
    obtain ⟨f, rfl⟩ : ∃ q, f = q + 1 := ⟨f - 1, by omega⟩
    obtain ⟨r, r1, r2⟩ := h.byte hc
    have b := hr.2.1 (i + c) (by omega) (by omega)
    have nl := ynm_le (B := B) (n := n) (i := i) c (fun k hk => hr.2.1 (i + k) (by omega) (by omega))
    have nx : (M 0 7 + 1).toInt = ((i + (c + 1) : Nat) : Int) := by rw [k_add hc (y := 1) (b := 1) rfl (by omega)]; omega
    unfold g_X10_nextToken_85
    rw [r1, xb1_some, yFig r2, if_pos b, if_neg n10]
    by_cases q : 99999 < ynm B n i c
    · have e : ynm B n i (c + 1) = ynm B n i c := by rw [ynm, if_pos q]
      rw [if_neg (by rw [i_le, hn]; simp only [Int32.reduceToInt]; omega), up2_id rfl, xlet_eq, xlet_eq]
      obtain ⟨M', k1, k2, k3, k4, k5, k6⟩ := ih (c + 1) j f (up2 M 0 7 (M 0 7 + 1)) (h.up (by decide)) (by rw [up2_same]; exact nx) hr (by omega) (by omega) hj4 (by rw [up2_ne (by omega), e]; exact hn) (by omega)
      exact ⟨M', k1, k2, k3, k4, k5, (fr0.up (Or.inl rfl)).tr k6⟩
    · have e : ynm B n i (c + 1) = 10 * ynm B n i c + (bt B n (i + c) - 48).toNat := by rw [ynm, if_neg q]
      have v1 : (10 * M 0 10).toInt = 10 * (ynm B n i c : Int) := i_mul (a := 10) rfl hn (by omega) (by omega)
      have v2 : (10 * M 0 10 + r).toInt = 10 * (ynm B n i c : Int) + bt B n (i + c) := i_add v1 r2 (by omega) (by omega)
      have v3 : (10 * M 0 10 + r - 48).toInt = (ynm B n i (c + 1) : Int) := by rw [i_sub v2 (b := 48) rfl (by omega) (by omega), e]; omega
      rw [if_pos (by rw [i_le, hn]; simp only [Int32.reduceToInt]; omega), xb1_some, xlet_eq, xlet_eq]
      obtain ⟨M', k1, k2, k3, k4, k5, k6⟩ := ih (c + 1) j f (up2 (up2 M 0 10 (10 * M 0 10 + r - 48)) 0 7 (M 0 7 + 1)) ((h.up (by decide)).up (by decide)) (by rw [up2_same]; exact nx) hr (by omega) (by omega) hj4 (by rw [up2_ne (by omega), up2_same]; exact v3) (by omega)
      exact ⟨M', k1, k2, k3, k4, k5, ((fr0.up (Or.inr (Or.inr (Or.inr rfl)))).tr (fr0.up (Or.inl rfl))).tr k6⟩
theorem y_letters {B : Nat → Int} {n i : Nat} : ∀ (d c j f : Nat) (M : xm) (L : xn), YB M B n → (M 0 7).toInt = ((i + c : Nat) : Int) → Rn lcP B n i j → i + c ≤ j → j - (i + c) = d → j ≤ 400 → (L 0 11).toInt = ((wcd (fun k => bt B n (i + k)) c : Nat) : Int) → d < f → ∃ M' L', g_X10_nextToken_168 f M L = some (M', L') ∧ (M' 0 7).toInt = (j : Int) ∧ (L' 0 11).toInt = ((wcd (fun k => bt B n (i + k)) (j - i) : Nat) : Int) ∧ M' 0 9 = M 0 9 ∧ M' 0 8 = M 0 8 ∧ fr0 M M' := by
  intro d
  induction d with
  | zero =>
    intro c j f M L h hc hr hij hd hj4 hn hf
    obtain ⟨f, rfl⟩ : ∃ q, f = q + 1 := ⟨f - 1, by omega⟩
    have e : j = i + c := by omega
    subst e
    obtain ⟨r, r1, r2⟩ := h.byte hc
    unfold g_X10_nextToken_168
    rw [r1, xb1_some, yLet r2, if_neg hr.2.2, if_pos rfl]
    exact ⟨M, L, rfl, hc, by rw [show i + c - i = c by omega]; exact hn, rfl, rfl, fr0.rfl⟩
  | succ d ih =>
    intro c j f M L h hc hr hij hd hj4 hn hf
    obtain ⟨f, rfl⟩ : ∃ q, f = q + 1 := ⟨f - 1, by omega⟩
    obtain ⟨r, r1, r2⟩ := h.byte hc
    have b := hr.2.1 (i + c) (by omega) (by omega)
    have nl := wcd_le (b := fun k => bt B n (i + k)) c (fun k hk => hr.2.1 (i + k) (by omega) (by omega))
    have nx : (M 0 7 + 1).toInt = ((i + (c + 1) : Nat) : Int) := by rw [k_add hc (y := 1) (b := 1) rfl (by omega)]; omega
    unfold g_X10_nextToken_168
    rw [r1, xb1_some, yLet r2, if_pos b, if_neg n10]
    by_cases q : wcd (fun k => bt B n (i + k)) c < 281474976710656
    · have e : wcd (fun k => bt B n (i + k)) (c + 1) = wcd (fun k => bt B n (i + k)) c * 256 + (bt B n (i + c)).toNat := by rw [wcd, if_neg (by omega)]
      have r3 : r.toInt64.toInt = (((bt B n (i + c)).toNat : Nat) : Int) := by rw [j_32 r2]; omega
      have v1 := j_cat hn r3 q (by omega)
      rw [if_pos ((j_shr hn).mpr q), xb1_some, xlet_eq, xlet_eq]
      obtain ⟨M', L', k1, k2, k3, k4, k5, k6⟩ := ih (c + 1) j f (up2 M 0 7 (M 0 7 + 1)) (up2 L 0 11 ((L 0 11 <<< ((8 : Int32).toInt64 &&& 63)) ||| r.toInt64)) (h.up (by decide)) (by rw [up2_same]; exact nx) hr (by omega) (by omega) hj4 (by rw [up2_same, e]; exact v1) (by omega)
      exact ⟨M', L', k1, k2, k3, k4, k5, (fr0.up (Or.inl rfl)).tr k6⟩
    · have e : wcd (fun k => bt B n (i + k)) (c + 1) = 1152921504606846976 := by rw [wcd, if_pos (by omega)]
      rw [if_neg (fun t => q ((j_shr hn).mp t)), xlet_eq, xlet_eq]
      obtain ⟨M', L', k1, k2, k3, k4, k5, k6⟩ := ih (c + 1) j f (up2 M 0 7 (M 0 7 + 1)) (up2 L 0 11 1152921504606846976) (h.up (by decide)) (by rw [up2_same]; exact nx) hr (by omega) (by omega) hj4 (by rw [up2_same, e]; rfl) (by omega)
      exact ⟨M', L', k1, k2, k3, k4, k5, (fr0.up (Or.inl rfl)).tr k6⟩
