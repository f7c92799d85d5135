/-! all tokens: token i has kind K i, place P i, number N i, and ends at E (i + 1) -/
def Sq (B : Nat → Int) (n t a : Nat) (K P N E : Nat → Nat) : Prop := E 0 = 0 ∧ E t ≤ a ∧ (∀ m, E t ≤ m → m < a → blP (bt B n m)) ∧ t ≤ a ∧ a ≤ n ∧ (∀ i, i ≤ t → E i ≤ n) ∧ ∀ i, i < t → Rn blP B n (E i) (P i) ∧ Tok B n (P i) (K i) (N i) (E (i + 1)) ∧ K i ≠ 41 ∧ P i < n
def XT (M : xm) (t : Nat) (K P N : Nat → Nat) : Prop := ∀ i, i < t → (M 992 i).toInt = (K i : Int) ∧ (M 993 i).toInt = (P i : Int) ∧ (M 994 i).toInt = (N i : Int)
def upN (F : Nat → Nat) (i v : Nat) : Nat → Nat := fun j => if j = i then v else F j
theorem upN_s (F : Nat → Nat) (i v : Nat) : upN F i v i = v := if_pos rfl
theorem upN_n {F : Nat → Nat} {i v j : Nat} (h : j ≠ i) : upN F i v j = F j := if_neg h
theorem frScan {M M' M'' : xm} (h : (∀ q, q ≠ 990 → q ≠ 992 → q ≠ 993 → q ≠ 994 → M' q = M q) ∧ ∀ i, i ≠ 8 → M' 990 i = M 990 i) (h' : (∀ q, q ≠ 990 → q ≠ 992 → q ≠ 993 → q ≠ 994 → M'' q = M' q) ∧ ∀ i, i ≠ 8 → M'' 990 i = M' 990 i) : (∀ q, q ≠ 990 → q ≠ 992 → q ≠ 993 → q ≠ 994 → M'' q = M q) ∧ ∀ i, i ≠ 8 → M'' 990 i = M 990 i := ⟨fun q a b c d => (h'.1 q a b c d).trans (h.1 q a b c d), fun i a => (h'.2 i a).trans (h.2 i a)⟩
theorem x_scan_loop {B : Nat → Int} {n : Nat} : ∀ (d a f : Nat) (M : xm) (x y : Int32) (t u : Nat) (K P N E : Nat → Nat), a + d = n → d < f → XB M B n → (M 990 8).toInt = (t : Int) → Sq B n t a K P N E → XT M t K P N → x.toInt = (a : Int) → y.toInt = (u : Int) → u ≤ a → ∃ M' t' K' P' N' E', g_X4_scan_9 f M x y = some M' ∧ XB M' B n ∧ (M' 990 8).toInt = ((t' : Nat) : Int) ∧ Sq B n t' n K' P' N' E' ∧ XT M' t' K' P' N' ∧ (∀ q, q ≠ 990 → q ≠ 992 → q ≠ 993 → q ≠ 994 → M' q = M q) ∧ ∀ i, i ≠ 8 → M' 990 i = M 990 i := by
  intro d
  induction d using Nat.strongRecOn with
  | _ d ih =>
    intro a f M x y t u K P N E hd hf hb ht hq hT hx hy hu
    obtain ⟨f, rfl⟩ : ∃ q, f = q + 1 := ⟨f - 1, by omega⟩
    have n3 := hb.2.1
    unfold g_X4_scan_9
    rcases Nat.eq_zero_or_pos d with d0 | d0
    · have e : a = n := by omega
      have stop : (if (300 : Int32) ≤ y then some M else if M 990 5 ≤ x then some M else xb2 (f_X4_scanFrom M x) (fun v9 M10 => xlet (y + (1 : Int32)) (fun v12 => g_X4_scan_9 f M10 v9 v12))) = some M := by
        by_cases c : (300 : Int32) ≤ y
        · rw [if_pos c]
        · rw [if_neg c, if_pos (by rw [i_le, hb.1, hx]; omega)]
      rw [stop]
      rw [e] at hq
      exact ⟨M, t, K, P, N, E, rfl, hb, ht, hq, hT, fun _ _ _ _ _ => rfl, fun _ _ => rfl⟩
    · obtain ⟨q0, q1, q2, q3, q4, q5, q6⟩ := hq
      have sc := x_scanFrom hb hx (by omega) ht (by omega)
      have ny : (y + 1).toInt = ((u + 1 : Nat) : Int) := k_add hy (y := 1) (b := 1) rfl (by omega)
      rw [if_neg (c := (300 : Int32) ≤ y) (by rw [i_le, hy]; simp only [Int32.reduceToInt]; omega), if_neg (c := M 990 5 ≤ x) (by rw [i_le, hb.1, hx]; omega)]
      by_cases c : blP (bt B n a)
      · obtain ⟨r, r1, r2⟩ := sc.1 c
        rw [r1, xb2_some, xlet_eq]
        exact ih (d - 1) (by omega) (a + 1) f M r (y + 1) t (u + 1) K P N E (by omega) (by omega) hb ht ⟨q0, by omega, fun m m1 m2 => by
          by_cases cm : m = a
          · rw [cm]; exact c
          · exact q2 m m1 (by omega), by omega, by omega, q5, q6⟩ hT r2 ny (by omega)
      · obtain ⟨r, M1, kd, nm, e, r1, r2, r3, r4, r5, r6, r7⟩ := sc.2 c
        rw [r1, xb2_some, xlet_eq]
        have hq1 : Sq B n (t + 1) e (upN K t kd) (upN P t a) (upN N t nm) (upN E (t + 1) e) := by
          refine ⟨by rw [upN_n (by omega)]; exact q0, by rw [upN_s]; exact Nat.le_refl _, fun m m1 m2 => by rw [upN_s] at m1; omega, by omega, r4, fun i hi => ?_, fun i hi => ?_⟩
          · by_cases ci : i = t + 1
            · rw [ci, upN_s]; exact r4
            · rw [upN_n ci]; exact q5 i (by omega)
          · rw [upN_n (show i ≠ t + 1 by omega)]
            by_cases ci : i = t
            · rw [ci, upN_s, upN_s, upN_s, upN_s]
              exact ⟨⟨q1, q2, c⟩, r5, r6, by omega⟩
            · rw [upN_n ci, upN_n ci, upN_n ci, upN_n (show i + 1 ≠ t + 1 by omega)]
              exact q6 i (by omega)
        have hT1 : XT M1 (t + 1) (upN K t kd) (upN P t a) (upN N t nm) := fun i hi => by
          by_cases ci : i = t
          · rw [ci, upN_s, upN_s, upN_s]
            exact ⟨r7.2.1, r7.2.2.1, r7.2.2.2.1⟩
          · rw [upN_n ci, upN_n ci, upN_n ci, r7.2.2.2.2.2.2 992 i (by omega) ci, r7.2.2.2.2.2.2 993 i (by omega) ci, r7.2.2.2.2.2.2 994 i (by omega) ci]
            exact hT i (by omega)
        obtain ⟨M', t', K', P', N', E', k1, k2, k3, k4, k5, k6, k7⟩ := ih (n - e) (by omega) e f M1 r (y + 1) (t + 1) (u + 1) _ _ _ _ (by omega) (by omega) (r7.xb hb) r7.1 hq1 hT1 r2 ny (by omega)
        exact ⟨M', t', K', P', N', E', k1, k2, k3, k4, k5, frScan ⟨r7.2.2.2.2.1, r7.2.2.2.2.2.1⟩ ⟨k6, k7⟩⟩
/-- all of them, the end too: T tokens, then the end -/
def Tks (B : Nat → Int) (n T : Nat) (K P N E : Nat → Nat) : Prop := E 0 = 0 ∧ T ≤ 300 ∧ T ≤ n ∧ K T = 41 ∧ (∀ i, i ≤ T → Rn blP B n (E i) (P i) ∧ Tok B n (P i) (K i) (N i) (E (i + 1)) ∧ E i ≤ n ∧ P i ≤ n) ∧ ∀ i, i < T → K i ≠ 41
theorem x_scan {M : xm} {B : Nat → Int} {n : Nat} (h : XB M B n) : ∃ M' T K P N E, f_X4_scan M = some M' ∧ XB M' B n ∧ (M' 990 8).toInt = ((T + 1 : Nat) : Int) ∧ Tks B n T K P N E ∧ XT M' (T + 1) K P N ∧ (∀ q, q ≠ 990 → q ≠ 992 → q ≠ 993 → q ≠ 994 → M' q = M q) ∧ ∀ i, i ≠ 8 → M' 990 i = M 990 i := by
  have n3 := h.2.1
  have fr1 : (∀ q, q ≠ 990 → q ≠ 992 → q ≠ 993 → q ≠ 994 → up2 M 990 8 0 q = M q) ∧ ∀ i, i ≠ 8 → up2 M 990 8 0 990 i = M 990 i := ⟨fun q a _ _ _ => up2_cell a, fun i hi => up2_ne (by omega)⟩
  have h1 : XB (up2 M 990 8 0) B n := h.fr (fr1.2 5 (by decide)) (fr1.1 991 (by decide) (by decide) (by decide) (by decide))
  obtain ⟨M2, T, K, P, N, E, k1, k2, k3, k4, k5, k6, k7⟩ := x_scan_loop n 0 xfuel (up2 M 990 8 0) 0 0 0 0 (fun _ => 0) (fun _ => 0) (fun _ => 0) (fun _ => 0) (by omega) (by unfold xfuel; omega) h1 (by rw [up2_same]; rfl) ⟨rfl, Nat.le_refl _, fun m _ _ => by omega, by omega, by omega, fun i _ => Nat.zero_le _, fun i hi => by omega⟩ (fun i hi => by omega) rfl rfl (by omega)
  obtain ⟨q0, q1, q2, q3, q4, q5, q6⟩ := k4
  obtain ⟨M3, m1, m2⟩ := x_addToken (M := M2) (kd := 41) (p := n) (nm := 0) (a1 := 41) (a2 := M2 990 5) (a3 := 0) k3 (by omega) rfl k2.1 rfl
  refine ⟨M3, T, upN K T 41, upN P T n, upN N T 0, upN E (T + 1) n, ?_, m2.xb k2, m2.1, ⟨by rw [upN_n (by omega)]; exact q0, by omega, q3, upN_s _ _ _, fun i hi => ?_, fun i hi => ?_⟩, fun i hi => ?_, (frScan fr1 (frScan ⟨k6, k7⟩ ⟨m2.2.2.2.2.1, m2.2.2.2.2.2.1⟩)).1, (frScan fr1 (frScan ⟨k6, k7⟩ ⟨m2.2.2.2.2.1, m2.2.2.2.2.2.1⟩)).2⟩
  · unfold f_X4_scan
    rw [xlet_eq, k1, xb1_some, m1, xb1_some]
  · rw [upN_n (show i ≠ T + 1 by omega)]
    by_cases ci : i = T
    · rw [ci, upN_s, upN_s, upN_s, upN_s]
      exact ⟨⟨q1, q2, by rw [bt_end]; decide⟩, Or.inl ⟨bt_end, rfl, rfl⟩, q1, Nat.le_refl _⟩
    · have := q6 i (by omega)
      rw [upN_n ci, upN_n ci, upN_n ci, upN_n (show i + 1 ≠ T + 1 by omega)]
      exact ⟨this.1, this.2.1, q5 i hi, by omega⟩
  · rw [upN_n (show i ≠ T by omega)]
    exact (q6 i hi).2.2.1
  · by_cases ci : i = T
    · rw [ci, upN_s, upN_s, upN_s]
      exact ⟨m2.2.1, m2.2.2.1, m2.2.2.2.1⟩
    · rw [upN_n ci, upN_n ci, upN_n ci, m2.2.2.2.2.2.2 992 i (by omega) ci, m2.2.2.2.2.2.2 993 i (by omega) ci, m2.2.2.2.2.2.2 994 i (by omega) ci]
      exact k5 i (by omega)
