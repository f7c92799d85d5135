/-! which texts agree with what was said -/
def agO (π : hs → Nat → Bool) (s : hs) (sp sk : Nat → Int) (j : Nat) : Prop := sk j = 1 ↔ π s (sp j).toNat = true
theorem agO.step {π : hs → Nat → Bool} {s : hs} {sp sk : Nat → Int} {i sd : Nat} (h : agO π s sp sk i) : (∀ j, i ≤ j → j < sd → agO π s sp sk j) ↔ ∀ j, i + 1 ≤ j → j < sd → agO π s sp sk j :=
  ⟨fun a j j1 j2 => a j (by omega) j2, fun a j j1 j2 => by
    by_cases c : j = i
    · rw [c]; exact h
    · exact a j (by omega) j2⟩
theorem ag_x {MX : xm} {s : hs} {π : hs → Nat → Bool} {o : Nat} (pk : PkX (sameX MX) 1 (some o) π) (ok : Ok s) {nt sd : Nat} {ru : Int} {sp sk : Nat → Int} (td : TdO nt ru sd sp sk) : ∀ (d i f : Nat) (M : xm) (x : Int32), i + d = sd → d < f → x.toInt = (i : Int) → RX 1 M s → TdX 483 M nt ru sd sp sk → sameX MX M → ∃ M', (∀ q, q ≠ 1004 → q ≠ 1005 → M' q = M q) ∧ (((∀ j, i ≤ j → j < sd → agO π s sp sk j) ∧ g_X9_agreesWithSaid_2 o f M x = some (Sum.inr M')) ∨ ((¬ ∀ j, i ≤ j → j < sd → agO π s sp sk j) ∧ g_X9_agreesWithSaid_2 o f M x = some (Sum.inl M'))) := by
  intro d
  induction d with
  | zero =>
    intro i f M x hi hf hx h ht hs
    obtain ⟨f, rfl⟩ : ∃ q, f = q + 1 := ⟨f - 1, by omega⟩
    refine ⟨M, fun _ _ _ => rfl, Or.inl ⟨fun j j1 j2 => by omega, ?_⟩⟩
    unfold g_X9_agreesWithSaid_2
    by_cases c : 8 ≤ i
    · rw [if_pos (by rw [i_le, hx]; simp only [Int32.reduceToInt]; omega)]
    · rw [if_neg (by rw [i_le, hx]; simp only [Int32.reduceToInt]; omega), if_pos (by rw [i_le, hx, ht.1]; omega)]
  | succ d ih =>
    intro i f M x hi hf hx h ht hs
    obtain ⟨f, rfl⟩ : ∃ q, f = q + 1 := ⟨f - 1, by omega⟩
    have s8 := td.2.2.1
    have t1 := td.2.2.2 i (by omega)
    have ti := ht.2.2.2 i (by omega)
    obtain ⟨p, hp⟩ : ∃ p : Nat, sp i = p := ⟨(sp i).toNat, by omega⟩
    obtain ⟨M1, k1, k2⟩ := pk M s (M (483 + 1) i) p h ok hs (by rw [ti.1, hp]) (by omega)
    have h1 : RX 1 M1 s := h.fr (fun q _ _ => k2 q (by omega) (by omega))
    have ht1 : TdX 483 M1 nt ru sd sp sk := ht.fr (fun q _ _ => k2 q (by omega) (by omega))
    have hs1 : sameX MX M1 := fun q hq => (k2 q (by omega) (by omega)).trans (hs q hq)
    have ti1 := (ht1.2.2.2 i (by omega)).2
    obtain ⟨M', e1, e2⟩ := ih (i + 1) f M1 (x + 1) (by omega) (by omega) (by rw [i_add hx (b := 1) rfl (by omega) (by omega)]; omega) h1 ht1 hs1
    unfold g_X9_agreesWithSaid_2
    rw [if_neg (by rw [i_le, hx]; simp only [Int32.reduceToInt]; omega), if_neg (by rw [i_le, hx, ht.1]; omega), if_pos (i_in hx (by omega)), i_ix hx, k1, xb2_some]
    have pn : (sp i).toNat = p := by omega
    have fr : ∀ q, q ≠ 1004 → q ≠ 1005 → M' q = M q := fun q q1 q2 => (e1 q q1 q2).trans (k2 q q1 q2)
    by_cases cp : π s p = true
    · rw [if_pos cp]
      by_cases ck : sk i = 1
      · have ag : agO π s sp sk i := by unfold agO; rw [pn]; exact ⟨fun _ => cp, fun _ => ck⟩
        rw [if_pos (by rw [i_eq, ti1, ck]; rfl), if_pos rfl, xlet_eq, ag.step]
        exact ⟨M', fr, e2⟩
      · have ag : ¬ agO π s sp sk i := by unfold agO; rw [pn]; exact fun e => ck (e.2 cp)
        rw [if_neg (by rw [i_eq, ti1]; exact ck), if_neg (by decide)]
        exact ⟨M1, k2, Or.inr ⟨fun e => ag (e i (by omega) (by omega)), rfl⟩⟩
    · rw [if_neg cp]
      by_cases ck : sk i = 1
      · have ag : ¬ agO π s sp sk i := by unfold agO; rw [pn]; exact fun e => cp (e.1 ck)
        rw [if_pos (by rw [i_eq, ti1, ck]; rfl), if_neg (by decide)]
        exact ⟨M1, k2, Or.inr ⟨fun e => ag (e i (by omega) (by omega)), rfl⟩⟩
      · have ag : agO π s sp sk i := by unfold agO; rw [pn]; exact ⟨fun e => absurd e ck, fun e => absurd e cp⟩
        rw [if_neg (by rw [i_eq, ti1]; exact ck), if_pos rfl, xlet_eq, ag.step]
        exact ⟨M', fr, e2⟩
theorem ag_y {MY : xm} {s : hs} {π : hs → Nat → Bool} {t : Nat} (pk : PkYt (sameY MY) t π) (ok : Ok s) (l7 : La7 s) {nt sd : Nat} {ru : Int} {sp sk : Nat → Int} (td : TdO nt ru sd sp sk) (x9 : Int32) : ∀ (d i f : Nat) (M : xm) (L : xn) (x v : Int32), i + d = sd → d < f → x.toInt = 322 + 2 * (i : Int) → v = 0 ∨ v = 1 → RY M s → TdY (M 1) nt ru sd sp sk → sameY MY M → ∃ r M' L', (∀ q, q ≠ 6 → q ≠ 8 → M' q = M q) ∧ g_X10_whose_21 x9 (nI t) f M L v x = some (r, M', L') ∧ ((v = 1 ∧ (∀ j, i ≤ j → j < sd → agO π s sp sk j)) ∧ r = 1 ∨ (¬ (v = 1 ∧ (∀ j, i ≤ j → j < sd → agO π s sp sk j))) ∧ r = 0) := by
  intro d
  induction d with
  | zero =>
    intro i f M L x v hi hf hx hv h ht hs
    obtain ⟨f, rfl⟩ : ∃ q, f = q + 1 := ⟨f - 1, by omega⟩
    have s8 := td.2.2.1
    have w : ((322 : Int32) + ((2 : Int32) * (M 1 3))).toInt = 322 + 2 * (sd : Int) := i_add (a := 322) rfl (i_mul (a := 2) rfl ht.2.2.1 (by omega) (by omega)) (by omega) (by omega)
    refine ⟨v, M, L, fun _ _ _ => rfl, ?_, ?_⟩
    · unfold g_X10_whose_21
      rw [if_pos (by rw [i_le, w, hx]; omega)]
    · rcases hv with hv | hv
      · exact Or.inr ⟨fun e => by rw [hv] at e; exact absurd e.1 (by decide), hv⟩
      · exact Or.inl ⟨⟨hv, fun j j1 j2 => by omega⟩, hv⟩
  | succ d ih =>
    intro i f M L x v hi hf hx hv h ht hs
    obtain ⟨f, rfl⟩ : ∃ q, f = q + 1 := ⟨f - 1, by omega⟩
    have s8 := td.2.2.1
    have t1 := td.2.2.2 i (by omega)
    have ti := ht.2.2.2 i (by omega)
    have w : ((322 : Int32) + ((2 : Int32) * (M 1 3))).toInt = 322 + 2 * (sd : Int) := i_add (a := 322) rfl (i_mul (a := 2) rfl ht.2.2.1 (by omega) (by omega)) (by omega) (by omega)
    have hx2 : (x + 2).toInt = 322 + 2 * ((i + 1 : Nat) : Int) := by rw [i_add hx (b := 2) rfl (by omega) (by omega)]; omega
    have hx0 : x.toInt = ((322 + 2 * i : Nat) : Int) := by omega
    have hx1 : (x + 1).toInt = ((322 + 2 * i + 1 : Nat) : Int) := by rw [i_add hx (b := 1) rfl (by omega) (by omega)]; omega
    unfold g_X10_whose_21
    rw [if_neg (by rw [i_le, w, hx]; omega)]
    rcases hv with hv | hv
    · obtain ⟨r, M', L', e1, e2, e3⟩ := ih (i + 1) f M L (x + 2) 0 (by omega) (by omega) hx2 (Or.inl rfl) h ht hs
      rw [if_pos hv, xlet_eq, e2]
      refine ⟨r, M', L', e1, rfl, Or.inr ⟨fun e => by rw [hv] at e; exact absurd e.1 (by decide), ?_⟩⟩
      rcases e3 with e3 | e3
      · exact absurd e3.1.1 (by decide)
      · exact e3.2
    · obtain ⟨p, hp⟩ : ∃ p : Nat, sp i = p := ⟨(sp i).toNat, by omega⟩
      obtain ⟨M1, L1, k1, k2⟩ := pk M L s (M 1 (322 + 2 * i)) p h ok l7 hs (by rw [ti.1, hp]) (by omega)
      have q1 : M1 1 = M 1 := k2 1 (by decide) (by decide)
      have h1 : RY M1 s := by unfold RY; rw [q1]; exact h
      have ht1 : TdY (M1 1) nt ru sd sp sk := by rw [q1]; exact ht
      have hs1 : sameY MY M1 := (k2 3 (by decide) (by decide)).trans hs
      have ti1 := (ht1.2.2.2 i (by omega)).2
      have pn : (sp i).toNat = p := by omega
      rw [if_neg (by rw [hv]; decide), if_pos (i_in hx0 (by omega)), i_ix hx0, k1, xb3_some, if_pos (i_in hx1 (by omega)), i_ix hx1]
      have go : ∀ w : Int32, (w = 0 ∨ w = 1) → (w = 1 ↔ agO π s sp sk i) → ∃ r M' L', (∀ q, q ≠ 6 → q ≠ 8 → M' q = M q) ∧ g_X10_whose_21 x9 (nI t) f M1 L1 w (x + 2) = some (r, M', L') ∧ ((v = 1 ∧ (∀ j, i ≤ j → j < sd → agO π s sp sk j)) ∧ r = 1 ∨ (¬ (v = 1 ∧ (∀ j, i ≤ j → j < sd → agO π s sp sk j))) ∧ r = 0) := by
        intro w hw hw1
        obtain ⟨r, M', L', e1, e2, e3⟩ := ih (i + 1) f M1 L1 (x + 2) w (by omega) (by omega) hx2 hw h1 ht1 hs1
        refine ⟨r, M', L', fun q a b => (e1 q a b).trans (k2 q a b), e2, ?_⟩
        rcases e3 with e3 | e3
        · exact Or.inl ⟨⟨hv, (hw1.1 e3.1.1).step.2 e3.1.2⟩, e3.2⟩
        · exact Or.inr ⟨fun e => e3.1 ⟨hw1.2 (e.2 i (by omega) (by omega)), (e.2 i (by omega) (by omega)).step.1 e.2⟩, e3.2⟩
      by_cases cp : π s p = true
      · rw [if_pos cp]
        by_cases ck : sk i = 1
        · have ag : agO π s sp sk i := by unfold agO; rw [pn]; exact ⟨fun _ => cp, fun _ => ck⟩
          rw [if_pos (by rw [i_eq, ti1, ck]; rfl), if_pos rfl, xlet_eq]
          exact go 1 (Or.inr rfl) ⟨fun _ => ag, fun _ => rfl⟩
        · have ag : ¬ agO π s sp sk i := by unfold agO; rw [pn]; exact fun e => ck (e.2 cp)
          rw [if_neg (by rw [i_eq, ti1]; exact ck), if_neg (by decide), xlet_eq]
          exact go 0 (Or.inl rfl) ⟨fun e => absurd e (by decide), fun e => absurd e ag⟩
      · rw [if_neg cp]
        by_cases ck : sk i = 1
        · have ag : ¬ agO π s sp sk i := by unfold agO; rw [pn]; exact fun e => cp (e.1 ck)
          rw [if_pos (by rw [i_eq, ti1, ck]; rfl), if_neg (by decide), xlet_eq]
          exact go 0 (Or.inl rfl) ⟨fun e => absurd e (by decide), fun e => absurd e ag⟩
        · have ag : agO π s sp sk i := by unfold agO; rw [pn]; exact ⟨fun e => absurd e ck, fun e => absurd e cp⟩
          rw [if_neg (by rw [i_eq, ti1]; exact ck), if_pos rfl, xlet_eq]
          exact go 1 (Or.inr rfl) ⟨fun _ => ag, fun _ => rfl⟩
theorem whose_loop {MX MY : xm} {s : hs} (ok : Ok s) (l7 : La7 s) {nt sd : Nat} {ru : Int} {sp sk : Nat → Int} (td : TdO nt ru sd sp sk) (h1 : RX 1 MX s) (h2 : RY MY s) (t1 : TdX 483 MX nt ru sd sp sk) (t2 : TdY (MY 1) nt ru sd sp sk) (lw : ∀ t, t < nt → Tx MX MY t) : ∀ (d t f g b : Nat) (M N : xm) (L : xn), t + d = nt → d < f → d < g → b < 256 → (∀ q, q ≠ 1004 → q ≠ 1005 → M q = MX q) → (∀ q, q ≠ 6 → q ≠ 8 → N q = MY q) → ∃ r M' N' L', g_X9_whose_4 f M (nI b) (nI t) = some (r, M') ∧ g_X10_whose_4 g N L (nI b) (nI t) = some (r, N', L') ∧ (∀ q, q ≠ 1004 → q ≠ 1005 → M' q = MX q) ∧ (∀ q, q ≠ 6 → q ≠ 8 → N' q = MY q) := by
  intro d
  induction d with
  | zero =>
    intro t f g b M N L ht hf hg hb fx fy
    obtain ⟨f, rfl⟩ : ∃ q, f = q + 1 := ⟨f - 1, by omega⟩
    obtain ⟨g, rfl⟩ : ∃ q, g = q + 1 := ⟨g - 1, by omega⟩
    have n4 := td.1
    have e1 : M 483 3 = MX 483 3 := by rw [fx 483 (by decide) (by decide)]
    have e2 : N 1 0 = MY 1 0 := by rw [fy 1 (by decide) (by decide)]
    have w1 : (MX 483 3).toInt = nt := t1.2.1
    have w2 : (MY 1 0).toInt = nt := t2.1
    have ti : (nI t).toInt = t := nI_toInt (by omega)
    refine ⟨nI b, M, N, L, ?_, ?_, fx, fy⟩
    · unfold g_X9_whose_4
      by_cases c : 4 ≤ t
      · rw [if_pos (by rw [i_le, ti]; simp only [Int32.reduceToInt]; omega)]
      · rw [if_neg (by rw [i_le, ti]; simp only [Int32.reduceToInt]; omega), if_pos (by rw [e1, i_le, ti, w1]; omega)]
    · unfold g_X10_whose_4
      rw [if_pos (by rw [e2, i_le, ti, w2]; omega)]
  | succ d ih =>
    intro t f g b M N L ht hf hg hb fx fy
    obtain ⟨f, rfl⟩ : ∃ q, f = q + 1 := ⟨f - 1, by omega⟩
    obtain ⟨g, rfl⟩ : ∃ q, g = q + 1 := ⟨g - 1, by omega⟩
    have n4 := td.1
    have s8 := td.2.2.1
    have e1 : M 483 3 = MX 483 3 := by rw [fx 483 (by decide) (by decide)]
    have e2 : N 1 0 = MY 1 0 := by rw [fy 1 (by decide) (by decide)]
    have w1 : (MX 483 3).toInt = nt := t1.2.1
    have w2 : (MY 1 0).toInt = nt := t2.1
    have ti : (nI t).toInt = t := nI_toInt (by omega)
    obtain ⟨π, κ, c, p1, p2, p3, p4, _⟩ := (lw t (by omega)).old
    have n1 : N 1 = MY 1 := fy 1 (by decide) (by decide)
    obtain ⟨M1, a1, a2⟩ := ag_x (p3 1 (by omega)) ok td sd 0 xfuel M 0 (by omega) (by have : xfuel = 100000 := rfl; omega) rfl (h1.fr (fun q _ _ => fx q (by omega) (by omega))) (t1.fr (fun q _ _ => fx q (by omega) (by omega))) (fun q hq => fx q (by omega) (by omega))
    obtain ⟨r, N1, L1, b1, b2, b3⟩ := ag_y p4 ok l7 td (nI b) sd 0 xfuel N L 322 1 (by omega) (by have : xfuel = 100000 := rfl; omega) rfl (Or.inr rfl) (by unfold RY; rw [n1]; exact h2) (by rw [n1]; exact t2) (fy 3 (by decide) (by decide))
    have fx1 : ∀ q, q ≠ 1004 → q ≠ 1005 → M1 q = MX q := fun q u v => (a1 q u v).trans (fx q u v)
    have fy1 : ∀ q, q ≠ 6 → q ≠ 8 → N1 q = MY q := fun q u v => (b1 q u v).trans (fy q u v)
    have nx : nI t + 1 = nI (t + 1) := by rw [i_eq, i_add ti (b := 1) rfl (by omega) (by omega), nI_toInt (by omega)]; omega
    have os : 1006 + (1 + 9 * t) = 1007 + 9 * t := by omega
    unfold g_X9_whose_4 g_X10_whose_4
    rw [if_neg (by rw [i_le, ti]; simp only [Int32.reduceToInt]; omega), if_neg (by rw [e1, i_le, ti, w1]; omega), if_pos (i_in ti (by omega)), i_ix ti, if_neg (by rw [e2, i_le, ti, w2]; omega), b2, xb3_some, os]
    unfold f_X9_agreesWithSaid
    rcases a2 with ⟨a2, a3⟩ | ⟨a2, a3⟩
    · obtain ⟨r', M', N', L', i1, i2, i3, i4⟩ := ih (t + 1) f g (b ||| 2 ^ t) M1 N1 L1 (by omega) (by omega) (by omega) (bit_lt b hb t (by omega)) fx1 fy1
      have hr : r = 1 := by
        rcases b3 with b3 | b3
        · exact b3.2
        · exact absurd ⟨rfl, a2⟩ b3.1
      rw [a3, xs2_r, xb2_some, if_neg n10, hr, if_neg n10, xlet_eq, xlet_eq, xlet_eq, xlet_eq, bit_or b hb t (by omega), nx]
      exact ⟨r', M', N', L', i1, i2, i3, i4⟩
    · obtain ⟨r', M', N', L', i1, i2, i3, i4⟩ := ih (t + 1) f g b M1 N1 L1 (by omega) (by omega) (by omega) hb fx1 fy1
      have hr : r = 0 := by
        rcases b3 with b3 | b3
        · exact absurd b3.1.2 a2
        · exact b3.2
      rw [a3, xs2_l, xb2_some, if_pos rfl, hr, if_pos rfl, xlet_eq, xlet_eq, xlet_eq, bit_or0 b hb, nx]
      exact ⟨r', M', N', L', i1, i2, i3, i4⟩
theorem s_whose : sim_whose Rel := by
  intro MX MY LY h
  have hr := h
  obtain ⟨nt, nti, ⟨s, St, n, ru, sd, sp, sk, hs⟩, _, _, _, lw⟩ := h
  have ⟨a1, a2, ⟨⟨G, hi⟩, hc, hrw⟩, a4, a5, a6, a7, a8, a9⟩ := hs
  have n4 := a9.1
  obtain ⟨r, M', N', L', i1, i2, i3, i4⟩ := whose_loop hi.1 hi.2.1.2.2.2.2.2.2 a9 a1 a2 a7 a8 lw nt 0 xfuel xfuel 0 MX MY LY (by omega) (by have : xfuel = 100000 := rfl; omega) (by have : xfuel = 100000 := rfl; omega) (by decide) (fun _ _ _ => rfl) (fun _ _ _ => rfl)
  have i1 : g_X9_whose_4 xfuel MX 0 0 = some (r, M') := i1
  have i2 : g_X10_whose_4 xfuel MY LY 0 0 = some (r, N', L') := i2
  unfold f_X9_whose f_X10_whose
  rw [i1, i2, xb2_some, xb3_some]
  exact ⟨r, M', N', L', rfl, rfl, hr.law i3 i4⟩
