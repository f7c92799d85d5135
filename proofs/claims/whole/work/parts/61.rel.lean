/-! what holds between both, between calls -/
def HO (s : hs) : Prop := Inv s ∧ s 0 17 ≤ 9999 ∧ RWI s
def TdX (b : Nat) (M : xm) (nt : Nat) (ru : Int) (sd : Nat) (sp sk : Nat → Int) : Prop := (M b 2).toInt = sd ∧ (M b 3).toInt = nt ∧ (M b 4).toInt = ru ∧ ∀ i, i < sd → (M (b + 1) i).toInt = sp i ∧ (M (b + 2) i).toInt = sk i
def TdY (a : Nat → Int32) (nt : Nat) (ru : Int) (sd : Nat) (sp sk : Nat → Int) : Prop := (a 0).toInt = nt ∧ (a 1).toInt = ru ∧ (a 3).toInt = sd ∧ ∀ i, i < sd → (a (322 + 2 * i)).toInt = sp i ∧ (a (322 + 2 * i + 1)).toInt = sk i
def TdO (nt : Nat) (ru : Int) (sd : Nat) (sp sk : Nat → Int) : Prop := nt ≤ 4 ∧ (-1 ≤ ru ∧ ru < nt) ∧ sd ≤ 8 ∧ ∀ i, i < sd → (0 ≤ sp i ∧ sp i < 8) ∧ (0 ≤ sk i ∧ sk i ≤ 1)
/-- one picture of all: heap, steps, what was told -/
def Snp (u b c : Nat) (M : xm) (a : Nat → Int32) (nt : Nat) (s : hs) (St : Nat → hs) (n : Nat) (ru : Int) (sd : Nat) (sp sk : Nat → Int) : Prop := RX u M s ∧ RYr a s ∧ HO s ∧ StX b M St n ∧ StY a St n ∧ (∀ i, i < n → HO (St i)) ∧ TdX c M nt ru sd sp sk ∧ TdY a nt ru sd sp sk ∧ TdO nt ru sd sp sk
def Sna (u b c : Nat) (M : xm) (a : Nat → Int32) (nt : Nat) : Prop := ∃ s St n ru sd sp sk, Snp u b c M a nt s St n ru sd sp sk
def Tap (MX MY : xm) : Prop := ∃ len : Nat, len ≤ 300 ∧ (MX 990 5).toInt = len ∧ (MY 0 4).toInt = len ∧ (∀ i, i < len → MX 991 i = MY 4 i ∧ 0 ≤ (MX 991 i).toInt ∧ (MX 991 i).toInt ≤ 255) ∧ MX 990 6 = MY 0 5 ∧ MX 990 7 = MY 0 6
def PkYt (TY : xm → Prop) (t : Nat) (π : hs → Nat → Bool) : Prop := ∀ (M : xm) (L : xn) (s : hs) (a : Int32) (p : Nat), RY M s → Ok s → La7 s → TY M → a.toInt = (p : Int) → p < 8 → ∃ M' L', f_X10_doesPick M L (nI t) a = some (if π s p = true then 1 else 0, M', L') ∧ ∀ q, q ≠ 6 → q ≠ 8 → M' q = M q
def PcX (TX : xm → Prop) (o : Option Nat) (κ : hs → Nat → Int) : Prop := ∀ (M : xm) (s : hs) (a : Int32) (f : Nat), RX 1 M s → Ok s → TX M → a.toInt = (f : Int) → f ≤ 3 → ∃ v M', f_X3_paceOf o 1 M a = some (v, M') ∧ v.toInt = κ s f ∧ ∀ q, q ≠ 1004 → q ≠ 1005 → M' q = M q
def PcY (TY : xm → Prop) (κ : hs → Nat → Int) : Prop := ∀ (M : xm) (L : xn) (s : hs) (a : Int32) (f : Nat), RY M s → Ok s → La7 s → TY M → a.toInt = (f : Int) → f ≤ 3 → ∃ v M' L', f_X10_pacesOf M L a = some (v, M', L') ∧ v.toInt = κ s f ∧ ∀ q, q ≠ 6 → q ≠ 8 → M' q = M q
def sameX (MX M : xm) : Prop := ∀ q, 1006 ≤ q → M q = MX q
def sameY (MY M : xm) : Prop := M 3 = MY 3
def KRng (κ : hs → Nat → Int) : Prop := ∀ s f, 0 ≤ κ s f ∧ κ s f ≤ 9
/-- a text, as both have it: by all cells of texts (Txo), by those of this text alone (Tx) -/
def Txo (MX MY : xm) (t : Nat) : Prop := ∃ (π : hs → Nat → Bool) (κ : hs → Nat → Int) (c : Nat), PiC π ∧ KRng κ ∧ (∀ u, u + 15 ≤ 1004 → PkX (sameX MX) u (some (1007 + 9 * t)) π) ∧ PkYt (sameY MY) t π ∧ PcX (sameX MX) (some (1007 + 9 * t)) κ ∧ PcY (fun M => sameY MY M ∧ (M 1 1).toInt = (t : Int)) κ ∧ c ≤ 24 ∧ (MX (1007 + 9 * t) 8).toInt = (c : Int) ∧ (MY 3 (705 * t)).toInt = (c : Int) ∧ ∀ k, k < c → MX (1008 + 9 * t) k = MY 3 (705 * t + 1 + 4 * k) ∧ (0 ≤ (MX (1008 + 9 * t) k).toInt ∧ (MX (1008 + 9 * t) k).toInt ≤ 6) ∧ (2 ≤ (MX (1008 + 9 * t) k).toInt → MX (1009 + 9 * t) k = MY 3 (705 * t + 2 + 4 * k)) ∧ (2 ≤ (MX (1008 + 9 * t) k).toInt → (MX (1008 + 9 * t) k).toInt ≤ 4 → MX (1010 + 9 * t) k = MY 3 (705 * t + 3 + 4 * k)) ∧ (3 ≤ (MX (1008 + 9 * t) k).toInt → (MX (1008 + 9 * t) k).toInt ≤ 4 → MX (1011 + 9 * t) k = MY 3 (705 * t + 4 + 4 * k)) ∧ ((MX (1008 + 9 * t) k).toInt = 6 → 1 ≤ (MX (1009 + 9 * t) k).toInt ∧ (MX (1009 + 9 * t) k).toInt ≤ 60)
def sXt (MX : xm) (t : Nat) (M : xm) : Prop := ∀ q, 1007 + 9 * t ≤ q → q < 1016 + 9 * t → M q = MX q
def sYt (MY : xm) (t : Nat) (M : xm) : Prop := ∀ i, 705 * t ≤ i → i < 705 * (t + 1) → M 3 i = MY 3 i
def Tx (MX MY : xm) (t : Nat) : Prop := ∃ (π : hs → Nat → Bool) (κ : hs → Nat → Int) (c : Nat), PiC π ∧ KRng κ ∧ (∀ u, u + 15 ≤ 1004 → PkX (sXt MX t) u (some (1007 + 9 * t)) π) ∧ PkYt (sYt MY t) t π ∧ PcX (sXt MX t) (some (1007 + 9 * t)) κ ∧ PcY (fun M => sYt MY t M ∧ (M 1 1).toInt = (t : Int)) κ ∧ c ≤ 24 ∧ (MX (1007 + 9 * t) 8).toInt = (c : Int) ∧ (MY 3 (705 * t)).toInt = (c : Int) ∧ ∀ k, k < c → MX (1008 + 9 * t) k = MY 3 (705 * t + 1 + 4 * k) ∧ (0 ≤ (MX (1008 + 9 * t) k).toInt ∧ (MX (1008 + 9 * t) k).toInt ≤ 6) ∧ (2 ≤ (MX (1008 + 9 * t) k).toInt → MX (1009 + 9 * t) k = MY 3 (705 * t + 2 + 4 * k)) ∧ (2 ≤ (MX (1008 + 9 * t) k).toInt → (MX (1008 + 9 * t) k).toInt ≤ 4 → MX (1010 + 9 * t) k = MY 3 (705 * t + 3 + 4 * k)) ∧ (3 ≤ (MX (1008 + 9 * t) k).toInt → (MX (1008 + 9 * t) k).toInt ≤ 4 → MX (1011 + 9 * t) k = MY 3 (705 * t + 4 + 4 * k)) ∧ ((MX (1008 + 9 * t) k).toInt = 6 → 1 ≤ (MX (1009 + 9 * t) k).toInt ∧ (MX (1009 + 9 * t) k).toInt ≤ 60)
def Rel (MX MY : xm) (_ : xn) : Prop := ∃ nt nti : Nat, Sna 1 16 483 MX (MY 1) nt ∧ Sna 486 501 968 MX (MY 2) nti ∧ nti ≤ nt ∧ Tap MX MY ∧ ∀ t, t < nt → Tx MX MY t
theorem Tx.fr2 {MX MY MX' MY' : xm} {t : Nat} (h : Tx MX MY t) (hx : ∀ q, 1007 + 9 * t ≤ q → q < 1016 + 9 * t → MX' q = MX q) (hy : ∀ i, 705 * t ≤ i → i < 705 * (t + 1) → MY' 3 i = MY 3 i) : Tx MX' MY' t := by
  obtain ⟨π, κ, c, h1, h2, h3, h4, h5, h6, h7, h8, h9, h10⟩ := h
  have sx : sXt MX' t = sXt MX t := by
    funext M
    exact propext ⟨fun a q h1 h2 => (a q h1 h2).trans (hx q h1 h2), fun a q h1 h2 => (a q h1 h2).trans (hx q h1 h2).symm⟩
  have sy : sYt MY' t = sYt MY t := by
    funext M
    exact propext ⟨fun a q h1 h2 => (a q h1 h2).trans (hy q h1 h2), fun a q h1 h2 => (a q h1 h2).trans (hy q h1 h2).symm⟩
  refine ⟨π, κ, c, h1, h2, by rw [sx]; exact h3, by rw [sy]; exact h4, by rw [sx]; exact h5, by rw [sy]; exact h6, h7, by rw [hx _ (by omega) (by omega)]; exact h8, by rw [hy _ (by omega) (by omega)]; exact h9, fun k hk => ?_⟩
  rw [hy _ (by omega) (by omega), hy _ (by omega) (by omega), hy _ (by omega) (by omega), hy _ (by omega) (by omega), hx _ (by omega) (by omega), hx _ (by omega) (by omega), hx _ (by omega) (by omega), hx _ (by omega) (by omega)]
  exact h10 k hk
theorem Tx.fr {MX MY MX' MY' : xm} {t : Nat} (h : Tx MX MY t) (hx : ∀ q, 1006 ≤ q → MX' q = MX q) (hy : MY' 3 = MY 3) : Tx MX' MY' t := h.fr2 (fun q _ _ => hx q (by omega)) (fun i _ _ => by rw [hy])
theorem Tx.old {MX MY : xm} {t : Nat} (h : Tx MX MY t) : Txo MX MY t := by
  obtain ⟨π, κ, c, h1, h2, h3, h4, h5, h6, h7⟩ := h
  have sx : ∀ M, sameX MX M → sXt MX t M := fun M a q _ _ => a q (by omega)
  have sy : ∀ M, sameY MY M → sYt MY t M := fun M a q _ _ => by rw [show M 3 = MY 3 from a]
  exact ⟨π, κ, c, h1, h2, fun u hu M s a p r o x => h3 u hu M s a p r o (sx M x), fun M L s a p r o l x => h4 M L s a p r o l (sy M x), fun M s a f r o x => h5 M s a f r o (sx M x), fun M L s a f r o l x => h6 M L s a f r o l ⟨sy M x.1, x.2⟩, h7⟩
theorem TdX.fr {b nt sd : Nat} {M M' : xm} {ru : Int} {sp sk : Nat → Int} (h : TdX b M nt ru sd sp sk) (hf : ∀ q, b ≤ q → q < b + 3 → M' q = M q) : TdX b M' nt ru sd sp sk := by
  unfold TdX
  rw [hf b (by omega) (by omega), hf (b + 1) (by omega) (by omega), hf (b + 2) (by omega) (by omega)]
  exact h
theorem Sna.fr {u b c nt : Nat} {M M' : xm} {a : Nat → Int32} (h : Sna u b c M a nt) (h1 : ∀ q, u ≤ q → q < u + 15 → M' q = M q) (h2 : ∀ q, b ≤ q → q < b + 467 → M' q = M q) (h3 : ∀ q, c ≤ q → q < c + 3 → M' q = M q) : Sna u b c M' a nt := by
  obtain ⟨s, St, n, ru, sd, sp, sk, a1, a2, a3, a4, a5, a6, a7, a8, a9⟩ := h
  exact ⟨s, St, n, ru, sd, sp, sk, a1.fr h1, a2, a3, a4.fr h2, a5, a6, a7.fr h3, a8, a9⟩
theorem Tap.fr {MX MY MX' MY' : xm} (h : Tap MX MY) (h1 : MX' 990 = MX 990) (h2 : MX' 991 = MX 991) (h3 : MY' 0 = MY 0) (h4 : MY' 4 = MY 4) : Tap MX' MY' := by
  unfold Tap
  rw [h1, h2, h3, h4]
  exact h
/-- the image and what lies beside, when only the heap, its steps, what was told and work rows change -/
theorem Rel.mk {MX MY MX' MY' : xm} {LY LY' : xn} (h : Rel MX MY LY) (hs : ∀ nt, Sna 1 16 483 MX (MY 1) nt → Sna 1 16 483 MX' (MY' 1) nt) (hx : ∀ q, (486 ≤ q ∧ q < 971) ∨ q = 990 ∨ q = 991 ∨ 1006 ≤ q → MX' q = MX q) (hy : ∀ q, q = 0 ∨ q = 2 ∨ q = 3 ∨ q = 4 → MY' q = MY q) : Rel MX' MY' LY' := by
  obtain ⟨nt, nti, a1, a2, a3, a4, a5⟩ := h
  refine ⟨nt, nti, hs nt a1, ?_, a3, a4.fr (hx 990 (by omega)) (hx 991 (by omega)) (hy 0 (by omega)) (hy 4 (by omega)), fun t ht => (a5 t ht).fr (fun q hq => hx q (by omega)) (hy 3 (by omega))⟩
  rw [hy 2 (by omega)]
  exact a2.fr (fun q _ _ => hx q (by omega)) (fun q _ _ => hx q (by omega)) (fun q _ _ => hx q (by omega))
theorem i_inj {x y : Int32} {z : Int} (hx : x.toInt = z) (hy : y.toInt = z) : x = y := by rw [i_eq, hx, hy]
/-! what is only looked at -/
theorem s_root : sim_root Rel := by
  intro MX MY LY a0 h
  have hr := h
  obtain ⟨nt, nti, ⟨s, St, n, ru, sd, sp, sk, a1, a2, a3, _⟩, _⟩ := h
  unfold f_X9_root f_X10_root
  rw [f_isRoot_eq, yRoot]
  by_cases c : 0 ≤ a0.toInt ∧ a0.toInt ≤ 5
  · obtain ⟨r, hr0⟩ : ∃ r : Nat, a0.toInt = r := ⟨a0.toInt.toNat, by omega⟩
    have e := yx 29 (b := 29) rfl hr0 (by omega)
    rw [if_pos (c := 0 ≤ a0.toInt ∧ a0.toInt < 6) (by omega), if_neg n10, if_pos (i_in hr0 (by omega)), i_ix hr0, if_pos c, if_neg n10, if_pos e.1, e.2]
    exact ⟨_, rfl, by rw [i_inj (a2.r (show r < 6 by omega)) (a1.r (show r < 6 by omega))], hr⟩
  · rw [if_neg (c := 0 ≤ a0.toInt ∧ a0.toInt < 6) (by omega), if_pos rfl, if_neg c, if_pos rfl]
    exact ⟨_, rfl, rfl, hr⟩
theorem s_at : sim_at Rel := by
  intro MX MY LY a0 h
  have hr := h
  obtain ⟨nt, nti, ⟨s, St, n, ru, sd, sp, sk, a1, a2, a3, _⟩, _⟩ := h
  unfold f_X9_at f_X10_at
  rw [f_isAddress_eq, yPlace]
  by_cases c : 0 ≤ a0.toInt ∧ a0.toInt ≤ 63
  · obtain ⟨r, hr0⟩ : ∃ r : Nat, a0.toInt = r := ⟨a0.toInt.toNat, by omega⟩
    have e := yx 41 (b := 41) rfl hr0 (by omega)
    rw [if_pos (c := 0 ≤ a0.toInt ∧ a0.toInt < 64) (by omega), if_neg n10, if_pos (i_in hr0 (by omega)), i_ix hr0, if_pos c, if_neg n10, if_pos e.1, e.2]
    exact ⟨_, rfl, by rw [i_inj (a2.w (show r < 64 by omega)) (a1.w (show r < 64 by omega))], hr⟩
  · rw [if_neg (c := 0 ≤ a0.toInt ∧ a0.toInt < 64) (by omega), if_pos rfl, if_neg c, if_pos rfl]
    exact ⟨_, rfl, rfl, hr⟩
theorem s_forward : sim_forward Rel := by
  intro MX MY LY a0 h
  have hr := h
  obtain ⟨nt, nti, ⟨s, St, n, ru, sd, sp, sk, a1, a2, a3, _⟩, _⟩ := h
  unfold f_X9_forward f_X10_forward
  rw [f_isAddress_eq, yPlace]
  by_cases c : 0 ≤ a0.toInt ∧ a0.toInt ≤ 63
  · obtain ⟨r, hr0⟩ : ∃ r : Nat, a0.toInt = r := ⟨a0.toInt.toNat, by omega⟩
    have e := yx 105 (b := 105) rfl hr0 (by omega)
    rw [if_pos (c := 0 ≤ a0.toInt ∧ a0.toInt < 64) (by omega), if_neg n10, if_pos (i_in hr0 (by omega)), i_ix hr0, if_pos c, if_neg n10, if_pos e.1, e.2]
    exact ⟨_, rfl, by rw [i_inj (a2.f (show r < 64 by omega)) (a1.f (show r < 64 by omega))], hr⟩
  · rw [if_neg (c := 0 ≤ a0.toInt ∧ a0.toInt < 64) (by omega), if_pos rfl, if_neg c, if_pos rfl]
    exact ⟨_, rfl, rfl, hr⟩
theorem s_marked : sim_marked Rel := by
  intro MX MY LY a0 h
  have hr := h
  obtain ⟨nt, nti, ⟨s, St, n, ru, sd, sp, sk, a1, a2, ⟨⟨G, hi⟩, _⟩, _⟩, _⟩ := h
  have l4 := hi.2.1.2.2.2.1
  unfold f_X9_marked f_X10_marked
  rw [f_isAddress_eq]
  by_cases c : 0 ≤ a0.toInt ∧ a0.toInt ≤ 63
  · obtain ⟨r, hr0⟩ : ∃ r : Nat, a0.toInt = r := ⟨a0.toInt.toNat, by omega⟩
    have r64 : r < 64 := by omega
    rw [if_pos (c := 0 ≤ a0.toInt ∧ a0.toInt < 64) (by omega), if_neg n10, if_pos (i_in hr0 (by omega)), i_ix hr0, y_isHead a2 hr0 r64, xb1_some, y_isMarked a2 hr0 r64, xb1_some]
    by_cases c3 : s 3 r = 1
    · rw [if_pos (by rw [i_eq, a1.m r64, c3]; rfl), if_pos (l4 r r64 c3), if_neg n10, if_pos c3, if_neg n10]
      exact ⟨_, rfl, rfl, hr⟩
    · rw [if_neg (by rw [i_eq, a1.m r64]; exact c3), if_neg c3, if_pos rfl]
      refine ⟨_, rfl, ?_, hr⟩
      split <;> rfl
  · rw [if_neg (c := 0 ≤ a0.toInt ∧ a0.toInt < 64) (by omega), if_pos rfl, y_isHead0 c, xb1_some, if_pos rfl]
    exact ⟨_, rfl, rfl, hr⟩
theorem s_fault : sim_fault Rel := by
  intro MX MY LY a0 h
  have hr := h
  obtain ⟨nt, nti, _, _, _, ⟨len, _, _, _, _, f1, f2⟩, _⟩ := h
  unfold f_X9_fault f_X10_fault
  rw [f1, f2]
  exact ⟨_, rfl, rfl, hr⟩
theorem s_is : sim_is Rel := by
  intro MX MY LY a0 h
  have hr := h
  obtain ⟨nt, nti, ⟨s, St, n, ru, sd, sp, sk, a1, a2, a3, _⟩, _⟩ := h
  have e4 := i_inj a1.clock a2.clock
  have e5 := i_inj a1.x a2.x
  have e6 := i_inj a1.phase a2.phase
  have e7 := i_inj a1.good a2.good
  have e8 := i_inj a1.stacked a2.stacked
  have e9 : MX (1 + 9) 0 = MY 1 9 := i_inj (a1.g (show 0 < 2 by omega)) (a2.g (show 0 < 2 by omega))
  have e10 : MX (1 + 9) 1 = MY 1 10 := i_inj (a1.g (show 1 < 2 by omega)) (a2.g (show 1 < 2 by omega))
  unfold f_X9_is f_X10_is
  rw [yIn]
  have z0 : (0 : Int32).toInt = 0 := rfl
  have z6 : (6 : Int32).toInt = 6 := rfl
  rw [z0, z6]
  by_cases c : 0 ≤ a0.toInt ∧ a0.toInt ≤ 6
  · obtain ⟨r, hr0⟩ : ∃ r : Nat, a0.toInt = r := ⟨a0.toInt.toNat, by omega⟩
    have e := yx 4 (b := 4) rfl hr0 (by omega)
    have ha : a0 = nI r := by rw [i_eq, hr0, nI_toInt (by omega)]
    rw [if_pos c, if_neg n10, if_pos e.1, e.2, e4, e5, e6, e7, e8, e9, e10]
    have hc : r = 0 ∨ r = 1 ∨ r = 2 ∨ r = 3 ∨ r = 4 ∨ r = 5 ∨ r = 6 := by omega
    rcases hc with rfl | rfl | rfl | rfl | rfl | rfl | rfl <;> subst ha <;> exact ⟨_, rfl, rfl, hr⟩
  · rw [if_neg c, if_pos rfl]
    refine ⟨-2, ?_, rfl, hr⟩
    simp only [i_eq, Int32.reduceToInt]
    rw [if_neg (by omega), if_neg (by omega), if_neg (by omega), if_neg (by omega), if_neg (by omega), if_neg (by omega), if_neg (by omega)]
    rfl
theorem s_current : sim_current Rel := by
  intro MX MY LY a0 h
  have hr := h
  obtain ⟨nt, nti, ⟨s, St, n, ru, sd, sp, sk, a1, a2, ⟨⟨G, hi⟩, _⟩, _⟩, _⟩ := h
  have o := hi.1
  unfold f_X9_current f_X10_current
  rw [yIn]
  have z0 : (0 : Int32).toInt = 0 := rfl
  have z6 : (191 : Int32).toInt = 191 := rfl
  rw [z0, z6]
  by_cases c : 0 ≤ a0.toInt ∧ a0.toInt ≤ 191
  · obtain ⟨v, v1, v2⟩ := x_leadsTo a1 o rfl c
    obtain ⟨w, w1, w2⟩ := y_whereOf a2 o rfl c
    rw [v1, xb1_some, if_pos c, if_neg n10, w1, xb1_some, i_inj v2 w2]
    exact ⟨_, rfl, rfl, hr⟩
  · rw [x_leadsTo0 c, xb1_some, if_neg c, if_pos rfl]
    exact ⟨_, rfl, rfl, hr⟩
theorem s_about : sim_about Rel := by
  intro MX MY LY a0 h
  have hr := h
  obtain ⟨nt, nti, ⟨s, St, n, ru, sd, sp, sk, a1, a2, a3, a4, a5, a6, a7, a8, a9⟩, _, _, ⟨len, t1, t2, t3, _⟩, _⟩ := h
  have e0 := i_inj a7.2.1 a8.1
  have e1 := i_inj a7.2.2.1 a8.2.1
  have e2 := i_inj a4.2.1 a5.2.1
  have e4 := i_inj a7.1 a8.2.2.1
  have e5 := i_inj t2 t3
  unfold f_X9_about f_X10_about
  rw [x_threadsBegun a1, xb1_some, y_isBegun a2 (a := 0) (w := 0) rfl (by omega), y_isBegun a2 (a := 1) (w := 1) rfl (by omega), xb1_some, yIn, e0, e1, e2, e4, e5]
  simp only [xlet_eq, xb1_some]
  have z0 : (0 : Int32).toInt = 0 := rfl
  have z2 : (2 : Int32).toInt = 2 := rfl
  rw [z0, z2]
  by_cases c3 : a0 = 3
  · subst c3
    rw [if_neg (by decide), if_neg (by decide), if_neg (by decide), if_pos rfl, if_pos rfl]
    by_cases h0 : s 10 0 = -1 <;> by_cases h1 : s 10 1 = -1 <;> simp [h0, h1, hr]
  · rw [if_neg (c := a0 = 3) c3, if_neg (c := a0 = 3) c3]
    by_cases c4 : a0 = 4
    · subst c4; exact ⟨_, rfl, rfl, hr⟩
    · rw [if_neg (c := a0 = 4) c4, if_neg (c := a0 = 4) c4]
      by_cases c5 : a0 = 5
      · subst c5; exact ⟨_, rfl, rfl, hr⟩
      · rw [if_neg (c := a0 = 5) c5, if_neg (c := a0 = 5) c5]
        by_cases c : 0 ≤ a0.toInt ∧ a0.toInt ≤ 2
        · obtain ⟨r, hr0⟩ : ∃ r : Nat, a0.toInt = r := ⟨a0.toInt.toNat, by omega⟩
          have ha : a0 = nI r := by rw [i_eq, hr0, nI_toInt (by omega)]
          rw [if_pos c, if_neg n10, if_pos (i_in hr0 (by omega)), i_ix hr0]
          have hc : r = 0 ∨ r = 1 ∨ r = 2 := by omega
          rcases hc with rfl | rfl | rfl <;> subst ha <;> exact ⟨_, rfl, rfl, hr⟩
        · rw [if_neg c, if_pos rfl]
          refine ⟨-2, ?_, rfl, hr⟩
          simp only [i_eq, Int32.reduceToInt]
          rw [if_neg (by omega), if_neg (by omega), if_neg (by omega)]
