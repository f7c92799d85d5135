/-! the reference's machine: values (long row 7), truths (row 8) -/
/-- names are laid down; pk: for picks -/
def YNm (M : xm) (s : hs) (pk : Bool) (sub : Nat) : Prop := (M 6 0).toInt = s 0 17 ∧ (M 6 1).toInt = s 0 14 ∧ (M 6 2).toInt = ((popc (sFB s) : Nat) : Int) ∧ (M 6 3).toInt = s 0 13 ∧ (pk = true → (M 6 4).toInt = (sub : Int) ∧ (M 6 5).toInt = s 5 sub ∧ (M 6 6).toInt = s 6 sub) ∧ (pk = false → (M 6 7).toInt = (sub : Int))
def YSt (o v : Nat → Int) (pk : Bool) (M : xm) (s : hs) (x5 x6 : Int32) (h5 c0 e sub n m k k' : Nat) : Prop := RY M s ∧ Ok s ∧ La7 s ∧ sub < 8 ∧ YNm M s pk sub ∧ x5.toInt = (h5 : Int) ∧ h5 + 2 < 2820 ∧ x6.toInt = (c0 : Int) ∧ (M 3 (h5 + 2)).toInt = (e : Int) ∧ k' ≤ e ∧ c0 + 2 * e ≤ 2820 ∧ (∀ i, k ≤ i → i < k' → (M 3 (c0 + 2 * i)).toInt = o i ∧ (M 3 (c0 + 2 * i + 1)).toInt = v i) ∧ n + (k' - k) ≤ 330 ∧ m + (k' - k) ≤ 330
def YGo (x5 x6 : Int32) (M : xm) (L : xn) (n m k : Nat) (M' : xm) (L' : xn) (n' m' k' : Nat) : Prop := ∀ (fu : Nat) (x7 x8 x9 : Int32), x7.toInt = (n : Int) → x8.toInt = (m : Int) → x9.toInt = (k : Int) → ∃ y7 y8 y9 : Int32, y7.toInt = (n' : Int) ∧ y8.toInt = (m' : Int) ∧ y9.toInt = (k' : Int) ∧ g_X10_summedUp_38 x5 x6 (fu + (k' - k)) M L x7 x8 x9 = g_X10_summedUp_38 x5 x6 fu M' L' y7 y8 y9
theorem YGo.tr {x5 x6 : Int32} {M M' M'' : xm} {L L' L'' : xn} {n m k n' m' k' n'' m'' k'' : Nat} (h : YGo x5 x6 M L n m k M' L' n' m' k') (h' : YGo x5 x6 M' L' n' m' k' M'' L'' n'' m'' k'') (h1 : k ≤ k') (h2 : k' ≤ k'') : YGo x5 x6 M L n m k M'' L'' n'' m'' k'' := by
  intro fu x7 x8 x9 e7 e8 e9
  obtain ⟨y7, y8, y9, a1, a2, a3, a4⟩ := h (fu + (k'' - k')) x7 x8 x9 e7 e8 e9
  obtain ⟨z7, z8, z9, b1, b2, b3, b4⟩ := h' fu y7 y8 y9 a1 a2 a3
  refine ⟨z7, z8, z9, b1, b2, b3, ?_⟩
  rw [show fu + (k'' - k) = fu + (k'' - k') + (k' - k) by omega, a4, b4]
/-- a value more, or a truth more -/
def YEn (x5 x6 : Int32) (M : xm) (L : xn) (n m k k' : Nat) (z : Int) : Prop := ∃ M' L', YGo x5 x6 M L n m k M' L' (n + 1) m k' ∧ (L' 7 n).toInt = z ∧ (∀ i, i < n → L' 7 i = L 7 i) ∧ (∀ i, i < m → M' 8 i = M 8 i) ∧ ∀ q, q ≠ 8 → M' q = M q
def YEc (x5 x6 : Int32) (M : xm) (L : xn) (n m k k' : Nat) (b : Bool) : Prop := ∃ M' L', YGo x5 x6 M L n m k M' L' n (m + 1) k' ∧ M' 8 m = (if b = true then 1 else 0) ∧ (∀ i, i < n → L' 7 i = L 7 i) ∧ (∀ i, i < m → M' 8 i = M 8 i) ∧ ∀ q, q ≠ 8 → M' q = M q
def VY (pk : Bool) (o v : Nat → Int) (k k' : Nat) (f : fn) : Prop := k < k' ∧ ∀ (M : xm) (L : xn) (s : hs) (x5 x6 : Int32) (h5 c0 e sub n m : Nat), YSt o v pk M s x5 x6 h5 c0 e sub n m k k' → YEn x5 x6 M L n m k k' (f s sub)
def VC (pk : Bool) (o v : Nat → Int) (k k' : Nat) (c : cn) : Prop := k < k' ∧ ∀ (M : xm) (L : xn) (s : hs) (x5 x6 : Int32) (h5 c0 e sub n m : Nat), YSt o v pk M s x5 x6 h5 c0 e sub n m k k' → YEc x5 x6 M L n m k k' (c s sub)
theorem YSt.sub {o v : Nat → Int} {pk : Bool} {M M' : xm} {s : hs} {x5 x6 : Int32} {h5 c0 e sub n m k k' : Nat} (h : YSt o v pk M s x5 x6 h5 c0 e sub n m k k') {l l' n' m' : Nat} (h1 : k ≤ l) (h2 : l' ≤ k') (h3 : n' + (l' - l) ≤ 330) (h4 : m' + (l' - l) ≤ 330) (hf : ∀ q, q ≠ 8 → M' q = M q) : YSt o v pk M' s x5 x6 h5 c0 e sub n' m' l l' := by
  obtain ⟨a1, a2, a3, a4, a5, a6, a7, a8, a9, a10, a11, a12, a13, a14⟩ := h
  refine ⟨by show RYr _ s; rw [hf 1 (by decide)]; exact a1, a2, a3, a4, by unfold YNm; rw [hf 6 (by decide)]; exact a5, a6, a7, a8, by rw [hf 3 (by decide)]; exact a9, by omega, a11, fun i i1 i2 => ?_, h3, h4⟩
  rw [hf 3 (by decide)]
  exact a12 i (by omega) (by omega)
theorem VY.eq {pk : Bool} {o v o' v' : Nat → Int} {k k' : Nat} {f : fn} (h : VY pk o v k k' f) (he : ∀ i, k ≤ i → i < k' → o' i = o i ∧ v' i = v i) : VY pk o' v' k k' f := by
  refine ⟨h.1, fun M L s x5 x6 h5 c0 e sub n m ⟨a1, a2, a3, a4, a5, a6, a7, a8, a9, a10, a11, a12, a13⟩ => h.2 M L s x5 x6 h5 c0 e sub n m ⟨a1, a2, a3, a4, a5, a6, a7, a8, a9, a10, a11, fun i i1 i2 => ?_, a13⟩⟩
  have := a12 i i1 i2
  rw [(he i i1 i2).1, (he i i1 i2).2] at this
  exact this
theorem VC.eq {pk : Bool} {o v o' v' : Nat → Int} {k k' : Nat} {f : cn} (h : VC pk o v k k' f) (he : ∀ i, k ≤ i → i < k' → o' i = o i ∧ v' i = v i) : VC pk o' v' k k' f := by
  refine ⟨h.1, fun M L s x5 x6 h5 c0 e sub n m ⟨a1, a2, a3, a4, a5, a6, a7, a8, a9, a10, a11, a12, a13⟩ => h.2 M L s x5 x6 h5 c0 e sub n m ⟨a1, a2, a3, a4, a5, a6, a7, a8, a9, a10, a11, fun i i1 i2 => ?_, a13⟩⟩
  have := a12 i i1 i2
  rw [(he i i1 i2).1, (he i i1 i2).2] at this
  exact this
/-- one instruction -/
theorem YGo.one {o v : Nat → Int} {pk : Bool} {M : xm} {s : hs} {x5 x6 : Int32} {h5 c0 e sub n m k k' : Nat} (h : YSt o v pk M s x5 x6 h5 c0 e sub n m k k') (hk : k < k') {L : xn} {M' : xm} {L' : xn} {n' m' : Nat} (hs : ∀ (fu : Nat) (x7 x8 x9 v17 v19 : Int32), x7.toInt = (n : Int) → x8.toInt = (m : Int) → v17.toInt = o k → v19.toInt = v k → ∃ y7 y8 : Int32, y7.toInt = (n' : Int) ∧ y8.toInt = (m' : Int) ∧ (if (1 : Int32) < v17 then (if v17 = (3 : Int32) then xlet (x7 + (-1 : Int32)) (fun v60 => xlet (x8 + (-1 : Int32)) (fun v61 => if xin v61 330 = true then (if (M 8 (Int32.toNatClampNeg v61)) = 0 then if xin v60 330 = true then if xin (v60 - (1 : Int32)) 330 = true then xlet (up2 L 7 (Int32.toNatClampNeg (v60 - (1 : Int32))) (L 7 (Int32.toNatClampNeg v60))) (fun L67 => xlet (x9 + (1 : Int32)) (fun v68 => g_X10_summedUp_38 x5 x6 fu M L67 v60 v61 v68)) else none else none else xlet (x9 + (1 : Int32)) (fun v64 => g_X10_summedUp_38 x5 x6 fu M L v60 v61 v64)) else none)) else (if (5 : Int32) < v17 then (if (10 : Int32) ≤ v17 then (if (20 : Int32) ≤ v17 then (if v17 = (20 : Int32) then if xin (x8 - (1 : Int32)) 330 = true then (if (M 8 (Int32.toNatClampNeg (x8 - (1 : Int32)))) = 0 then xlet (up2 M 8 (Int32.toNatClampNeg (x8 - (1 : Int32))) (1 : Int32)) (fun M36 => xlet (x9 + (1 : Int32)) (fun v37 => g_X10_summedUp_38 x5 x6 fu M36 L x7 x8 v37)) else xlet (up2 M 8 (Int32.toNatClampNeg (x8 - (1 : Int32))) (0 : Int32)) (fun M34 => xlet (x9 + (1 : Int32)) (fun v35 => g_X10_summedUp_38 x5 x6 fu M34 L x7 x8 v35))) else none else xlet (x8 + (-1 : Int32)) (fun v26 => if xin (v26 - (1 : Int32)) 330 = true then if xin v26 330 = true then xlet (up2 M 8 (Int32.toNatClampNeg (v26 - (1 : Int32))) (f_X10_joined v17 (M 8 (Int32.toNatClampNeg (v26 - (1 : Int32)))) (M 8 (Int32.toNatClampNeg v26)))) (fun M30 => xlet (x9 + (1 : Int32)) (fun v31 => g_X10_summedUp_38 x5 x6 fu M30 L x7 v26 v31)) else none else none)) else xlet (x7 + (-2 : Int32)) (fun v38 => if xin v38 330 = true then if xin (v38 + (1 : Int32)) 330 = true then if xin x8 330 = true then xlet (up2 M 8 (Int32.toNatClampNeg x8) (f_X10_isAsked v17 (L 7 (Int32.toNatClampNeg v38)) (L 7 (Int32.toNatClampNeg (v38 + (1 : Int32)))))) (fun M43 => xlet (x8 + (1 : Int32)) (fun v44 => xlet (x9 + (1 : Int32)) (fun v45 => g_X10_summedUp_38 x5 x6 fu M43 L v38 v44 v45))) else none else none else none)) else xlet (x7 + (-1 : Int32)) (fun v46 => if xin (v46 - (1 : Int32)) 330 = true then if xin v46 330 = true then xb1 (f_X10_two v17 (L 7 (Int32.toNatClampNeg (v46 - (1 : Int32)))) (L 7 (Int32.toNatClampNeg v46))) (fun v50 => xlet (up2 L 7 (Int32.toNatClampNeg (v46 - (1 : Int32))) v50) (fun L52 => xlet (x9 + (1 : Int32)) (fun v53 => g_X10_summedUp_38 x5 x6 fu M L52 v46 x8 v53))) else none else none)) else if xin (x7 - (1 : Int32)) 330 = true then xb1 (f_X10_ofOne M v17 (L 7 (Int32.toNatClampNeg (x7 - (1 : Int32))))) (fun v56 => xlet (up2 L 7 (Int32.toNatClampNeg (x7 - (1 : Int32))) v56) (fun L58 => xlet (x9 + (1 : Int32)) (fun v59 => g_X10_summedUp_38 x5 x6 fu M L58 x7 x8 v59))) else none)) else (if v17 = 0 then if xin x7 330 = true then xlet (up2 L 7 (Int32.toNatClampNeg x7) (v19.toInt64)) (fun L76 => xlet (x7 + (1 : Int32)) (fun v77 => xlet (x9 + (1 : Int32)) (fun v78 => g_X10_summedUp_38 x5 x6 fu M L76 v77 x8 v78))) else none else if xin v19 8 = true then if xin x7 330 = true then xlet (up2 L 7 (Int32.toNatClampNeg x7) ((M 6 (Int32.toNatClampNeg v19)).toInt64)) (fun L72 => xlet (x7 + (1 : Int32)) (fun v73 => xlet (x9 + (1 : Int32)) (fun v74 => g_X10_summedUp_38 x5 x6 fu M L72 v73 x8 v74))) else none else none)) = g_X10_summedUp_38 x5 x6 fu M' L' y7 y8 (x9 + 1)) : YGo x5 x6 M L n m k M' L' n' m' (k + 1) := by
  obtain ⟨a1, a2, a3, a4, a5, a6, a7, a8, a9, a10, a11, a12, a13, a14⟩ := h
  intro fu x7 x8 x9 e7 e8 e9
  obtain ⟨b1, b2⟩ := a12 k (Nat.le_refl _) hk
  obtain ⟨y7, y8, c1, c2, c3⟩ := hs fu x7 x8 x9 _ _ e7 e8 b1 b2
  refine ⟨y7, y8, x9 + 1, c1, c2, by rw [i_add e9 (b := 1) rfl (by omega) (by omega)]; omega, ?_⟩
  have p2 : (x5 + 2).toInt = ((h5 + 2 : Nat) : Int) := k_add a6 (y := 2) (b := 2) rfl (by omega)
  have p9 : ((2 : Int32) * x9).toInt = ((2 * k : Nat) : Int) := k_mul2 e9 2 2 rfl (by omega) (by omega)
  have p6 : (x6 + (2 : Int32) * x9).toInt = ((c0 + 2 * k : Nat) : Int) := k_add a8 p9 (by omega)
  have p7 : (x6 + (2 : Int32) * x9 + 1).toInt = ((c0 + 2 * k + 1 : Nat) : Int) := k_add p6 (y := 1) (b := 1) rfl (by omega)
  rw [show fu + (k + 1 - k) = fu + 1 by omega, g_X10_summedUp_38, if_pos (i_in p2 a7), i_ix p2, if_neg (by rw [i_le, a9, e9]; omega), if_pos (i_in p6 (by omega)), i_ix p6, xlet_eq, if_pos (i_in p7 (by omega)), i_ix p7, xlet_eq]
  exact c3
theorem m1_sub {x : Int32} {n : Nat} (h : x.toInt = ((n + 1 : Nat) : Int)) (hn : n < 1000) : (x - 1).toInt = (n : Int) ∧ (x + (-1)).toInt = (n : Int) := by
  constructor
  · rw [i_sub h (b := 1) rfl (by omega) (by omega)]; omega
  · rw [i_add h (b := -1) rfl (by omega) (by omega)]; omega
theorem VY_num {pk : Bool} {o v : Nat → Int} {k : Nat} {z : Int} (ho : o k = 0) (hv : v k = z) : VY pk o v k (k + 1) (fun _ _ => z) := by
  refine ⟨by omega, fun M L s x5 x6 h5 c0 e sub n m hst => ?_⟩
  have ⟨a1, a2, a3, a4, a5, a6, a7, a8, a9, a10, a11, a12, a13, a14⟩ := hst
  obtain ⟨b1, b2⟩ := a12 k (Nat.le_refl _) (by omega)
  rw [hv] at b2
  refine ⟨M, up2 L 7 n ((M 3 (c0 + 2 * k + 1)).toInt64), YGo.one hst (by omega) (fun fu x7 x8 x9 v17 v19 e7 e8 e17 e19 => ⟨x7 + 1, x8, k_add e7 (y := 1) (b := 1) rfl (by omega), e8, ?_⟩), by rw [up2_same]; exact j_32 b2, fun i hi => up2_ne (by omega), fun _ _ => rfl, fun _ _ => rfl⟩
  rw [ho] at e17
  rw [hv] at e19
  rw [if_neg (c := (1 : Int32) < v17) (by rw [i_lt, e17]; decide), if_pos (o_is e17 0 rfl), if_pos (i_in e7 (by omega)), xlet_eq, xlet_eq, xlet_eq, i_ix e7, show v19 = M 3 (c0 + 2 * k + 1) from i_inj e19 b2]
theorem VY_name {pk : Bool} {o v : Nat → Int} {k j : Nat} (ho : o k = 1) (hv : v k = (j : Int)) (hj : j < 8) (hp : j < 4 ∨ (j < 7 ∧ pk = true) ∨ (j = 7 ∧ pk = false)) : VY pk o v k (k + 1) (mName (19 + j)) := by
  refine ⟨by omega, fun M L s x5 x6 h5 c0 e sub n m hst => ?_⟩
  have ⟨a1, a2, a3, a4, ⟨n1, n2, n3, n4, n5, n6⟩, a6, a7, a8, a9, a10, a11, a12, a13, a14⟩ := hst
  have val : (M 6 j).toInt = mName (19 + j) s sub := by
    have hjj : j = 0 ∨ j = 1 ∨ j = 2 ∨ j = 3 ∨ (j = 4 ∧ pk = true) ∨ (j = 5 ∧ pk = true) ∨ (j = 6 ∧ pk = true) ∨ (j = 7 ∧ pk = false) := by
      rcases hp with q | ⟨q, r⟩ | ⟨q, r⟩
      · omega
      · rw [r]; simp; omega
      · rw [r]; simp; omega
    rcases hjj with rfl | rfl | rfl | rfl | ⟨rfl, r⟩ | ⟨rfl, r⟩ | ⟨rfl, r⟩ | ⟨rfl, r⟩
    · exact n1
    · exact n2
    · exact n3
    · exact n4
    · exact (n5 r).1
    · exact (n5 r).2.1
    · exact (n5 r).2.2
    · exact n6 r
  refine ⟨M, up2 L 7 n ((M 6 j).toInt64), YGo.one hst (by omega) (fun fu x7 x8 x9 v17 v19 e7 e8 e17 e19 => ⟨x7 + 1, x8, k_add e7 (y := 1) (b := 1) rfl (by omega), e8, ?_⟩), by rw [up2_same]; exact j_32 val, fun i hi => up2_ne (by omega), fun _ _ => rfl, fun _ _ => rfl⟩
  rw [ho] at e17
  rw [hv] at e19
  rw [if_neg (c := (1 : Int32) < v17) (by rw [i_lt, e17]; decide), if_neg (o_lit e17 0 (by decide)), if_pos (i_in e19 hj), if_pos (i_in e7 (by omega)), xlet_eq, xlet_eq, xlet_eq, i_ix e7, i_ix e19]
