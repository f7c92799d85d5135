/-! of two: code -/
theorem YEn.two {pk : Bool} {o v : Nat → Int} {M : xm} {L : xn} {s : hs} {x5 x6 : Int32} {h5 c0 e sub n m k k' : Nat} (hst : YSt o v pk M s x5 x6 h5 c0 e sub n m k k') {k1 k2 : Nat} {f g : fn} (hf : VY pk o v k k1 f) (hg : VY pk o v k1 k2 g) (hk : k2 < k') : ∃ M' L', YGo x5 x6 M L n m k M' L' (n + 1 + 1) m k2 ∧ (L' 7 n).toInt = f s sub ∧ (L' 7 (n + 1)).toInt = g s sub ∧ (∀ i, i < n → L' 7 i = L 7 i) ∧ (∀ i, i < m → M' 8 i = M 8 i) ∧ ∀ q, q ≠ 8 → M' q = M q := by
  have h1 := hf.1
  have h2 := hg.1
  have ⟨a1, a2, a3, a4, a5, a6, a7, a8, a9, a10, a11, a12, a13, a14⟩ := hst
  obtain ⟨M1, L1, r1, r2, r3, r4, r5⟩ := hf.2 M L s x5 x6 h5 c0 e sub n m (hst.sub (Nat.le_refl _) (by omega) (by omega) (by omega) (fun _ _ => rfl))
  obtain ⟨M2, L2, t1, t2, t3, t4, t5⟩ := hg.2 M1 L1 s x5 x6 h5 c0 e sub (n + 1) m (hst.sub (by omega) (by omega) (by omega) (by omega) r5)
  exact ⟨M2, L2, r1.tr t1 (by omega) (by omega), by rw [t3 n (by omega)]; exact r2, t2, fun i hi => (t3 i (by omega)).trans (r3 i hi), fun i hi => (t4 i hi).trans (r4 i hi), fun q hq => (t5 q hq).trans (r5 q hq)⟩
