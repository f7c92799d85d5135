/-! what is given out, as one step -/
def sAl (s : hs) (u n : Nat) (c : Nat → Int) (mk : Bool) : hs := fun k i =>
  if k = 1 then (if sAt s u n ≤ i ∧ i < sAt s u n + n then c (i - sAt s u n) else s 1 i)
  else if k = 3 then (if i = sAt s u n ∧ mk = true then 1 else s 3 i)
  else if k = 5 then (if i = sAt s u n / 8 ∧ mk = true then s 5 i + n else s 5 i)
  else if k = 6 then (if i = sAt s u n / 8 then s 6 i + n else s 6 i)
  else if k = 7 then (if i = sAt s u n / 8 then 1 else s 7 i)
  else if k = 9 then (if i = u then ((sAt s u n / 8 : Nat) : Int) else s 9 i)
  else s k i
theorem sAl_1 {s : hs} {u n : Nat} {c : Nat → Int} {mk : Bool} (i : Nat) : sAl s u n c mk 1 i = if sAt s u n ≤ i ∧ i < sAt s u n + n then c (i - sAt s u n) else s 1 i := rfl
theorem sAl_3 {s : hs} {u n : Nat} {c : Nat → Int} {mk : Bool} (i : Nat) : sAl s u n c mk 3 i = if i = sAt s u n ∧ mk = true then 1 else s 3 i := rfl
theorem sAl_5 {s : hs} {u n : Nat} {c : Nat → Int} {mk : Bool} (i : Nat) : sAl s u n c mk 5 i = if i = sAt s u n / 8 ∧ mk = true then s 5 i + n else s 5 i := rfl
theorem sAl_6 {s : hs} {u n : Nat} {c : Nat → Int} {mk : Bool} (i : Nat) : sAl s u n c mk 6 i = if i = sAt s u n / 8 then s 6 i + n else s 6 i := rfl
theorem sAl_7 {s : hs} {u n : Nat} {c : Nat → Int} {mk : Bool} (i : Nat) : sAl s u n c mk 7 i = if i = sAt s u n / 8 then 1 else s 7 i := rfl
theorem sAl_9 {s : hs} {u n : Nat} {c : Nat → Int} {mk : Bool} (i : Nat) : sAl s u n c mk 9 i = if i = u then ((sAt s u n / 8 : Nat) : Int) else s 9 i := rfl
theorem sAl_k {s : hs} {u n : Nat} {c : Nat → Int} {mk : Bool} {k : Nat} (i : Nat) (h1 : k ≠ 1) (h3 : k ≠ 3) (h5 : k ≠ 5) (h6 : k ≠ 6) (h7 : k ≠ 7) (h9 : k ≠ 9) : sAl s u n c mk k i = s k i := by
  unfold sAl; rw [if_neg h1, if_neg h3, if_neg h5, if_neg h6, if_neg h7, if_neg h9]
/-- what a new object's words must be -/
def nwOk (n : Nat) (c : Nat → Int) : Prop := c 0 = 999 + n ∧ ∀ j, 1 ≤ j → j < n → -1 ≤ c j ∧ c j ≤ 191
theorem Ok_al {s : hs} (o : Ok s) (l : Lay s) {u n : Nat} (hu : u < 2) (hn : 1 ≤ n ∧ n ≤ 4) (hr : sRoom s u n) {c : Nat → Int} (hc : nwOk n c) (mk : Bool) : Ok (sAl s u n c mk) := by
  obtain ⟨p8, b, d, d1, d2, d3, e, f⟩ := give_facts o l hu hn hr
  have u6 := o.u p8
  have lv := l.live8 o p8
  have c13 : ∀ j : Nat, sAl s u n c mk 13 j = s 13 j := fun j => sAl_k j (by decide) (by decide) (by decide) (by decide) (by decide) (by decide)
  refine ⟨fun k i hd => ?_, ?_, fun j hj => ?_⟩
  · have old := o.1 k i hd
    unfold sAl
    split
    · rename_i q; subst q
      split
      · rename_i q
        by_cases q0 : i - sAt s u n = 0
        · rw [q0, hc.1]; exact ⟨by omega, by omega⟩
        · have := hc.2 (i - sAt s u n) (by omega) (by omega)
          exact ⟨by omega, by omega⟩
      · exact old
    · split
      · rename_i q; subst q
        split
        · exact ⟨by omega, by omega⟩
        · exact old
      · split
        · rename_i q; subst q
          split
          · rename_i q
            rw [q.1, e]
            exact ⟨by omega, by omega⟩
          · exact old
        · split
          · rename_i q; subst q
            split
            · rename_i q
              rw [q, e]
              exact ⟨by omega, by omega⟩
            · exact old
          · split
            · rename_i q; subst q
              split
              · exact ⟨by omega, by omega⟩
              · exact old
            · split
              · rename_i q; subst q
                split
                · exact ⟨by omega, by omega⟩
                · exact old
              · exact old
  · rw [c13]; exact o.2.1
  · rw [c13] at hj
    rw [c13, c13, c13]
    exact o.2.2 j hj
/-- one head more is marked, other words that aren't marked may change -/
theorem sLv_up2 {s t : hs} {b : Nat} {z : Int} (hb : ¬ (s 3 b = 1 ∧ 1000 ≤ s 1 b)) (hb' : t 3 b = 1 ∧ 1000 ≤ t 1 b) (hz : t 1 b - 999 = z) (h : ∀ i, i ≠ b → (s 3 i = 1 ∧ 1000 ≤ s 1 i ↔ t 3 i = 1 ∧ 1000 ≤ t 1 i) ∧ (s 3 i = 1 ∧ 1000 ≤ s 1 i → s 1 i = t 1 i)) : ∀ (d w : Nat), sLv t d w = sLv s d w + if w ≤ b ∧ b < w + d then z else 0 := by
  intro d
  induction d with
  | zero => intro w; rw [if_neg (by omega)]; rfl
  | succ d ih =>
    intro w
    rw [sLv, sLv, ih (w + 1)]
    by_cases c : w = b
    · subst c
      rw [if_neg hb, if_pos hb', if_neg (by omega), if_pos (by omega), hz]
      omega
    · have := h w c
      have e : (if t 3 w = 1 ∧ 1000 ≤ t 1 w then t 1 w - 999 else 0) = if s 3 w = 1 ∧ 1000 ≤ s 1 w then s 1 w - 999 else 0 := by
        by_cases q : s 3 w = 1 ∧ 1000 ≤ s 1 w
        · rw [if_pos q, if_pos (this.1.mp q), this.2 q]
        · rw [if_neg q, if_neg (fun z => q (this.1.mpr z))]
      rw [e]
      by_cases c2 : w + 1 ≤ b ∧ b < w + 1 + d
      · rw [if_pos c2, if_pos (show w ≤ b ∧ b < w + (d + 1) by omega)]; omega
      · rw [if_neg c2, if_neg (show ¬ (w ≤ b ∧ b < w + (d + 1)) by omega)]; omega
theorem Lay_al {s : hs} (o : Ok s) (l : Lay s) {u n : Nat} (hu : u < 2) (hn : 1 ≤ n ∧ n ≤ 4) (hr : sRoom s u n) {c : Nat → Int} (hc : nwOk n c) (mk : Bool) : Lay (sAl s u n c mk) := by
  have fresh := @give_fresh s o l u n hu hn hr
  obtain ⟨p8, b, d, d1, d2, d3, e, f⟩ := give_facts o l hu hn hr
  obtain ⟨l1, l2, l3, l4, l5, l6, l7⟩ := l
  have fr : ∀ i, sAt s u n ≤ i → i < sAt s u n + n → s 1 i = -2 ∧ s 3 i = 0 := fun i h1 h2 => fresh h1 (by omega)
  refine ⟨fun w hw hh => ?_, fun w hw hh j j1 j2 => ?_, fun w hw hh => ?_, fun w hw hh => ?_, fun p hp hh => ?_, fun v hv hh => ?_, fun p hp => ?_⟩
  · rw [sAl_1] at hh ⊢
    rw [sAl_6]
    by_cases q : sAt s u n ≤ w ∧ w < sAt s u n + n
    · rw [if_pos q] at hh ⊢
      by_cases q0 : w - sAt s u n = 0
      · have : w = sAt s u n := by omega
        subst this
        rw [q0, hc.1, if_pos rfl, e]
        omega
      · have := hc.2 (w - sAt s u n) (by omega) (by omega)
        omega
    · rw [if_neg q] at hh ⊢
      have := l1 w hw hh
      split <;> omega
  · rw [sAl_1] at hh j2
    rw [sAl_1]
    by_cases q : sAt s u n ≤ w ∧ w < sAt s u n + n
    · rw [if_pos q] at hh j2
      by_cases q0 : w - sAt s u n = 0
      · have : w = sAt s u n := by omega
        subst this
        rw [q0, hc.1] at j2
        have := hc.2 j j1 (by omega)
        rw [if_pos (by omega), show sAt s u n + j - sAt s u n = j by omega]
        exact this
      · have := hc.2 (w - sAt s u n) (by omega) (by omega)
        omega
    · rw [if_neg q] at hh j2
      have h2 := l2 w hw hh j j1 j2
      rw [if_neg (fun z => by have := fr (w + j) z.1 z.2; omega)]
      exact h2
  · rw [sAl_6] at hh
    rw [sAl_1, sAl_3]
    by_cases q : w / 8 = sAt s u n / 8
    · rw [if_pos q, q, e] at hh
      have q2 : ¬ (sAt s u n ≤ w ∧ w < sAt s u n + n) := by omega
      rw [if_neg q2, if_neg (fun z => q2 (by omega))]
      exact fresh (by omega) (by omega)
    · rw [if_neg q] at hh
      rw [if_neg (by omega), if_neg (fun z => q (by rw [z.1]))]
      exact l3 w hw hh
  · rw [sAl_3] at hh
    rw [sAl_1]
    by_cases q : w = sAt s u n ∧ mk = true
    · rw [if_pos (by omega), q.1, show sAt s u n - sAt s u n = 0 by omega, hc.1]
      omega
    · rw [if_neg q] at hh
      rw [if_neg (fun z => by have := fr w z.1 z.2; omega)]
      exact l4 w hw hh
  · rw [sAl_7] at hh
    rw [sAl_6]
    by_cases q : p = sAt s u n / 8
    · rw [if_pos q] at hh; omega
    · rw [if_neg q] at hh ⊢
      exact l5 p hp hh
  · rw [sAl_9] at hh ⊢
    rw [sAl_7]
    by_cases q : v = u
    · rw [if_pos q, Int.toNat_natCast, if_pos rfl]
    · rw [if_neg q] at hh ⊢
      split
      · rfl
      · exact l6 v hv hh
  · rw [sAl_5]
    unfold sLive
    cases mk with
    | true =>
      have up := sLv_up2 (s := s) (t := sAl s u n c true) (b := sAt s u n) (z := (n : Int)) (fun z => by have := fr (sAt s u n) (by omega) (by omega); omega) (by
        rw [sAl_3, if_pos ⟨rfl, rfl⟩, sAl_1, if_pos (by omega), show sAt s u n - sAt s u n = 0 by omega, hc.1]; omega) (by
        rw [sAl_1, if_pos (by omega), show sAt s u n - sAt s u n = 0 by omega, hc.1]; omega) (fun i hi => by
        rw [sAl_3, if_neg (fun z => hi z.1), sAl_1]
        by_cases q : sAt s u n ≤ i ∧ i < sAt s u n + n
        · have := fr i q.1 q.2
          exact ⟨by omega, by omega⟩
        · rw [if_neg q]
          exact ⟨Iff.rfl, fun _ => rfl⟩)
      rw [up]
      have := l7 p hp
      unfold sLive at this
      by_cases q : p = sAt s u n / 8
      · rw [if_pos ⟨q, rfl⟩, if_pos (by omega), this]
      · rw [if_neg (fun z => q z.1), if_neg (by omega), this]; omega
    | false =>
      rw [if_neg (by simp)]
      have := l7 p hp
      unfold sLive at this
      rw [this]
      refine sLv_eq 8 (8 * p) (fun i _ _ => ?_)
      rw [sAl_3, if_neg (by simp), sAl_1]
      by_cases q : sAt s u n ≤ i ∧ i < sAt s u n + n
      · have := fr i q.1 q.2
        exact ⟨by omega, by omega⟩
      · rw [if_neg q]
        exact ⟨Iff.rfl, fun _ => rfl⟩
/-- a copy that nobody is told of -/
theorem copy_al {s : hs} (o : Ok s) (l : Lay s) {u n a : Nat} (hu : u < 2) (hn : 1 ≤ n ∧ n ≤ 4) (hr : sRoom s u n) : sCopy (sGive s u n) a (sAt s u n) n = sAl s u n (fun j => s 1 (a + j)) false := by
  obtain ⟨p8, b, d, d1, d2, d3, e, f⟩ := give_facts o l hu hn hr
  funext k i
  unfold sCopy
  by_cases k1 : k = 1
  · subst k1
    rw [sAl_1]
    by_cases q : sAt s u n ≤ i ∧ i < sAt s u n + n
    · rw [if_pos ⟨rfl, q⟩, if_pos q, sGive_k _ (by decide) (by decide) (by decide)]
    · rw [if_neg (fun z => q z.2), if_neg q, sGive_k _ (by decide) (by decide) (by decide)]
  · rw [if_neg (fun z => k1 z.1)]
    by_cases q : sFits s u n
    · have hp : sPg s u n = (s 9 u).toNat := by unfold sPg; rw [if_pos q]
      have dd := d1 q
      rw [hp] at dd e
      unfold sGive
      rw [if_pos q, up2_ap]
      by_cases k6 : k = 6
      · subst k6; rw [sAl_6, e]
        by_cases z : i = (s 9 u).toNat
        · rw [if_pos ⟨rfl, z⟩, if_pos z, z]
        · rw [if_neg (fun y => z y.2), if_neg z]
      · rw [if_neg (fun z => k6 z.1)]
        by_cases k7 : k = 7
        · subst k7; rw [sAl_7, e]
          by_cases z : i = (s 9 u).toNat
          · rw [if_pos z, z]; exact dd.1
          · rw [if_neg z]
        · by_cases k9 : k = 9
          · subst k9; rw [sAl_9, e]
            by_cases z : i = u
            · rw [if_pos z, z]; exact dd.2
            · rw [if_neg z]
          · by_cases k3 : k = 3
            · subst k3; rw [sAl_3, if_neg (by simp)]
            · by_cases k5 : k = 5
              · subst k5; rw [sAl_5, if_neg (by simp)]
              · rw [sAl_k i k1 k3 k5 k6 k7 k9]
    · have hp : sPg s u n = sFree s := by unfold sPg; rw [if_neg q]
      rw [hp] at e
      unfold sGive
      rw [if_neg q, up2_ap, up2_ap, up2_ap]
      by_cases k6 : k = 6
      · subst k6; rw [sAl_6, e]
        by_cases z : i = sFree s
        · rw [if_pos ⟨rfl, z⟩, if_pos z, z]
        · rw [if_neg (fun y => z y.2), if_neg (by omega), if_neg (by omega), if_neg z]
      · rw [if_neg (fun z => k6 z.1)]
        by_cases k7 : k = 7
        · subst k7; rw [sAl_7, e, if_neg (by omega)]
          by_cases z : i = sFree s
          · rw [if_pos ⟨rfl, z⟩, if_pos z]
          · rw [if_neg (fun y => z y.2), if_neg z]
        · by_cases k9 : k = 9
          · subst k9; rw [sAl_9, e]
            by_cases z : i = u
            · rw [if_pos ⟨rfl, z⟩, if_pos z]
            · rw [if_neg (fun y => z y.2), if_neg (by omega), if_neg z]
          · rw [if_neg (fun z => k9 z.1), if_neg (fun z => k7 z.1)]
            by_cases k3 : k = 3
            · subst k3; rw [sAl_3, if_neg (by simp)]
            · by_cases k5 : k = 5
              · subst k5; rw [sAl_5, if_neg (by simp)]
              · rw [sAl_k i k1 k3 k5 k6 k7 k9]
