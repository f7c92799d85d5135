/-! words of the tables that stay true while the machine runs -/
def TB : List Cond := lw_tbl.filter goodWord
theorem tb_in {w : Cond} (i : Nat) (h : lw_tbl[i]? = some w) (hg : goodWord w = true) : w ∈ TB := List.mem_filter.mpr ⟨List.mem_of_getElem? h, hg⟩
theorem tb_goodIn {big ws : List Cond} (hb : ∀ w ∈ TB, w ∈ big) (hw : ∀ w ∈ ws, w ∈ TB) : GoodIn big ws := fun w h => ⟨hb w (hw w h), good_of_word (List.mem_filter.mp (hw w h)).2⟩
theorem tb_GI {w : Cond} (h : w ∈ TB) : GoodIn TB (w :: TB) := tb_goodIn (fun _ h => h) (fun q hq => by
  rcases List.mem_cons.mp hq with e | e
  · rw [e]; exact h
  · exact e)
/-! a world of N cells one behind the other from b on, each as cf says -/
abbrev xE : Type := va_G × (Nat → ClassId)
abbrev xtys (E : xE) : List (ClassId × FieldType) := [(E.2 0, .int), (E.2 1, .long), (E.2 2, .boolean), (E.2 3, .object "ColouredHeap$Heap"), (E.2 4, .object "ColouredHeap$Text")]
def xw (b N : Nat) (cf : Nat → va_E) : va_W := (List.range N).map (fun k => (b + k, cf k))
theorem xw_get {b N k : Nat} {cf : Nat → va_E} (hk : k < N) : (xw b N cf)[k]? = some (b + k, cf k) := by
  unfold xw
  rw [List.getElem?_map, List.getElem?_range hk]
  rfl
theorem xw_of {b N k : Nat} {cf : Nat → va_E} {q : Nat × va_E} (h : (xw b N cf)[k]? = some q) : k < N ∧ q = (b + k, cf k) := by
  have hk : k < N := by
    rcases Nat.lt_or_ge k N with h1 | h1
    · exact h1
    · unfold xw at h
      rw [List.getElem?_eq_none (by simpa using h1)] at h
      cases h
  rw [xw_get hk] at h
  exact ⟨hk, (Option.some.inj h).symm⟩
theorem xw_set {b N k : Nat} {cf cf' : Nat → va_E} {e : va_E} (hk : k < N) (he : cf' k = e) (ho : ∀ j, j ≠ k → cf' j = cf j) : (xw b N cf).set k (b + k, e) = xw b N cf' := by
  apply List.ext_getElem?
  intro i
  rcases Nat.lt_or_ge i N with hi | hi
  · rw [xw_get hi]
    by_cases h : i = k
    · subst h
      rw [List.getElem?_set_self (by simpa [xw] using hi), he]
    · rw [List.getElem?_set_ne (fun q => h q.symm), xw_get hi, ho i h]
  · rw [List.getElem?_eq_none (by simpa [xw] using hi), List.getElem?_eq_none (by simpa [xw] using hi)]
def xA (b N : Nat) : Nat → Prop := fun q => b ≤ q ∧ q < b + N
theorem xw_D {b N : Nat} {cf : Nat → va_E} : va_D (xA b N) (xw b N cf) := by
  refine ⟨fun i j p q h1 h2 e => ?_, fun k q h => ?_⟩
  · obtain ⟨-, rfl⟩ := xw_of h1
    obtain ⟨-, rfl⟩ := xw_of h2
    exact Nat.add_left_cancel e
  · obtain ⟨hk, rfl⟩ := xw_of h
    exact ⟨Nat.le_add_right _ _, Nat.add_lt_add_left hk _⟩
def xat (N : Nat) (cf : Nat → va_E) (k : Nat) (e : va_E) : Prop := k < N ∧ cf k = e
theorem xat.g {b N k : Nat} {cf : Nat → va_E} {e : va_E} (h : xat N cf k e) : (xw b N cf)[k]? = some (b + k, e) := by rw [xw_get h.1, h.2]
/-- links to nest mates' private methods: they aren't among the tables' lasting words -/
def xNest : List (String × Nat × MethodName × String) := [("ColouredHeap", 25, (⟨"ColouredHeap$Told", "<init>", "()V"⟩ : MethodName), "ColouredHeap"), ("ColouredHeap", 44, (⟨"ColouredHeap$Survey", "<init>", "()V"⟩ : MethodName), "ColouredHeap"), ("ColouredHeap", 51, (⟨"ColouredHeap$Reader", "<init>", "()V"⟩ : MethodName), "ColouredHeap"), ("ColouredHeap", 58, (⟨"ColouredHeap$Law", "<init>", "()V"⟩ : MethodName), "ColouredHeap"), ("ColouredHeap", 69, (⟨"ColouredHeap$Text", "<init>", "()V"⟩ : MethodName), "ColouredHeap"), ("ColouredHeap$Heap", 50, (⟨"ColouredHeap$Book", "<init>", "()V"⟩ : MethodName), "ColouredHeap"), ("ColouredHeap$Heap", 90, (⟨"ColouredHeap", "isAddress", "(I)Z"⟩ : MethodName), "ColouredHeap"), ("ColouredHeap$Heap", 98, (⟨"ColouredHeap", "isRoot", "(I)Z"⟩ : MethodName), "ColouredHeap"), ("ColouredHeap$Heap", 108, (⟨"ColouredHeap", "isPage", "(I)Z"⟩ : MethodName), "ColouredHeap"), ("ColouredHeap$Law", 19, (⟨"ColouredHeap", "isPage", "(I)Z"⟩ : MethodName), "ColouredHeap"), ("ColouredHeap$Reader", 26, (⟨"ColouredHeap$Text", "<init>", "()V"⟩ : MethodName), "ColouredHeap"), ("ColouredHeap$Survey", 64, (⟨"ColouredHeap", "isAddress", "(I)Z"⟩ : MethodName), "ColouredHeap"), ("ColouredHeap$Survey", 71, (⟨"ColouredHeap", "isPage", "(I)Z"⟩ : MethodName), "ColouredHeap")]
def xN (U : State) : Prop := (∀ q ∈ xNest, va_Nw (.methodLinkNest q.1 q.2.1 q.2.2.1 q.2.2.2) U) ∧ va_AO "ColouredHeap$Heap" U ∧ va_AO "ColouredHeap$Text" U
theorem xN.same {u U : State} (h : u.vm = U.vm) (hn : xN u) : xN U := ⟨fun q hq => (hn.1 q hq).same rfl h, hn.2.1.moved (by rw [h]; exact Vm.Alike.refl _), hn.2.2.moved (by rw [h]; exact Vm.Alike.refl _)⟩
theorem xN.warm {s U : State} (hW : s.WarmedH U.vm) (hn : xN s) : xN U := ⟨fun q hq => (hn.1 q hq).warmM hW, hn.2.1.moved hW.alike, hn.2.2.moved hW.alike⟩
/-! the two String constants, and the two statics that String's methods read -/
def sSigns : List Int32 := [60, 62, 61, 35, 43, 45, 42, 47, 40, 41, 59]
def sVocab : List Int32 := [32, 112, 105, 99, 107, 115, 32, 112, 97, 99, 101, 115, 32, 109, 97, 107, 101, 32, 108, 111, 97, 100, 32, 115, 116, 111, 114, 101, 32, 100, 114, 111, 112, 32, 100, 97, 121, 32, 111, 102, 32, 102, 114, 111, 109, 32, 116, 111, 32, 108, 105, 118, 101, 32, 117, 115, 101, 100, 32, 105, 102, 32, 116, 104, 101, 110, 32, 101, 108, 115, 101, 32, 101, 110, 100, 32, 111, 114, 32, 97, 110, 100, 32, 110, 111, 116, 32, 99, 108, 111, 99, 107, 32, 112, 104, 97, 115, 101, 32, 102, 114, 101, 101, 32, 115, 116, 97, 99, 107, 32, 112, 97, 103, 101, 32, 108, 105, 118, 101, 115, 32, 119, 111, 114, 100, 115, 32, 102, 105, 101, 108, 100, 115, 32]
def sLen (i : Nat) : Nat := ([11, 134] : List Nat).getD i 0
def sByte (i j : Nat) : Int32 := (([sSigns, sVocab] : List (List Int32)).getD i []).getD j 0
def xT (E : xE) (b : Nat) (U : State) (H : Heap) : Prop :=
  vk_S 2 [11, 134] [sSigns, sVocab] (fun i => E.2 (10 + i)) (fun i => E.2 (20 + i)) (fun q => b ≤ q) U H ∧ vk_R "ColouredHeap$Reader" 91 "<>=#+-*/();" (E.2 (10 + 0)) U ∧ vk_R "ColouredHeap$Reader" 98 " picks paces make load store drop day of from to live used if then else end or and not clock phase free stack page lives words fields " (E.2 (10 + 1)) U ∧ va_Z "java/lang/String" "COMPACT_STRINGS" "Z" (.int 1) (fun q => b ≤ q) U H ∧ va_Zq "jdk/internal/util/Preconditions" "SIOOBE_FORMATTER" "Ljava/util/function/BiFunction;" (fun q => b ≤ q) U H
theorem xT.kept {E : xE} {b : Nat} {U : State} {H H1 : Heap} (h : xT E b U H) (hq : ∀ a : Nat, a < H.size → ¬ b ≤ a → H1[a]? = H[a]?) : xT E b U H1 := ⟨h.1.kept hq, h.2.1, h.2.2.1, h.2.2.2.1.kept hq, h.2.2.2.2.kept hq⟩
theorem xT.warm {E : xE} {b : Nat} {s U : State} {H : Heap} (hW : s.WarmedH U.vm) (h : xT E b s H) : xT E b U H := ⟨h.1.moved hW.alike, h.2.1.warm hW, h.2.2.1.warm hW, h.2.2.2.1.moved hW.alike, h.2.2.2.2.moved hW.alike⟩
theorem xT.calling {E : xE} {b : Nat} {U : State} {H : Heap} {g : JFrame} {mk : MethodId} {a : Array Value} (h : xT E b U H) : xT E b (U.calling g mk a) H := ⟨h.1.moved (Vm.Alike.refl U.vm), h.2.1.same rfl, h.2.2.1.same rfl, h.2.2.2.1.moved (Vm.Alike.refl U.vm), h.2.2.2.2.moved (Vm.Alike.refl U.vm)⟩
def xPK (E : xE) (b N : Nat) (cf : Nat → va_E) (U : State) : Prop := va_P E.1 vwCl (xw b N cf) U.heap ∧ va_K E.1 vwCl (xtys E) U ∧ xN U ∧ xT E b U U.heap
def xM (E : xE) (b N : Nat) (cf : Nat → va_E) (H0 H : Heap) (locs : List Loc) : Prop := va_P E.1 vwCl (xw b N cf) H ∧ va_S (xA b N) H0 H locs
def xQ (E : xE) (b N : Nat) (oc : Option Value) (P : Prop) (cf' : Nat → va_E) : Array Value → State → Outcome → State → Prop := fun _ st o t => o = .returned oc ∧ P ∧ xPK E b N cf' t ∧ va_F (xA b N) st t
def xMet (l : Launch) (E : xE) (b N : Nat) (y : MethodName) (cc : ByteArray) (nL : Nat) (ret : Option FieldType) (rm : Room) (av : List Value) (cf : Nat → va_E) (oc : Option Value) (P : Prop) (cf' : Nat → va_E) : Prop :=
  Met l y (.code y cc nL ret :: TB) rm (va_Pc av (fun U => xPK E b N cf U)) (xQ E b N oc P cf') 0 0 (xA b N)
/-- what stands fast inside a method -/
def xC (p : Program) (s : State) (m : MethodId) (args : Array Value) (meth : Method) (c : Code) (cc : ByteArray) (nL : Nat) (own : String) (ret : Option FieldType) (E : xE) (b : Nat) : Prop :=
  CallFix p m c cc nL s args TB own ∧ va_K E.1 vwCl (xtys E) s ∧ meth.sig.returnType = ret ∧ meth.locks = false ∧ xN s ∧ xT E b s s.heap
abbrev xR (f : Nat) : Room := { frames := f, cells := 0, slots := 0, locals := 64 * f }
theorem xMet.ofW {l : Launch} {E : xE} {b N : Nat} {y : MethodName} {cc : ByteArray} {nL : Nat} {ret : Option FieldType} {rm : Room} {av : List Value} {cf : Nat → va_E} {oc : Option Value} {P : Prop} {cf' : Nat → va_E} {own : String} (hy : plainName y.cls = true) (ho : y.cls = own) (hn : (lg_sl av).length ≤ nL)
    (body : ∀ (p : Program) (e : Env) (s : State) (m : MethodId) (below : List Frame) (meth : Method) (c : Code) (H : Heap) (locs : List Loc) (ls : Array Slot), xC p s m av.toArray meth c cc nL own ret E b → xM E b N cf s.heap H locs → lv_has ls nL (lv_args 0 av) →
      W p l e rm s m av.toArray below meth c H locs 0 0 (MQ below (xQ E b N oc P cf') av.toArray s 0 0 (xA b N)) (F0 m 0 ls [])) : xMet l E b N y cc nL ret rm av cf oc P cf' := by
  refine Met.ofW (cc := cc) (maxL := nL) (ret := ret) hy rfl ?_
  intro p e s m args below meth c s₁ B hml hv
  obtain ⟨rfl, hP, hK, hNs, hTs⟩ := hv
  have hts := atoms_spec (ws := .code y cc nL ret :: TB) B.pre
  have hown : s.vm.findClass y.cls = some m.cls := findClass_of_methodNamed B.named
  rw [ho] at hown
  have hl := lv_entry av (n := nL) hn
  rw [lg_entry_eq]
  exact body p e s m below meth c _ _ _ ⟨⟨B.exec, B.bytes, hml, hown, fun w hw => hts w (List.mem_cons_of_mem _ hw)⟩, hK, B.returns, B.notSynchronized, hNs, hTs⟩ ⟨hP, va_S.rf⟩ hl
/-- a value gets a name -/
def xlet {α β : Type} (a : α) (k : α → β) : β := k a
theorem xlet_e {α β : Type} {a v : α} {k : α → β} {r : β} (e : v = a) (h : xlet a k = r) : k v = r := by subst e; exact h
theorem xif_t {α : Type} {c : Prop} [Decidable c] {a b r : α} (h : c) (hf : (if c then a else b) = r) : a = r := by rwa [if_pos h] at hf
theorem xif_f {α : Type} {c : Prop} [Decidable c] {a b r : α} (h : ¬ c) (hf : (if c then a else b) = r) : b = r := by rwa [if_neg h] at hf
theorem xif_s {α : Type} {c : Prop} [Decidable c] {a : Option α} {r : α} (hf : (if c then a else none) = some r) : c ∧ a = some r := by
  by_cases h : c
  · rw [if_pos h] at hf; exact ⟨h, hf⟩
  · rw [if_neg h] at hf; cases hf
def xb1 {α γ : Type} (o : Option α) (k : α → Option γ) : Option γ := o.bind k
def xb2 {α β γ : Type} (o : Option (α × β)) (k : α → β → Option γ) : Option γ := o.bind (fun q => k q.1 q.2)
def xb3 {α β δ γ : Type} (o : Option (α × β × δ)) (k : α → β → δ → Option γ) : Option γ := o.bind (fun q => k q.1 q.2.1 q.2.2)
theorem xb1_e {α γ : Type} {o : Option α} {k : α → Option γ} {r : γ} (h : xb1 o k = some r) : ∃ a, o = some a ∧ k a = some r := by
  cases o with
  | none => cases h
  | some a => exact ⟨a, rfl, h⟩
theorem xb2_e {α β γ : Type} {o : Option (α × β)} {k : α → β → Option γ} {r : γ} (h : xb2 o k = some r) : ∃ a b, o = some (a, b) ∧ k a b = some r := by
  cases o with
  | none => cases h
  | some a => exact ⟨a.1, a.2, rfl, h⟩
theorem xb3_e {α β δ γ : Type} {o : Option (α × β × δ)} {k : α → β → δ → Option γ} {r : γ} (h : xb3 o k = some r) : ∃ a b d, o = some (a, b, d) ∧ k a b d = some r := by
  cases o with
  | none => cases h
  | some a => exact ⟨a.1, a.2.1, a.2.2, rfl, h⟩
/-- an index in its row -/
def xin (i : Int32) (n : Nat) : Bool := decide (¬ (i < 0)) && decide (i.toNatClampNeg < n)
theorem xin_p {i : Int32} {n : Nat} (h : xin i n = true) : vp_in i n := by
  unfold xin at h
  rw [Bool.and_eq_true, decide_eq_true_eq, decide_eq_true_eq] at h
  exact fun q => q.elim h.1 (fun q => Nat.not_le.mpr h.2 q)
/-- a truth value -/
def xbo (v : Int32) : Bool := decide (v = 0) || decide (v = 1)
theorem xbo_n {v : Int32} (h : xbo v = true) : narrow .boolean (.int v) = .int v := by
  unfold xbo at h
  rw [Bool.or_eq_true, decide_eq_true_eq, decide_eq_true_eq] at h
  rcases h with rfl | rfl <;> rfl
def up2 {α : Type} (M : Nat → Nat → α) (k i : Nat) (v : α) : Nat → Nat → α := fun q => if q = k then (fun j => if j = i then v else M k j) else M q
theorem up2_k {M : Nat → Nat → Int32} {k i : Nat} {v : Int32} : up2 M k i v k = upd (M k) i v := by unfold up2; rw [if_pos rfl]; rfl
theorem up2_o {α : Type} {M : Nat → Nat → α} {k i q : Nat} {v : α} (h : q ≠ k) : up2 M k i v q = M q := by unfold up2; rw [if_neg h]
section XR
variable {p : Program} {l : Launch} {e : Env} {R : Room} {s : State} {m : MethodId} {args : Array Value} {below : List Frame} {meth : Method} {c : Code} {H : Heap} {locs : List Loc} {cs sl : Nat} {Q : State → Prop}
variable {cc : ByteArray} {nL pc b N k : Nat} {own : String} {ret : Option FieldType} {E : xE} {ls : Array Slot} {rest : List Value} {cf cf' : Nat → va_E}
theorem x_get (C : xC p s m args meth c cc nL own ret E b) (hm : xM E b N cf s.heap H locs) {Cn : String} {T : u_T} {n ci index : Nat} (hin : ∀ w ∈ u_ws Cn T n, w ∈ TB) (hcl : vwCl[ci]? = some (Cn, T, n)) (j : Nat) (hj : j < n) (hlink : Cond.fieldLink own index (T j).1 (T j).2.1 (T j).2.2.1 ∈ TB) {fs : List Value} {v : Value} (hc : xat N cf k (.inr (ci, fs))) (hv : fs[j]? = some v) (hdg : decode cc pc = .ok (.getfield index, 3))
    (kk : W p l e R s m args below meth c H locs cs sl Q (F0 m (pc + 3) ls (v :: rest))) : W p l e R s m args below meth c H locs cs sl Q (F0 m pc ls (.ref (b + k) :: rest)) :=
  va_get C.1.1 C.1.2.1 C.1.2.2.2.2 hin C.1.2.2.2.1 C.2.1 hm.1 k hc.g hcl j hj (C.1.2.2.2.2 _ hlink) (fun _ h => h) hv hdg kk
theorem x_put (C : xC p s m args meth c cc nL own ret E b) (hm : xM E b N cf s.heap H locs) {Cn : String} {T : u_T} {n ci index : Nat} (hin : ∀ w ∈ u_ws Cn T n, w ∈ TB) (ty0 : Nat → FieldType) (hty : ∀ k, k < n → parseFieldDescriptor (T k).2.2.1 = some (ty0 k)) (hnm : ∀ a, a < n → ∀ b, b < n → a ≠ b → (T a).2.1 ≠ (T b).2.1) (hcl : vwCl[ci]? = some (Cn, T, n)) (j : Nat) (hj : j < n) (hlink : Cond.fieldLink own index (T j).1 (T j).2.1 (T j).2.2.1 ∈ TB) (hfin : (T j).2.2.2 = false) {v : Value} (hn : narrow (ty0 j) v = v) (hfit : fits (ty0 j) v = true) {fs : List Value} (hc : xat N cf k (.inr (ci, fs))) (hl : j < fs.length) (hc' : cf' k = .inr (ci, fs.set j v)) (ho : ∀ q, q ≠ k → cf' q = cf q) (hdg : decode cc pc = .ok (.putfield index, 3))
    (kk : ∀ (H1 : Heap) (locs1 : List Loc), xM E b N cf' s.heap H1 locs1 → W p l e R s m args below meth c H1 locs1 cs sl Q (F0 m (pc + 3) ls rest)) : W p l e R s m args below meth c H locs cs sl Q (F0 m pc ls (v :: .ref (b + k) :: rest)) :=
  va_put C.1.1 C.1.2.1 C.1.2.2.2.2 hin ty0 hty hnm C.1.2.2.2.1 C.2.1 hm.1 xw_D hm.2 k hc.g hcl j hj (C.1.2.2.2.2 _ hlink) (fun _ h => h) hfin (hty j hj) hn hfit hl hdg (fun H1 locs1 hP _ hS => kk H1 locs1 ⟨by rw [xw_set hc.1 hc' ho] at hP; exact hP, hS⟩)
theorem x_iald (C : xC p s m args meth c cc nL own ret E b) (hm : xM E b N cf s.heap H locs) {n : Nat} {f : Nat → Int32} (hc : xat N cf k (.inl (E.2 0, n, .inl f))) {i : Int32} (hin : xin i n = true) (hdg : decode cc pc = .ok (.iaload, 1)) {j : Nat} (hj : i.toNatClampNeg = j)
    (kk : W p l e R s m args below meth c H locs cs sl Q (F0 m (pc + 1) ls (.int (f j) :: rest))) : W p l e R s m args below meth c H locs cs sl Q (F0 m pc ls (.int i :: .ref (b + k) :: rest)) := by
  subst hj
  exact va_iald C.1.1 C.1.2.1 C.2.1 hm.1 k 0 hc.g rfl (xin_p hin) hdg kk
theorem x_zald (C : xC p s m args meth c cc nL own ret E b) (hm : xM E b N cf s.heap H locs) {n : Nat} {f : Nat → Int32} (hc : xat N cf k (.inl (E.2 2, n, .inl f))) {i : Int32} (hin : xin i n = true) (hdg : decode cc pc = .ok (.baload, 1)) {j : Nat} (hj : i.toNatClampNeg = j)
    (kk : W p l e R s m args below meth c H locs cs sl Q (F0 m (pc + 1) ls (.int (f j) :: rest))) : W p l e R s m args below meth c H locs cs sl Q (F0 m pc ls (.int i :: .ref (b + k) :: rest)) := by
  subst hj
  exact va_zald C.1.1 C.1.2.1 C.2.1 hm.1 k 2 hc.g rfl (xin_p hin) hdg kk
theorem x_lald (C : xC p s m args meth c cc nL own ret E b) (hm : xM E b N cf s.heap H locs) {n : Nat} {f : Nat → Int64} (hc : xat N cf k (.inl (E.2 1, n, .inr (.inl f)))) {i : Int32} (hin : xin i n = true) (hdg : decode cc pc = .ok (.laload, 1)) {j : Nat} (hj : i.toNatClampNeg = j)
    (kk : W p l e R s m args below meth c H locs cs sl Q (F0 m (pc + 1) ls (.long (f j) :: rest))) : W p l e R s m args below meth c H locs cs sl Q (F0 m pc ls (.int i :: .ref (b + k) :: rest)) := by
  subst hj
  exact va_lald C.1.1 C.1.2.1 C.2.1 hm.1 k 1 hc.g rfl (xin_p hin) hdg kk
theorem x_iast (C : xC p s m args meth c cc nL own ret E b) (hm : xM E b N cf s.heap H locs) {n : Nat} {f : Nat → Int32} (hc : xat N cf k (.inl (E.2 0, n, .inl f))) {i x : Int32} (hin : xin i n = true) (hdg : decode cc pc = .ok (.iastore, 1)) {j : Nat} (hj : i.toNatClampNeg = j) (hc' : cf' k = .inl (E.2 0, n, .inl (upd f j x))) (ho : ∀ q, q ≠ k → cf' q = cf q)
    (kk : ∀ (H1 : Heap) (locs1 : List Loc), xM E b N cf' s.heap H1 locs1 → W p l e R s m args below meth c H1 locs1 cs sl Q (F0 m (pc + 1) ls rest)) : W p l e R s m args below meth c H locs cs sl Q (F0 m pc ls (.int x :: .int i :: .ref (b + k) :: rest)) := by
  subst hj
  exact va_iast C.1.1 C.1.2.1 C.2.1 hm.1 xw_D hm.2 k 0 hc.g rfl (xin_p hin) hdg (fun H1 locs1 hP _ hS => kk H1 locs1 ⟨by rw [xw_set hc.1 hc' ho] at hP; exact hP, hS⟩)
/-- the ends -/
theorem x_free {q : Loc} {H0 : Heap} (hm : xM E b N cf H0 H locs) (h : q ∈ locs) : xA b N q.base := hm.2.2.2 q h
theorem x_kp {H0 : Heap} (hm : xM E b N cf H0 H locs) : ∀ a : Nat, a < H0.size → ¬ b ≤ a → H[a]? = H0[a]? := fun a h1 h2 => hm.2.2.1 a h1 (fun q => h2 q.1)
theorem x_Q {oc : Option Value} {P : Prop} {as : Array Value} (C : xC p s m args meth c cc nL own ret E b) (hm : xM E b N cf s.heap H locs) (hP : P) (t : State) (ht : t.heap = H) (hw : s.WarmedH t.vm) : xQ E b N oc P cf as s (.returned oc) t :=
  ⟨rfl, hP, ⟨by rw [ht]; exact hm.1, va_K.moved hw.alike C.2.1, xN.warm hw C.2.2.2.2.1, by rw [ht]; exact (xT.kept C.2.2.2.2.2 (x_kp hm)).warm hw⟩, hm.2.F ht⟩
theorem x_iret {P : Prop} {v : Int32} (C : xC p s m args meth c cc nL own (some .int) E b) (hm : xM E b N cf s.heap H locs) (hP : P) (hdg : decode cc pc = .ok (.ireturn, 1)) :
    W p l e R s m args below meth c H locs cs sl (MQ below (xQ E b N (some (.int v)) P cf) args s cs sl (xA b N)) (F0 m pc ls [.int v]) :=
  W.iret C.1.1 C.1.2.1 C.2.2.1 (fun t ht hw => x_Q C hm hP t ht hw) (fun q h => x_free hm h) hdg C.2.2.2.1
theorem x_zret {P : Prop} {v : Int32} (C : xC p s m args meth c cc nL own (some .boolean) E b) (hm : xM E b N cf s.heap H locs) (hP : P) (hn : xbo v = true) (hdg : decode cc pc = .ok (.ireturn, 1)) :
    W p l e R s m args below meth c H locs cs sl (MQ below (xQ E b N (some (.int v)) P cf) args s cs sl (xA b N)) (F0 m pc ls [.int v]) :=
  W.zret C.1.1 C.1.2.1 C.2.2.1 (xbo_n hn) (fun t ht hw => x_Q C hm hP t ht hw) (fun q h => x_free hm h) hdg C.2.2.2.1
theorem x_lret {P : Prop} {v : Int64} (C : xC p s m args meth c cc nL own (some .long) E b) (hm : xM E b N cf s.heap H locs) (hP : P) (hdg : decode cc pc = .ok (.lreturn, 1)) :
    W p l e R s m args below meth c H locs cs sl (MQ below (xQ E b N (some (.long v)) P cf) args s cs sl (xA b N)) (F0 m pc ls [.long v]) :=
  W.lret C.1.1 C.1.2.1 C.2.2.1 (fun t ht hw => x_Q C hm hP t ht hw) (fun q h => x_free hm h) hdg C.2.2.2.1
theorem x_vret {P : Prop} (C : xC p s m args meth c cc nL own none E b) (hm : xM E b N cf s.heap H locs) (hP : P) (hdg : decode cc pc = .ok (.return_, 1)) :
    W p l e R s m args below meth c H locs cs sl (MQ below (xQ E b N none P cf) args s cs sl (xA b N)) (F0 m pc ls []) :=
  W.vret C.1.1 C.1.2.1 C.2.2.1 (fun t ht hw => x_Q C hm hP t ht hw) (fun q h => x_free hm h) hdg C.2.2.2.1
/-- the calls -/
theorem x_blind {av : List Value} : FrameBlind (va_Pc av (fun U => xPK E b N cf U)) := fun a U g mk q => ⟨q.1, q.2.1, va_K.moved (u := U) (U := U.calling g mk a) (Vm.Alike.refl U.vm) q.2.2.1, xN.same (u := U) (U := U.calling g mk a) rfl q.2.2.2.1, q.2.2.2.2.calling⟩
theorem x_run {oc : Option Value} {P : Prop} {a : Array Value} {g : JFrame} (hm : xM E b N cf s.heap H locs) (hr : va_Run p l e R s m args below meth c H locs cs sl 0 0 g rest (xQ E b N oc P cf' a) (xA b N))
    (kk : ∀ (H1 : Heap) (locs1 : List Loc), P → xM E b N cf' s.heap H1 locs1 → W p l e R s m args below meth c H1 locs1 cs sl Q { g with pc := g.pc + 3, stack := oc.toList ++ rest }) : W p l e R s m args below meth c H locs cs sl Q g := by
  intro T hT X
  obtain ⟨v, st₀, t, T', L, h0, X', hL, e1, e2, ⟨hv, hP, ⟨hp, hk, -⟩, hF⟩, st⟩ := hr T hT X
  cases hv
  have hS := hm.2
  obtain ⟨t2, a1, b1⟩ := kk T'.heap (locs ++ L) hP ⟨by rw [e1]; exact hp, ⟨Nat.le_trans hS.1 (by rw [e1, ← h0]; exact hF.1), fun q h1 h2 => by rw [e1, hF.2 q (by rw [h0]; exact Nat.lt_of_lt_of_le h1 hS.1) h2, h0]; exact hS.2.1 q h1 h2, fun q hq => by
      rcases List.mem_append.mp hq with h | h
      · exact hS.2.2 q h
      · exact hL q h⟩⟩ T' rfl X'
  exact ⟨t2, st t2 a1, b1⟩
variable {y : MethodName} {bytes : ByteArray} {maxL n index : Nat} {rt : Option FieldType} {rm : Room} {As av : List Value} {oc : Option Value} {P : Prop} {st0 : List Value}
theorem x_callS (C : xC p s m args meth c cc nL own ret E b) (hm : xM E b N cf s.heap H locs) (hM : xMet l E b N y bytes maxL rt rm As cf oc P cf') (hcode : Cond.code y bytes maxL rt ∈ TB) (hlk : Cond.methodLink own index y ∈ TB) (hst : Cond.static y ∈ TB) (hini : Cond.initialized y.cls ∈ TB)
    (hd : y.cls ≠ "java/lang/invoke/MethodHandle" ∧ y.cls ≠ "java/lang/invoke/VarHandle" ∧ (parseMethodDescriptor y.desc).map (fun d => d.parameters.length) = some n) (hrc : rm.cells = 0) (hrs : rm.slots = 0) (hR : rm.frames + 1 ≤ R.frames ∧ 8 + (maxL + 11) + rm.locals ≤ R.locals) (hn : As.length = n) (hsz : ls.size = nL) (hst0 : st0 = As.reverse ++ rest) (hW : (rest.map fun v => v.category).sum ≤ 8) (hcs : cs ≤ R.cells ∧ sl ≤ R.slots) (hdg : decode cc pc = .ok (.invokestatic index, 3))
    (kk : ∀ (H1 : Heap) (locs1 : List Loc), P → xM E b N cf' s.heap H1 locs1 → W p l e R s m args below meth c H1 locs1 cs sl Q (F0 m (pc + 3) ls (oc.toList ++ rest))) : W p l e R s m args below meth c H locs cs sl Q (F0 m pc ls st0) := by
  refine x_run (g := F0 m pc ls st0) (rest := rest) (a := As.toArray) hm (va_runS (As := As) (rest := rest) C.1 hM ⟨callB_of n C.1.2.2.2.2 (tb_GI hcode) rfl hrc hrs (C.1.2.2.2.2 _ hini) (C.1.2.2.2.2 _ hlk) hd hR, C.1.2.2.2.2 _ hst⟩ ⟨x_blind, fun U hU hW => ⟨rfl, by rw [hU]; exact hm.1, va_K.moved hW.alike C.2.1, xN.warm hW C.2.2.2.2.1, by rw [hU]; exact (xT.kept C.2.2.2.2.2 (x_kp hm)).warm hW⟩⟩ rfl hn hsz hst0 (lv_room hW) hdg hcs) kk
theorem x_callSN (C : xC p s m args meth c cc nL own ret E b) (hm : xM E b N cf s.heap H locs) (hM : xMet l E b N y bytes maxL rt rm As cf oc P cf') (hcode : Cond.code y bytes maxL rt ∈ TB) {host : String} (hlk : (own, index, y, host) ∈ xNest) (hst : Cond.static y ∈ TB) (hini : Cond.initialized y.cls ∈ TB)
    (hd : y.cls ≠ "java/lang/invoke/MethodHandle" ∧ y.cls ≠ "java/lang/invoke/VarHandle" ∧ (parseMethodDescriptor y.desc).map (fun d => d.parameters.length) = some n) (hrc : rm.cells = 0) (hrs : rm.slots = 0) (hR : rm.frames + 1 ≤ R.frames ∧ 8 + (maxL + 11) + rm.locals ≤ R.locals) (hn : As.length = n) (hsz : ls.size = nL) (hst0 : st0 = As.reverse ++ rest) (hW : (rest.map fun v => v.category).sum ≤ 8) (hcs : cs ≤ R.cells ∧ sl ≤ R.slots) (hdg : decode cc pc = .ok (.invokestatic index, 3))
    (kk : ∀ (H1 : Heap) (locs1 : List Loc), P → xM E b N cf' s.heap H1 locs1 → W p l e R s m args below meth c H1 locs1 cs sl Q (F0 m (pc + 3) ls (oc.toList ++ rest))) : W p l e R s m args below meth c H locs cs sl Q (F0 m pc ls st0) := by
  refine x_run (g := F0 m pc ls st0) (rest := rest) (a := As.toArray) hm (va_runSN (As := As) (rest := rest) (host := host) C.1 hM ⟨va_cnB n C.1.2.2.2.2 (tb_GI hcode) rfl hrc hrs (C.2.2.2.2.1.1 _ hlk) (C.1.2.2.2.2 _ hini) hd hR, C.1.2.2.2.2 _ hst, trivial⟩ ⟨x_blind, fun U hU hW => ⟨rfl, by rw [hU]; exact hm.1, va_K.moved hW.alike C.2.1, xN.warm hW C.2.2.2.2.1, by rw [hU]; exact (xT.kept C.2.2.2.2.2 (x_kp hm)).warm hW⟩⟩ rfl hn hsz hst0 (lv_room hW) hdg hcs) kk
theorem x_recv (C : xC p s m args meth c cc nL own ret E b) (hm : xM E b N cf s.heap H locs) {ci : Nat} {fs : List Value} {Cn : String} {T : u_T} {n : Nat} (hcl : vwCl[ci]? = some (Cn, T, n)) (hc : xat N cf k (.inr (ci, fs))) : ∃ cellB : Cell, H[b + k]? = some cellB ∧ cellB.vm.isStatics = false ∧ s.vm.findClass Cn = some cellB.cls :=
  va_recv C.2.1 hm.1 (ci := ci) (q0 := k) hcl hc.g
theorem x_callVA {ra : Nat} (C : xC p s m args meth c cc nL own ret E b) (hm : xM E b N cf s.heap H locs) (hM : xMet l E b N y bytes maxL rt rm (.ref ra :: As) cf oc P cf') {Cn : String} (hrv : ∃ cellB : Cell, H[ra]? = some cellB ∧ cellB.vm.isStatics = false ∧ s.vm.findClass Cn = some cellB.cls) (hcode : Cond.code y bytes maxL rt ∈ TB) (hlk : Cond.methodLink own index y ∈ TB) (hst : Cond.instanceMethod y ∈ TB) (hse : Cond.selects Cn y y ∈ TB) (hini : Cond.initialized y.cls ∈ TB)
    (hd : y.cls ≠ "java/lang/invoke/MethodHandle" ∧ y.cls ≠ "java/lang/invoke/VarHandle" ∧ (parseMethodDescriptor y.desc).map (fun d => d.parameters.length) = some n) (hrc : rm.cells = 0) (hrs : rm.slots = 0) (hR : rm.frames + 1 ≤ R.frames ∧ 8 + (maxL + 11) + rm.locals ≤ R.locals) (hn : As.length = n) (hsz : ls.size = nL) (hst0 : st0 = As.reverse ++ .ref ra :: rest) (hW : (rest.map fun v => v.category).sum ≤ 8) (hcs : cs ≤ R.cells ∧ sl ≤ R.slots) (hdg : decode cc pc = .ok (.invokevirtual index, 3))
    (kk : ∀ (H1 : Heap) (locs1 : List Loc), P → xM E b N cf' s.heap H1 locs1 → W p l e R s m args below meth c H1 locs1 cs sl Q (F0 m (pc + 3) ls (oc.toList ++ rest))) : W p l e R s m args below meth c H locs cs sl Q (F0 m pc ls st0) := by
  refine x_run (g := F0 m pc ls st0) (rest := rest) (a := (Value.ref ra :: As).toArray) hm (va_runV (As := As) (rest := rest) (C := Cn) C.1 hM ⟨callB_of n C.1.2.2.2.2 (tb_GI hcode) rfl hrc hrs (C.1.2.2.2.2 _ hini) (C.1.2.2.2.2 _ hlk) hd hR, C.1.2.2.2.2 _ hst, C.1.2.2.2.2 _ hse⟩ ⟨x_blind, hrv, fun U hU hW => ⟨rfl, by rw [hU]; exact hm.1, va_K.moved hW.alike C.2.1, xN.warm hW C.2.2.2.2.1, by rw [hU]; exact (xT.kept C.2.2.2.2.2 (x_kp hm)).warm hW⟩⟩ rfl hn hsz hst0 (lv_room hW) hdg hcs) kk
theorem x_callV (C : xC p s m args meth c cc nL own ret E b) (hm : xM E b N cf s.heap H locs) (hM : xMet l E b N y bytes maxL rt rm (.ref (b + k) :: As) cf oc P cf') {ci : Nat} {fs : List Value} {Cn : String} {T : u_T} {nf : Nat} (hcl : vwCl[ci]? = some (Cn, T, nf)) (hc : xat N cf k (.inr (ci, fs))) (hcode : Cond.code y bytes maxL rt ∈ TB) (hlk : Cond.methodLink own index y ∈ TB) (hst : Cond.instanceMethod y ∈ TB) (hse : Cond.selects Cn y y ∈ TB) (hini : Cond.initialized y.cls ∈ TB)
    (hd : y.cls ≠ "java/lang/invoke/MethodHandle" ∧ y.cls ≠ "java/lang/invoke/VarHandle" ∧ (parseMethodDescriptor y.desc).map (fun d => d.parameters.length) = some n) (hrc : rm.cells = 0) (hrs : rm.slots = 0) (hR : rm.frames + 1 ≤ R.frames ∧ 8 + (maxL + 11) + rm.locals ≤ R.locals) (hn : As.length = n) (hsz : ls.size = nL) (hst0 : st0 = As.reverse ++ .ref (b + k) :: rest) (hW : (rest.map fun v => v.category).sum ≤ 8) (hcs : cs ≤ R.cells ∧ sl ≤ R.slots) (hdg : decode cc pc = .ok (.invokevirtual index, 3))
    (kk : ∀ (H1 : Heap) (locs1 : List Loc), P → xM E b N cf' s.heap H1 locs1 → W p l e R s m args below meth c H1 locs1 cs sl Q (F0 m (pc + 3) ls (oc.toList ++ rest))) : W p l e R s m args below meth c H locs cs sl Q (F0 m pc ls st0) := by
  refine x_run (g := F0 m pc ls st0) (rest := rest) (a := (Value.ref (b + k) :: As).toArray) hm (va_runV (As := As) (rest := rest) (C := Cn) C.1 hM ⟨callB_of n C.1.2.2.2.2 (tb_GI hcode) rfl hrc hrs (C.1.2.2.2.2 _ hini) (C.1.2.2.2.2 _ hlk) hd hR, C.1.2.2.2.2 _ hst, C.1.2.2.2.2 _ hse⟩ ⟨x_blind, x_recv C hm hcl hc, fun U hU hW => ⟨rfl, by rw [hU]; exact hm.1, va_K.moved hW.alike C.2.1, xN.warm hW C.2.2.2.2.1, by rw [hU]; exact (xT.kept C.2.2.2.2.2 (x_kp hm)).warm hW⟩⟩ rfl hn hsz hst0 (lv_room hW) hdg hcs) kk
theorem x_callSi {r : Int32} (C : xC p s m args meth c cc nL own ret E b) (hm : xM E b N cf s.heap H locs) (hM : xMet l E b N y bytes maxL rt rm As cf (some (.int r)) P cf') (hcode : Cond.code y bytes maxL rt ∈ TB) (hlk : Cond.methodLink own index y ∈ TB) (hst : Cond.static y ∈ TB) (hini : Cond.initialized y.cls ∈ TB)
    (hd : y.cls ≠ "java/lang/invoke/MethodHandle" ∧ y.cls ≠ "java/lang/invoke/VarHandle" ∧ (parseMethodDescriptor y.desc).map (fun d => d.parameters.length) = some n) (hrc : rm.cells = 0) (hrs : rm.slots = 0) (hR : rm.frames + 1 ≤ R.frames ∧ 8 + (maxL + 11) + rm.locals ≤ R.locals) (hn : As.length = n) (hsz : ls.size = nL) (hst0 : st0 = As.reverse ++ rest) (hW : (rest.map fun v => v.category).sum ≤ 8) (hcs : cs ≤ R.cells ∧ sl ≤ R.slots) (hdg : decode cc pc = .ok (.invokestatic index, 3))
    (kk : ∀ (H1 : Heap) (locs1 : List Loc), P → xM E b N cf' s.heap H1 locs1 → W p l e R s m args below meth c H1 locs1 cs sl Q (F0 m (pc + 3) ls (.int r :: rest))) : W p l e R s m args below meth c H locs cs sl Q (F0 m pc ls st0) := x_callS C hm hM hcode hlk hst hini hd hrc hrs hR hn hsz hst0 hW hcs hdg kk
theorem x_callSl {r : Int64} (C : xC p s m args meth c cc nL own ret E b) (hm : xM E b N cf s.heap H locs) (hM : xMet l E b N y bytes maxL rt rm As cf (some (.long r)) P cf') (hcode : Cond.code y bytes maxL rt ∈ TB) (hlk : Cond.methodLink own index y ∈ TB) (hst : Cond.static y ∈ TB) (hini : Cond.initialized y.cls ∈ TB)
    (hd : y.cls ≠ "java/lang/invoke/MethodHandle" ∧ y.cls ≠ "java/lang/invoke/VarHandle" ∧ (parseMethodDescriptor y.desc).map (fun d => d.parameters.length) = some n) (hrc : rm.cells = 0) (hrs : rm.slots = 0) (hR : rm.frames + 1 ≤ R.frames ∧ 8 + (maxL + 11) + rm.locals ≤ R.locals) (hn : As.length = n) (hsz : ls.size = nL) (hst0 : st0 = As.reverse ++ rest) (hW : (rest.map fun v => v.category).sum ≤ 8) (hcs : cs ≤ R.cells ∧ sl ≤ R.slots) (hdg : decode cc pc = .ok (.invokestatic index, 3))
    (kk : ∀ (H1 : Heap) (locs1 : List Loc), P → xM E b N cf' s.heap H1 locs1 → W p l e R s m args below meth c H1 locs1 cs sl Q (F0 m (pc + 3) ls (.long r :: rest))) : W p l e R s m args below meth c H locs cs sl Q (F0 m pc ls st0) := x_callS C hm hM hcode hlk hst hini hd hrc hrs hR hn hsz hst0 hW hcs hdg kk
theorem x_callSr {r : Value} (C : xC p s m args meth c cc nL own ret E b) (hm : xM E b N cf s.heap H locs) (hM : xMet l E b N y bytes maxL rt rm As cf (some r) P cf') (hcode : Cond.code y bytes maxL rt ∈ TB) (hlk : Cond.methodLink own index y ∈ TB) (hst : Cond.static y ∈ TB) (hini : Cond.initialized y.cls ∈ TB)
    (hd : y.cls ≠ "java/lang/invoke/MethodHandle" ∧ y.cls ≠ "java/lang/invoke/VarHandle" ∧ (parseMethodDescriptor y.desc).map (fun d => d.parameters.length) = some n) (hrc : rm.cells = 0) (hrs : rm.slots = 0) (hR : rm.frames + 1 ≤ R.frames ∧ 8 + (maxL + 11) + rm.locals ≤ R.locals) (hn : As.length = n) (hsz : ls.size = nL) (hst0 : st0 = As.reverse ++ rest) (hW : (rest.map fun v => v.category).sum ≤ 8) (hcs : cs ≤ R.cells ∧ sl ≤ R.slots) (hdg : decode cc pc = .ok (.invokestatic index, 3))
    (kk : ∀ (H1 : Heap) (locs1 : List Loc), P → xM E b N cf' s.heap H1 locs1 → W p l e R s m args below meth c H1 locs1 cs sl Q (F0 m (pc + 3) ls (r :: rest))) : W p l e R s m args below meth c H locs cs sl Q (F0 m pc ls st0) := x_callS C hm hM hcode hlk hst hini hd hrc hrs hR hn hsz hst0 hW hcs hdg kk
theorem x_callSv (C : xC p s m args meth c cc nL own ret E b) (hm : xM E b N cf s.heap H locs) (hM : xMet l E b N y bytes maxL rt rm As cf none P cf') (hcode : Cond.code y bytes maxL rt ∈ TB) (hlk : Cond.methodLink own index y ∈ TB) (hst : Cond.static y ∈ TB) (hini : Cond.initialized y.cls ∈ TB)
    (hd : y.cls ≠ "java/lang/invoke/MethodHandle" ∧ y.cls ≠ "java/lang/invoke/VarHandle" ∧ (parseMethodDescriptor y.desc).map (fun d => d.parameters.length) = some n) (hrc : rm.cells = 0) (hrs : rm.slots = 0) (hR : rm.frames + 1 ≤ R.frames ∧ 8 + (maxL + 11) + rm.locals ≤ R.locals) (hn : As.length = n) (hsz : ls.size = nL) (hst0 : st0 = As.reverse ++ rest) (hW : (rest.map fun v => v.category).sum ≤ 8) (hcs : cs ≤ R.cells ∧ sl ≤ R.slots) (hdg : decode cc pc = .ok (.invokestatic index, 3))
    (kk : ∀ (H1 : Heap) (locs1 : List Loc), P → xM E b N cf' s.heap H1 locs1 → W p l e R s m args below meth c H1 locs1 cs sl Q (F0 m (pc + 3) ls rest)) : W p l e R s m args below meth c H locs cs sl Q (F0 m pc ls st0) := x_callS C hm hM hcode hlk hst hini hd hrc hrs hR hn hsz hst0 hW hcs hdg kk
theorem x_callSNi {r : Int32} (C : xC p s m args meth c cc nL own ret E b) (hm : xM E b N cf s.heap H locs) (hM : xMet l E b N y bytes maxL rt rm As cf (some (.int r)) P cf') (hcode : Cond.code y bytes maxL rt ∈ TB) {host : String} (hlk : (own, index, y, host) ∈ xNest) (hst : Cond.static y ∈ TB) (hini : Cond.initialized y.cls ∈ TB)
    (hd : y.cls ≠ "java/lang/invoke/MethodHandle" ∧ y.cls ≠ "java/lang/invoke/VarHandle" ∧ (parseMethodDescriptor y.desc).map (fun d => d.parameters.length) = some n) (hrc : rm.cells = 0) (hrs : rm.slots = 0) (hR : rm.frames + 1 ≤ R.frames ∧ 8 + (maxL + 11) + rm.locals ≤ R.locals) (hn : As.length = n) (hsz : ls.size = nL) (hst0 : st0 = As.reverse ++ rest) (hW : (rest.map fun v => v.category).sum ≤ 8) (hcs : cs ≤ R.cells ∧ sl ≤ R.slots) (hdg : decode cc pc = .ok (.invokestatic index, 3))
    (kk : ∀ (H1 : Heap) (locs1 : List Loc), P → xM E b N cf' s.heap H1 locs1 → W p l e R s m args below meth c H1 locs1 cs sl Q (F0 m (pc + 3) ls (.int r :: rest))) : W p l e R s m args below meth c H locs cs sl Q (F0 m pc ls st0) := x_callSN C hm hM hcode hlk hst hini hd hrc hrs hR hn hsz hst0 hW hcs hdg kk
theorem x_callSNl {r : Int64} (C : xC p s m args meth c cc nL own ret E b) (hm : xM E b N cf s.heap H locs) (hM : xMet l E b N y bytes maxL rt rm As cf (some (.long r)) P cf') (hcode : Cond.code y bytes maxL rt ∈ TB) {host : String} (hlk : (own, index, y, host) ∈ xNest) (hst : Cond.static y ∈ TB) (hini : Cond.initialized y.cls ∈ TB)
    (hd : y.cls ≠ "java/lang/invoke/MethodHandle" ∧ y.cls ≠ "java/lang/invoke/VarHandle" ∧ (parseMethodDescriptor y.desc).map (fun d => d.parameters.length) = some n) (hrc : rm.cells = 0) (hrs : rm.slots = 0) (hR : rm.frames + 1 ≤ R.frames ∧ 8 + (maxL + 11) + rm.locals ≤ R.locals) (hn : As.length = n) (hsz : ls.size = nL) (hst0 : st0 = As.reverse ++ rest) (hW : (rest.map fun v => v.category).sum ≤ 8) (hcs : cs ≤ R.cells ∧ sl ≤ R.slots) (hdg : decode cc pc = .ok (.invokestatic index, 3))
    (kk : ∀ (H1 : Heap) (locs1 : List Loc), P → xM E b N cf' s.heap H1 locs1 → W p l e R s m args below meth c H1 locs1 cs sl Q (F0 m (pc + 3) ls (.long r :: rest))) : W p l e R s m args below meth c H locs cs sl Q (F0 m pc ls st0) := x_callSN C hm hM hcode hlk hst hini hd hrc hrs hR hn hsz hst0 hW hcs hdg kk
theorem x_callSNr {r : Value} (C : xC p s m args meth c cc nL own ret E b) (hm : xM E b N cf s.heap H locs) (hM : xMet l E b N y bytes maxL rt rm As cf (some r) P cf') (hcode : Cond.code y bytes maxL rt ∈ TB) {host : String} (hlk : (own, index, y, host) ∈ xNest) (hst : Cond.static y ∈ TB) (hini : Cond.initialized y.cls ∈ TB)
    (hd : y.cls ≠ "java/lang/invoke/MethodHandle" ∧ y.cls ≠ "java/lang/invoke/VarHandle" ∧ (parseMethodDescriptor y.desc).map (fun d => d.parameters.length) = some n) (hrc : rm.cells = 0) (hrs : rm.slots = 0) (hR : rm.frames + 1 ≤ R.frames ∧ 8 + (maxL + 11) + rm.locals ≤ R.locals) (hn : As.length = n) (hsz : ls.size = nL) (hst0 : st0 = As.reverse ++ rest) (hW : (rest.map fun v => v.category).sum ≤ 8) (hcs : cs ≤ R.cells ∧ sl ≤ R.slots) (hdg : decode cc pc = .ok (.invokestatic index, 3))
    (kk : ∀ (H1 : Heap) (locs1 : List Loc), P → xM E b N cf' s.heap H1 locs1 → W p l e R s m args below meth c H1 locs1 cs sl Q (F0 m (pc + 3) ls (r :: rest))) : W p l e R s m args below meth c H locs cs sl Q (F0 m pc ls st0) := x_callSN C hm hM hcode hlk hst hini hd hrc hrs hR hn hsz hst0 hW hcs hdg kk
theorem x_callSNv (C : xC p s m args meth c cc nL own ret E b) (hm : xM E b N cf s.heap H locs) (hM : xMet l E b N y bytes maxL rt rm As cf none P cf') (hcode : Cond.code y bytes maxL rt ∈ TB) {host : String} (hlk : (own, index, y, host) ∈ xNest) (hst : Cond.static y ∈ TB) (hini : Cond.initialized y.cls ∈ TB)
    (hd : y.cls ≠ "java/lang/invoke/MethodHandle" ∧ y.cls ≠ "java/lang/invoke/VarHandle" ∧ (parseMethodDescriptor y.desc).map (fun d => d.parameters.length) = some n) (hrc : rm.cells = 0) (hrs : rm.slots = 0) (hR : rm.frames + 1 ≤ R.frames ∧ 8 + (maxL + 11) + rm.locals ≤ R.locals) (hn : As.length = n) (hsz : ls.size = nL) (hst0 : st0 = As.reverse ++ rest) (hW : (rest.map fun v => v.category).sum ≤ 8) (hcs : cs ≤ R.cells ∧ sl ≤ R.slots) (hdg : decode cc pc = .ok (.invokestatic index, 3))
    (kk : ∀ (H1 : Heap) (locs1 : List Loc), P → xM E b N cf' s.heap H1 locs1 → W p l e R s m args below meth c H1 locs1 cs sl Q (F0 m (pc + 3) ls rest)) : W p l e R s m args below meth c H locs cs sl Q (F0 m pc ls st0) := x_callSN C hm hM hcode hlk hst hini hd hrc hrs hR hn hsz hst0 hW hcs hdg kk
theorem x_callVi {r : Int32} (C : xC p s m args meth c cc nL own ret E b) (hm : xM E b N cf s.heap H locs) (hM : xMet l E b N y bytes maxL rt rm (.ref (b + k) :: As) cf (some (.int r)) P cf') {ci : Nat} {fs : List Value} {Cn : String} {T : u_T} {nf : Nat} (hcl : vwCl[ci]? = some (Cn, T, nf)) (hc : xat N cf k (.inr (ci, fs))) (hcode : Cond.code y bytes maxL rt ∈ TB) (hlk : Cond.methodLink own index y ∈ TB) (hst : Cond.instanceMethod y ∈ TB) (hse : Cond.selects Cn y y ∈ TB) (hini : Cond.initialized y.cls ∈ TB)
    (hd : y.cls ≠ "java/lang/invoke/MethodHandle" ∧ y.cls ≠ "java/lang/invoke/VarHandle" ∧ (parseMethodDescriptor y.desc).map (fun d => d.parameters.length) = some n) (hrc : rm.cells = 0) (hrs : rm.slots = 0) (hR : rm.frames + 1 ≤ R.frames ∧ 8 + (maxL + 11) + rm.locals ≤ R.locals) (hn : As.length = n) (hsz : ls.size = nL) (hst0 : st0 = As.reverse ++ .ref (b + k) :: rest) (hW : (rest.map fun v => v.category).sum ≤ 8) (hcs : cs ≤ R.cells ∧ sl ≤ R.slots) (hdg : decode cc pc = .ok (.invokevirtual index, 3))
    (kk : ∀ (H1 : Heap) (locs1 : List Loc), P → xM E b N cf' s.heap H1 locs1 → W p l e R s m args below meth c H1 locs1 cs sl Q (F0 m (pc + 3) ls (.int r :: rest))) : W p l e R s m args below meth c H locs cs sl Q (F0 m pc ls st0) := x_callV C hm hM hcl hc hcode hlk hst hse hini hd hrc hrs hR hn hsz hst0 hW hcs hdg kk
theorem x_callVAi {r : Int32} {ra : Nat} (C : xC p s m args meth c cc nL own ret E b) (hm : xM E b N cf s.heap H locs) (hM : xMet l E b N y bytes maxL rt rm (.ref ra :: As) cf (some (.int r)) P cf') {Cn : String} (hrv : ∃ cellB : Cell, H[ra]? = some cellB ∧ cellB.vm.isStatics = false ∧ s.vm.findClass Cn = some cellB.cls) (hcode : Cond.code y bytes maxL rt ∈ TB) (hlk : Cond.methodLink own index y ∈ TB) (hst : Cond.instanceMethod y ∈ TB) (hse : Cond.selects Cn y y ∈ TB) (hini : Cond.initialized y.cls ∈ TB)
    (hd : y.cls ≠ "java/lang/invoke/MethodHandle" ∧ y.cls ≠ "java/lang/invoke/VarHandle" ∧ (parseMethodDescriptor y.desc).map (fun d => d.parameters.length) = some n) (hrc : rm.cells = 0) (hrs : rm.slots = 0) (hR : rm.frames + 1 ≤ R.frames ∧ 8 + (maxL + 11) + rm.locals ≤ R.locals) (hn : As.length = n) (hsz : ls.size = nL) (hst0 : st0 = As.reverse ++ .ref ra :: rest) (hW : (rest.map fun v => v.category).sum ≤ 8) (hcs : cs ≤ R.cells ∧ sl ≤ R.slots) (hdg : decode cc pc = .ok (.invokevirtual index, 3))
    (kk : ∀ (H1 : Heap) (locs1 : List Loc), P → xM E b N cf' s.heap H1 locs1 → W p l e R s m args below meth c H1 locs1 cs sl Q (F0 m (pc + 3) ls (.int r :: rest))) : W p l e R s m args below meth c H locs cs sl Q (F0 m pc ls st0) := x_callVA C hm hM hrv hcode hlk hst hse hini hd hrc hrs hR hn hsz hst0 hW hcs hdg kk
theorem x_callVl {r : Int64} (C : xC p s m args meth c cc nL own ret E b) (hm : xM E b N cf s.heap H locs) (hM : xMet l E b N y bytes maxL rt rm (.ref (b + k) :: As) cf (some (.long r)) P cf') {ci : Nat} {fs : List Value} {Cn : String} {T : u_T} {nf : Nat} (hcl : vwCl[ci]? = some (Cn, T, nf)) (hc : xat N cf k (.inr (ci, fs))) (hcode : Cond.code y bytes maxL rt ∈ TB) (hlk : Cond.methodLink own index y ∈ TB) (hst : Cond.instanceMethod y ∈ TB) (hse : Cond.selects Cn y y ∈ TB) (hini : Cond.initialized y.cls ∈ TB)
    (hd : y.cls ≠ "java/lang/invoke/MethodHandle" ∧ y.cls ≠ "java/lang/invoke/VarHandle" ∧ (parseMethodDescriptor y.desc).map (fun d => d.parameters.length) = some n) (hrc : rm.cells = 0) (hrs : rm.slots = 0) (hR : rm.frames + 1 ≤ R.frames ∧ 8 + (maxL + 11) + rm.locals ≤ R.locals) (hn : As.length = n) (hsz : ls.size = nL) (hst0 : st0 = As.reverse ++ .ref (b + k) :: rest) (hW : (rest.map fun v => v.category).sum ≤ 8) (hcs : cs ≤ R.cells ∧ sl ≤ R.slots) (hdg : decode cc pc = .ok (.invokevirtual index, 3))
    (kk : ∀ (H1 : Heap) (locs1 : List Loc), P → xM E b N cf' s.heap H1 locs1 → W p l e R s m args below meth c H1 locs1 cs sl Q (F0 m (pc + 3) ls (.long r :: rest))) : W p l e R s m args below meth c H locs cs sl Q (F0 m pc ls st0) := x_callV C hm hM hcl hc hcode hlk hst hse hini hd hrc hrs hR hn hsz hst0 hW hcs hdg kk
theorem x_callVr {r : Value} (C : xC p s m args meth c cc nL own ret E b) (hm : xM E b N cf s.heap H locs) (hM : xMet l E b N y bytes maxL rt rm (.ref (b + k) :: As) cf (some r) P cf') {ci : Nat} {fs : List Value} {Cn : String} {T : u_T} {nf : Nat} (hcl : vwCl[ci]? = some (Cn, T, nf)) (hc : xat N cf k (.inr (ci, fs))) (hcode : Cond.code y bytes maxL rt ∈ TB) (hlk : Cond.methodLink own index y ∈ TB) (hst : Cond.instanceMethod y ∈ TB) (hse : Cond.selects Cn y y ∈ TB) (hini : Cond.initialized y.cls ∈ TB)
    (hd : y.cls ≠ "java/lang/invoke/MethodHandle" ∧ y.cls ≠ "java/lang/invoke/VarHandle" ∧ (parseMethodDescriptor y.desc).map (fun d => d.parameters.length) = some n) (hrc : rm.cells = 0) (hrs : rm.slots = 0) (hR : rm.frames + 1 ≤ R.frames ∧ 8 + (maxL + 11) + rm.locals ≤ R.locals) (hn : As.length = n) (hsz : ls.size = nL) (hst0 : st0 = As.reverse ++ .ref (b + k) :: rest) (hW : (rest.map fun v => v.category).sum ≤ 8) (hcs : cs ≤ R.cells ∧ sl ≤ R.slots) (hdg : decode cc pc = .ok (.invokevirtual index, 3))
    (kk : ∀ (H1 : Heap) (locs1 : List Loc), P → xM E b N cf' s.heap H1 locs1 → W p l e R s m args below meth c H1 locs1 cs sl Q (F0 m (pc + 3) ls (r :: rest))) : W p l e R s m args below meth c H locs cs sl Q (F0 m pc ls st0) := x_callV C hm hM hcl hc hcode hlk hst hse hini hd hrc hrs hR hn hsz hst0 hW hcs hdg kk
theorem x_callVv (C : xC p s m args meth c cc nL own ret E b) (hm : xM E b N cf s.heap H locs) (hM : xMet l E b N y bytes maxL rt rm (.ref (b + k) :: As) cf none P cf') {ci : Nat} {fs : List Value} {Cn : String} {T : u_T} {nf : Nat} (hcl : vwCl[ci]? = some (Cn, T, nf)) (hc : xat N cf k (.inr (ci, fs))) (hcode : Cond.code y bytes maxL rt ∈ TB) (hlk : Cond.methodLink own index y ∈ TB) (hst : Cond.instanceMethod y ∈ TB) (hse : Cond.selects Cn y y ∈ TB) (hini : Cond.initialized y.cls ∈ TB)
    (hd : y.cls ≠ "java/lang/invoke/MethodHandle" ∧ y.cls ≠ "java/lang/invoke/VarHandle" ∧ (parseMethodDescriptor y.desc).map (fun d => d.parameters.length) = some n) (hrc : rm.cells = 0) (hrs : rm.slots = 0) (hR : rm.frames + 1 ≤ R.frames ∧ 8 + (maxL + 11) + rm.locals ≤ R.locals) (hn : As.length = n) (hsz : ls.size = nL) (hst0 : st0 = As.reverse ++ .ref (b + k) :: rest) (hW : (rest.map fun v => v.category).sum ≤ 8) (hcs : cs ≤ R.cells ∧ sl ≤ R.slots) (hdg : decode cc pc = .ok (.invokevirtual index, 3))
    (kk : ∀ (H1 : Heap) (locs1 : List Loc), P → xM E b N cf' s.heap H1 locs1 → W p l e R s m args below meth c H1 locs1 cs sl Q (F0 m (pc + 3) ls rest)) : W p l e R s m args below meth c H locs cs sl Q (F0 m pc ls st0) := x_callV C hm hM hcl hc hcode hlk hst hse hini hd hrc hrs hR hn hsz hst0 hW hcs hdg kk
end XR
theorem xlet_x {α β : Type} {a : α} {k : α → β} {r : β} (h : xlet a k = r) : ∃ v, v = a ∧ k v = r := ⟨a, rfl, h⟩
theorem xap0 {γ : Type} {k f r : γ} (e : k = f) (h : k = r) : f = r := by rw [← e]; exact h
theorem xap1 {α γ : Type} {k f : α → γ} {a : α} {r : γ} (e : k = f) (h : k a = r) : f a = r := by rw [← e]; exact h
theorem xap2 {α β γ : Type} {k f : α → β → γ} {a : α} {b : β} {r : γ} (e : k = f) (h : k a b = r) : f a b = r := by rw [← e]; exact h
theorem xap3 {α β δ γ : Type} {k f : α → β → δ → γ} {a : α} {b : β} {d : δ} {r : γ} (e : k = f) (h : k a b d = r) : f a b d = r := by rw [← e]; exact h
theorem xap4 {α β δ ε γ : Type} {k f : α → β → δ → ε → γ} {a : α} {b : β} {d : δ} {g : ε} {r : γ} (e : k = f) (h : k a b d g = r) : f a b d g = r := by rw [← e]; exact h
theorem xap5 {α β δ ε ζ γ : Type} {k f : α → β → δ → ε → ζ → γ} {a : α} {b : β} {d : δ} {g : ε} {z : ζ} {r : γ} (e : k = f) (h : k a b d g z = r) : f a b d g z = r := by rw [← e]; exact h
def xb4 {α β δ ε γ : Type} (o : Option (α × β × δ × ε)) (k : α → β → δ → ε → Option γ) : Option γ := o.bind (fun q => k q.1 q.2.1 q.2.2.1 q.2.2.2)
def xb5 {α β δ ε ζ γ : Type} (o : Option (α × β × δ × ε × ζ)) (k : α → β → δ → ε → ζ → Option γ) : Option γ := o.bind (fun q => k q.1 q.2.1 q.2.2.1 q.2.2.2.1 q.2.2.2.2)
theorem xb4_e {α β δ ε γ : Type} {o : Option (α × β × δ × ε)} {k : α → β → δ → ε → Option γ} {r : γ} (h : xb4 o k = some r) : ∃ a b d g, o = some (a, b, d, g) ∧ k a b d g = some r := by
  cases o with
  | none => cases h
  | some a => exact ⟨a.1, a.2.1, a.2.2.1, a.2.2.2, rfl, h⟩
theorem xb5_e {α β δ ε ζ γ : Type} {o : Option (α × β × δ × ε × ζ)} {k : α → β → δ → ε → ζ → Option γ} {r : γ} (h : xb5 o k = some r) : ∃ a b d g z, o = some (a, b, d, g, z) ∧ k a b d g z = some r := by
  cases o with
  | none => cases h
  | some a => exact ⟨a.1, a.2.1, a.2.2.1, a.2.2.2.1, a.2.2.2.2, rfl, h⟩
def xs2 {α β γ : Type} (o : Option (α ⊕ β)) (k1 : α → Option γ) (k2 : β → Option γ) : Option γ := o.bind (fun q => match q with | .inl a => k1 a | .inr a => k2 a)
theorem xs2_e {α β γ : Type} {o : Option (α ⊕ β)} {k1 : α → Option γ} {k2 : β → Option γ} {r : γ} (h : xs2 o k1 k2 = some r) : (∃ q, o = some (.inl q) ∧ k1 q = some r) ∨ (∃ q, o = some (.inr q) ∧ k2 q = some r) := by
  match o, h with
  | some (.inl a), h => exact Or.inl ⟨a, rfl, h⟩
  | some (.inr a), h => exact Or.inr ⟨a, rfl, h⟩
def xs3 {α β δ γ : Type} (o : Option (α ⊕ β ⊕ δ)) (k1 : α → Option γ) (k2 : β → Option γ) (k3 : δ → Option γ) : Option γ := o.bind (fun q => match q with | .inl a => k1 a | .inr (.inl a) => k2 a | .inr (.inr a) => k3 a)
theorem xs3_e {α β δ γ : Type} {o : Option (α ⊕ β ⊕ δ)} {k1 : α → Option γ} {k2 : β → Option γ} {k3 : δ → Option γ} {r : γ} (h : xs3 o k1 k2 k3 = some r) : (∃ q, o = some (.inl q) ∧ k1 q = some r) ∨ (∃ q, o = some (.inr (.inl q)) ∧ k2 q = some r) ∨ (∃ q, o = some (.inr (.inr q)) ∧ k3 q = some r) := by
  match o, h with
  | some (.inl a), h => exact Or.inl ⟨a, rfl, h⟩
  | some (.inr (.inl a)), h => exact Or.inr (Or.inl ⟨a, rfl, h⟩)
  | some (.inr (.inr a)), h => exact Or.inr (Or.inr ⟨a, rfl, h⟩)
/-- how often a loop may go round at most -/
def xfuel : Nat := 100000
abbrev xm : Type := Nat → Nat → Int32
abbrev xn : Type := Nat → Nat → Int64
/-- a reference that may be null -/
abbrev xrf (b : Nat) (o : Option Nat) : Value := match o with
  | none => .null
  | some k => .ref (b + k)
def xopt {β : Type} (o : Option Nat) (a : β) (k : Nat → β) : β := match o with
  | none => a
  | some q => k q
theorem xopt_n {β : Type} {a r : β} {k : Nat → β} (h : xopt none a k = r) : a = r := h
theorem xopt_s {β : Type} {a r : β} {q : Nat} {k : Nat → β} (h : xopt (some q) a k = r) : k q = r := h
section XR2
variable {p : Program} {l : Launch} {e : Env} {R : Room} {s : State} {m : MethodId} {args : Array Value} {below : List Frame} {meth : Method} {c : Code} {H : Heap} {locs : List Loc} {cs sl : Nat} {Q : State → Prop}
variable {cc : ByteArray} {nL pc b N k : Nat} {own : String} {ret : Option FieldType} {E : xE} {ls : Array Slot} {rest : List Value} {cf cf' : Nat → va_E}
theorem x_aloadQ_n (hexec : p.tables.exec = Jvm.exec) (hb : c.code = cc) {k : Fin 4} {i : Nat} {o : Option Nat} (hdg : decode cc pc = .ok (.aload_n k, 1)) (hi : (k : Nat) = i) (hl : ls[i]? = some (.val (xrf b o)))
    (kk : W p l e R s m args below meth c H locs cs sl Q (F0 m (pc + 1) ls (xrf b o :: rest))) : W p l e R s m args below meth c H locs cs sl Q (F0 m pc ls rest) := by
  cases o with
  | none => exact lv_aload_nN hexec hb hdg hi hl kk
  | some q => exact lv_aload_n hexec hb hdg hi hl kk
theorem x_aloadQ (hexec : p.tables.exec = Jvm.exec) (hb : c.code = cc) {i : Nat} {o : Option Nat} (hdg : decode cc pc = .ok (.aload i, 2)) (hl : ls[i]? = some (.val (xrf b o)))
    (kk : W p l e R s m args below meth c H locs cs sl Q (F0 m (pc + 2) ls (xrf b o :: rest))) : W p l e R s m args below meth c H locs cs sl Q (F0 m pc ls rest) := by
  cases o with
  | none => exact lv_aloadN hexec hb hdg hl kk
  | some q => exact lv_aload hexec hb hdg hl kk
theorem x_astoreQ_n (hexec : p.tables.exec = Jvm.exec) (hb : c.code = cc) {k : Fin 4} {i nL : Nat} {o : Option Nat} {lv lv' : List (Nat × Value)} (hdg : decode cc pc = .ok (.astore_n k, 1)) (hi : (k : Nat) = i) (h : lv_has ls nL lv) (hn : i < nL) (hl : (i, xrf b o) :: lv.filter (fun q => !(q.1 == i) && !(q.1 + 1 == i && q.2.category == 2)) = lv')
    (kk : ∀ ls' : Array Slot, lv_has ls' nL lv' → W p l e R s m args below meth c H locs cs sl Q (F0 m (pc + 1) ls' rest)) : W p l e R s m args below meth c H locs cs sl Q (F0 m pc ls (xrf b o :: rest)) := by
  cases o with
  | none => exact lv_astore_nN hexec hb hdg hi h hn hl kk
  | some q => exact lv_astore_n hexec hb hdg hi h hn hl kk
theorem x_astoreQ (hexec : p.tables.exec = Jvm.exec) (hb : c.code = cc) {i nL : Nat} {o : Option Nat} {lv lv' : List (Nat × Value)} (hdg : decode cc pc = .ok (.astore i, 2)) (h : lv_has ls nL lv) (hn : i < nL) (hl : (i, xrf b o) :: lv.filter (fun q => !(q.1 == i) && !(q.1 + 1 == i && q.2.category == 2)) = lv')
    (kk : ∀ ls' : Array Slot, lv_has ls' nL lv' → W p l e R s m args below meth c H locs cs sl Q (F0 m (pc + 2) ls' rest)) : W p l e R s m args below meth c H locs cs sl Q (F0 m pc ls (xrf b o :: rest)) := by
  cases o with
  | none => exact lv_astoreN hexec hb hdg h hn hl kk
  | some q => exact lv_astore hexec hb hdg h hn hl kk
theorem x_ifnullQ (hexec : p.tables.exec = Jvm.exec) (hb : c.code = cc) {o : Option Nat} {off : Int} {tgt : Nat} (hdg : decode cc pc = .ok (.ifnull off, 3)) (ht : (pc : Int) + off = (tgt : Int))
    (kn : o = none → W p l e R s m args below meth c H locs cs sl Q (F0 m tgt ls rest)) (ks : ∀ q, o = some q → W p l e R s m args below meth c H locs cs sl Q (F0 m (pc + 3) ls rest)) : W p l e R s m args below meth c H locs cs sl Q (F0 m pc ls (xrf b o :: rest)) := by
  cases o with
  | none => exact lv_ifnullN hexec hb hdg ht (kn rfl)
  | some q => exact lv_ifnull hexec hb hdg (ks q rfl)
theorem x_ifnonnullQ (hexec : p.tables.exec = Jvm.exec) (hb : c.code = cc) {o : Option Nat} {off : Int} {tgt : Nat} (hdg : decode cc pc = .ok (.ifnonnull off, 3)) (ht : (pc : Int) + off = (tgt : Int))
    (kn : o = none → W p l e R s m args below meth c H locs cs sl Q (F0 m (pc + 3) ls rest)) (ks : ∀ q, o = some q → W p l e R s m args below meth c H locs cs sl Q (F0 m tgt ls rest)) : W p l e R s m args below meth c H locs cs sl Q (F0 m pc ls (xrf b o :: rest)) := by
  cases o with
  | none => exact lv_ifnonnullN hexec hb hdg (kn rfl)
  | some q => exact lv_ifnonnull hexec hb hdg ht (ks q rfl)
theorem x_aald (C : xC p s m args meth c cc nL own ret E b) (hm : xM E b N cf s.heap H locs) {n t0 : Nat} {Cn : String} {f : Nat → Option Nat} {d : Nat → Nat} (hc : xat N cf k (.inl (E.2 t0, n, .inr (.inr (.inr (.inr f)))))) (ht : (xtys E)[t0]? = some (E.2 t0, .object Cn)) {i : Int32} (hin : xin i n = true) (hf : f i.toNatClampNeg = some (b + d i.toNatClampNeg)) (hdg : decode cc pc = .ok (.aaload, 1))
    (kk : W p l e R s m args below meth c H locs cs sl Q (F0 m (pc + 1) ls (.ref (b + d i.toNatClampNeg) :: rest))) : W p l e R s m args below meth c H locs cs sl Q (F0 m pc ls (.int i :: .ref (b + k) :: rest)) := by
  refine va_aldq C.1.1 C.1.2.1 C.2.1 hm.1 k t0 hc.g ht (xin_p hin) hdg ?_
  rw [hf]
  exact kk
theorem x_zast (C : xC p s m args meth c cc nL own ret E b) (hm : xM E b N cf s.heap H locs) {n : Nat} {f : Nat → Int32} (hc : xat N cf k (.inl (E.2 2, n, .inl f))) {i x : Int32} (hin : xin i n = true) (hbo : xbo x = true) (hdg : decode cc pc = .ok (.bastore, 1)) {j : Nat} (hj : i.toNatClampNeg = j) (hc' : cf' k = .inl (E.2 2, n, .inl (upd f j x))) (ho : ∀ q, q ≠ k → cf' q = cf q)
    (kk : ∀ (H1 : Heap) (locs1 : List Loc), xM E b N cf' s.heap H1 locs1 → W p l e R s m args below meth c H1 locs1 cs sl Q (F0 m (pc + 1) ls rest)) : W p l e R s m args below meth c H locs cs sl Q (F0 m pc ls (.int x :: .int i :: .ref (b + k) :: rest)) := by
  subst hj
  have hx : vp_nar .boolean x = x := by unfold vp_nar; rw [xbo_n hbo]
  exact va_zast C.1.1 C.1.2.1 C.2.1 hm.1 xw_D hm.2 k 2 hc.g rfl (xin_p hin) hdg (fun H1 locs1 hP _ hS => kk H1 locs1 ⟨by rw [hx, xw_set hc.1 hc' ho] at hP; exact hP, hS⟩)
theorem x_last (C : xC p s m args meth c cc nL own ret E b) (hm : xM E b N cf s.heap H locs) {n : Nat} {f : Nat → Int64} (hc : xat N cf k (.inl (E.2 1, n, .inr (.inl f)))) {i : Int32} {x : Int64} (hin : xin i n = true) (hdg : decode cc pc = .ok (.lastore, 1)) {j : Nat} (hj : i.toNatClampNeg = j) (hc' : cf' k = .inl (E.2 1, n, .inr (.inl (vp_updL f j x)))) (ho : ∀ q, q ≠ k → cf' q = cf q)
    (kk : ∀ (H1 : Heap) (locs1 : List Loc), xM E b N cf' s.heap H1 locs1 → W p l e R s m args below meth c H1 locs1 cs sl Q (F0 m (pc + 1) ls rest)) : W p l e R s m args below meth c H locs cs sl Q (F0 m pc ls (.long x :: .int i :: .ref (b + k) :: rest)) := by
  subst hj
  exact va_last C.1.1 C.1.2.1 C.2.1 hm.1 xw_D hm.2 k 1 hc.g rfl (xin_p hin) hdg (fun H1 locs1 hP _ hS => kk H1 locs1 ⟨by rw [xw_set hc.1 hc' ho] at hP; exact hP, hS⟩)
theorem x_alen (C : xC p s m args meth c cc nL own ret E b) (hm : xM E b N cf s.heap H locs) {n : Nat} {f : Nat → Int32} (hc : xat N cf k (.inl (E.2 0, n, .inl f))) {v : Int32} (hv : Int32.ofNat n = v) (hdg : decode cc pc = .ok (.arraylength, 1))
    (kk : W p l e R s m args below meth c H locs cs sl Q (F0 m (pc + 1) ls (.int v :: rest))) : W p l e R s m args below meth c H locs cs sl Q (F0 m pc ls (.ref (b + k) :: rest)) :=
  va_alen C.1.1 C.1.2.1 C.2.1 hm.1 k 0 hc.g (ty := .int) rfl hv hdg kk
theorem x_aret {P : Prop} {v : Value} {rt : FieldType} (C : xC p s m args meth c cc nL own (some rt) E b) (hm : xM E b N cf s.heap H locs) (hP : P) (hrt : (∃ n, rt = .object n) ∨ ∃ t, rt = .array t) (hv : v = .null ∨ ∃ a, v = .ref a) (hdg : decode cc pc = .ok (.areturn, 1)) :
    W p l e R s m args below meth c H locs cs sl (MQ below (xQ E b N (some v) P cf) args s cs sl (xA b N)) (F0 m pc ls [v]) :=
  W.aret C.1.1 C.1.2.1 C.2.2.1 hrt hv (fun t ht hw => x_Q C hm hP t ht hw) (fun q h => x_free hm h) hdg C.2.2.2.1
theorem x_tabIn (hexec : p.tables.exec = Jvm.exec) (hb : c.code = cc) {dflt lo hi : Int} {offs : Array Int} {len : Nat} {x : Int32} {off : Int} {tgt : Nat} (v : Int32) (h : x = v) (hdg : decode cc pc = .ok (.tableswitch dflt lo hi offs, len)) (h1 : ¬ v.toInt < lo) (h2 : ¬ hi < v.toInt) (ho : offs[(v.toInt - lo).toNat]? = some off) (ht : (pc : Int) + off = (tgt : Int))
    (k : W p l e R s m args below meth c H locs cs sl Q (F0 m tgt ls rest)) : W p l e R s m args below meth c H locs cs sl Q (F0 m pc ls (.int x :: rest)) := by
  subst h
  exact lv_tableIn hexec hb hdg h1 h2 ho ht k
theorem x_tabOut (hexec : p.tables.exec = Jvm.exec) (hb : c.code = cc) {dflt lo hi : Int} {offs : Array Int} {len : Nat} {x : Int32} {tgt : Nat} (hdg : decode cc pc = .ok (.tableswitch dflt lo hi offs, len)) (hl : -2147483648 ≤ lo ∧ hi ≤ 2147483647) (hne : ∀ i : Nat, (i : Int) ≤ hi - lo → ¬ x = Int32.ofInt (lo + i)) (ht : (pc : Int) + dflt = (tgt : Int))
    (k : W p l e R s m args below meth c H locs cs sl Q (F0 m tgt ls rest)) : W p l e R s m args below meth c H locs cs sl Q (F0 m pc ls (.int x :: rest)) := by
  refine lv_tableOut hexec hb hdg ?_ ht k
  rcases Int.lt_or_le x.toInt lo with h1 | h1
  · exact Or.inl h1
  · rcases Int.lt_or_le hi x.toInt with h2 | h2
    · exact Or.inr h2
    · refine absurd ?_ (hne (x.toInt - lo).toNat (by omega))
      have h3 : lo + ((x.toInt - lo).toNat : Int) = x.toInt := by omega
      rw [h3, Int32.ofInt_toInt]
end XR2
abbrev xrem (x y : Int32) : Int32 := x - x / y * y
abbrev xremL (x y : Int64) : Int64 := x - x / y * y
abbrev xushr (x y : Int32) : Int32 := (x.toUInt32 >>> (y.toUInt32 &&& Int32.toUInt32 31)).toInt32
abbrev xmax (x y : Int32) : Int32 := if x < y then y else x
abbrev xmin (x y : Int32) : Int32 := if y < x then y else x
abbrev xmaxL (x y : Int64) : Int64 := if y < x then x else y
abbrev xminL (x y : Int64) : Int64 := if y < x then y else x
theorem xin_lt {i : Int32} {n : Nat} (h : xin i n = true) : i.toNatClampNeg < n := by
  unfold xin at h
  rw [Bool.and_eq_true, decide_eq_true_eq, decide_eq_true_eq] at h
  exact h.2
def xcopy (M : xm) (k0 k1 n : Nat) : xm := fun q => if q = k1 then va_cpy (M k0) (M k1) 0 0 n else M q
theorem x_copy {p : Program} {l : Launch} {e : Env} {R : Room} {s : State} {m : MethodId} {args : Array Value} {below : List Frame} {meth : Method} {c : Code} {H : Heap} {locs : List Loc} {cs sl : Nat} {Q : State → Prop} {cc : ByteArray} {nL pc b N : Nat} {own : String} {ret : Option FieldType} {E : xE} {ls : Array Slot} {rest : List Value} {cf cf' : Nat → va_E}
    (C : xC p s m args meth c cc nL own ret E b) (hm : xM E b N cf s.heap H locs) (hsz : ls.size = nL) {index : Nat} (hlink : (Cond.methodLink own index arraycopyName).before args s = true) (hnat : (Cond.native arraycopyName).before args s = true) (hstat : (Cond.static arraycopyName).before args s = true) (hini : (Cond.initialized "java/lang/System").before args s = true)
    {k0 k1 n0 n1 : Nat} {f g : Nat → Int32} (hc0 : xat N cf k0 (.inl (E.2 0, n0, .inl f))) (hc1 : xat N cf k1 (.inl (E.2 0, n1, .inl g))) {n : Int32} {j : Nat} (h3 : ¬ n < 0) (hj : n.toNatClampNeg = j) (h4 : j ≤ n0) (h5 : j ≤ n1) (hframes : 1 ≤ R.frames) (hlocals : (rest.map fun v => v.category).sum + (nativeFrameWords "java/lang/System" "arraycopy" 5 + 11) ≤ R.locals) (hdg : decode cc pc = .ok (.invokestatic index, 3))
    (hc' : cf' k1 = .inl (E.2 0, n1, .inl (va_cpy f g 0 0 j))) (ho : ∀ q, q ≠ k1 → cf' q = cf q)
    (kk : ∀ (H1 : Heap) (locs1 : List Loc), xM E b N cf' s.heap H1 locs1 → W p l e R s m args below meth c H1 locs1 cs sl Q (F0 m (pc + 3) ls rest)) : W p l e R s m args below meth c H locs cs sl Q (F0 m pc ls (.int n :: .int 0 :: .ref (b + k1) :: .int 0 :: .ref (b + k0) :: rest)) := by
  subst hj
  exact va_copyi (ty := .int) (sp := 0) (dp := 0) C.1.1 C.1.2.1 (C.1.2.2.1.trans hsz.symm) C.1.2.2.2.1 hlink hnat hstat hini C.2.1 hm.1 xw_D hm.2 k0 k1 0 0 hc0.g hc1.g rfl rfl rfl (by decide) (by decide) h3 (by rw [show (0 : Int32).toNatClampNeg = 0 from rfl, Nat.zero_add]; exact h4) (by rw [show (0 : Int32).toNatClampNeg = 0 from rfl, Nat.zero_add]; exact h5) (fun i _ => rfl) hframes hlocals hdg
    (fun H1 locs1 hP _ hS => kk H1 locs1 ⟨by rw [show (0 : Int32).toNatClampNeg = 0 from rfl, xw_set hc1.1 hc' ho] at hP; exact hP, hS⟩)
theorem x_lookIn {p : Program} {l : Launch} {e : Env} {R : Room} {s : State} {m : MethodId} {args : Array Value} {below : List Frame} {meth : Method} {c : Code} {H : Heap} {locs : List Loc} {cs sl : Nat} {Q : State → Prop} {cc : ByteArray} {pc : Nat} {ls : Array Slot} {rest : List Value} (hexec : p.tables.exec = Jvm.exec) (hb : c.code = cc) {dflt : Int} {ps : Array (Int × Int)} {len : Nat} {x : Int32} {off : Int} {tgt : Nat} (v : Int32) (h : x = v) (hdg : decode cc pc = .ok (.lookupswitch dflt ps, len)) (hp : (ps.toList.zip (ps.toList.drop 1)).all (fun (a, next) => a.1 < next.1) = true) (ho : Op.lookupswitch.offset ps.toList dflt v.toInt = off) (ht : (pc : Int) + off = (tgt : Int))
    (k : W p l e R s m args below meth c H locs cs sl Q (F0 m tgt ls rest)) : W p l e R s m args below meth c H locs cs sl Q (F0 m pc ls (.int x :: rest)) := by
  subst h
  exact lv_lookup hexec hb hdg hp ho ht k
theorem x_lookD : ∀ (ps : List (Int × Int)) (dflt : Int) (x : Int32), (∀ q ∈ ps, ¬ x = Int32.ofInt q.1) → Op.lookupswitch.offset ps dflt x.toInt = dflt
  | [], _, _, _ => rfl
  | (a, o) :: r, dflt, x, h => by
    rw [Op.lookupswitch.offset_cons, if_neg, x_lookD r dflt x (fun q hq => h q (List.mem_cons_of_mem _ hq))]
    intro e
    exact h (a, o) List.mem_cons_self (by show x = Int32.ofInt a; rw [e, Int32.ofInt_toInt])
section XS
variable {p : Program} {l : Launch} {e : Env} {R : Room} {s : State} {m : MethodId} {args : Array Value} {below : List Frame} {meth : Method} {c : Code} {H : Heap} {locs : List Loc} {cs sl : Nat} {Q : State → Prop}
variable {cc : ByteArray} {nL pc b N : Nat} {own : String} {ret : Option FieldType} {E : xE} {ls : Array Slot} {rest : List Value} {cf : Nat → va_E}
theorem xS_wide {H0 : Heap} (hm : xM E b N cf H0 H locs) : va_S (fun q => b ≤ q) H0 H locs := ⟨hm.2.1, fun q h1 h2 => x_kp hm q h1 h2, fun q h => (hm.2.2.2 q h).1⟩
theorem xs_val (C : xC p s m args meth c cc nL own ret E b) (hm : xM E b N cf s.heap H locs) {i index : Nat} (hi : i < 2) (hlink : Cond.fieldLink own index "java/lang/String" "value" "[B" ∈ TB) (hdg : decode cc pc = .ok (.getfield index, 3))
    (kk : W p l e R s m args below meth c H locs cs sl Q (F0 m (pc + 3) ls (.ref (E.2 (20 + i)) :: rest))) : W p l e R s m args below meth c H locs cs sl Q (F0 m pc ls (.ref (E.2 (10 + i)) :: rest)) :=
  vk_getf C.1.1 C.1.2.1 (C.2.2.2.2.2.1.1 i hi).2.2.1 (xS_wide hm) C.1.2.2.2.1 (C.1.2.2.2.2 _ hlink) (fun _ h => h) hdg kk
theorem xs_cod (C : xC p s m args meth c cc nL own ret E b) (hm : xM E b N cf s.heap H locs) {i index : Nat} (hi : i < 2) (hlink : Cond.fieldLink own index "java/lang/String" "coder" "B" ∈ TB) (hdg : decode cc pc = .ok (.getfield index, 3))
    (kk : W p l e R s m args below meth c H locs cs sl Q (F0 m (pc + 3) ls (.int 0 :: rest))) : W p l e R s m args below meth c H locs cs sl Q (F0 m pc ls (.ref (E.2 (10 + i)) :: rest)) :=
  vk_getf C.1.1 C.1.2.1 (C.2.2.2.2.2.1.1 i hi).2.1 (xS_wide hm) C.1.2.2.2.1 (C.1.2.2.2.2 _ hlink) (fun _ h => h) hdg kk
theorem xs_len (C : xC p s m args meth c cc nL own ret E b) (hm : xM E b N cf s.heap H locs) {i : Nat} (hi : i < 2) {v : Int32} (hv : Int32.ofNat (sLen i) = v) (hdg : decode cc pc = .ok (.arraylength, 1))
    (kk : W p l e R s m args below meth c H locs cs sl Q (F0 m (pc + 1) ls (.int v :: rest))) : W p l e R s m args below meth c H locs cs sl Q (F0 m pc ls (.ref (E.2 (20 + i)) :: rest)) :=
  va_tlen C.1.1 C.1.2.1 (C.2.2.2.2.2.1.1 i hi).2.2.2 (xS_wide hm) hv hdg kk
theorem xs_byte (C : xC p s m args meth c cc nL own ret E b) (hm : xM E b N cf s.heap H locs) {i : Nat} (hi : i < 2) {x : Int32} (hin : xin x (sLen i) = true) (hdg : decode cc pc = .ok (.baload, 1))
    (kk : W p l e R s m args below meth c H locs cs sl Q (F0 m (pc + 1) ls (.int (sByte i x.toNatClampNeg) :: rest))) : W p l e R s m args below meth c H locs cs sl Q (F0 m pc ls (.int x :: .ref (E.2 (20 + i)) :: rest)) :=
  va_tb C.1.1 C.1.2.1 (C.2.2.2.2.2.1.1 i hi).2.2.2 (xS_wide hm) (xin_p hin) rfl hdg kk
theorem xs_comp (C : xC p s m args meth c cc nL own ret E b) (hm : xM E b N cf s.heap H locs) {index : Nat} (hlink : Cond.fieldLink own index "java/lang/String" "COMPACT_STRINGS" "Z" ∈ TB) (hdg : decode cc pc = .ok (.getstatic index, 3))
    (kk : W p l e R s m args below meth c H locs cs sl Q (F0 m (pc + 3) ls (.int 1 :: rest))) : W p l e R s m args below meth c H locs cs sl Q (F0 m pc ls rest) :=
  va_gets C.1.1 C.1.2.1 C.2.2.2.2.2.2.2.2.1 (xS_wide hm) C.1.2.2.2.1 (C.1.2.2.2.2 _ hlink) (fun _ h => h) hdg kk
theorem xs_sio (C : xC p s m args meth c cc nL own ret E b) : ∃ z : Value, (z = .null ∨ ∃ t, z = .ref t) ∧ va_Z "jdk/internal/util/Preconditions" "SIOOBE_FORMATTER" "Ljava/util/function/BiFunction;" z (fun q => b ≤ q) s s.heap := by
  rcases C.2.2.2.2.2.2.2.2.2 with h | ⟨t, h⟩
  · exact ⟨_, Or.inl rfl, h⟩
  · exact ⟨_, Or.inr ⟨t, rfl⟩, h⟩
theorem xs_recv (C : xC p s m args meth c cc nL own ret E b) (hm : xM E b N cf s.heap H locs) {i : Nat} (hi : i < 2) : ∃ cellB : Cell, H[E.2 (10 + i)]? = some cellB ∧ cellB.vm.isStatics = false ∧ s.vm.findClass "java/lang/String" = some cellB.cls :=
  vk_recv (adK := fun i => E.2 (10 + i)) (i := i) C.2.2.2.2.2.1 hi (xS_wide hm)
theorem x_nret {P : Prop} {v : Int32} {ty : FieldType} (C : xC p s m args meth c cc nL own (some ty) E b) (hm : xM E b N cf s.heap H locs) (hP : P) (hn : narrow ty (.int v) = .int v) (hdg : decode cc pc = .ok (.ireturn, 1)) :
    W p l e R s m args below meth c H locs cs sl (MQ below (xQ E b N (some (.int v)) P cf) args s cs sl (xA b N)) (F0 m pc ls [.int v]) :=
  W.zret C.1.1 C.1.2.1 C.2.2.1 hn (fun t ht hw => x_Q C hm hP t ht hw) (fun q h => x_free hm h) hdg C.2.2.2.1
end XS
