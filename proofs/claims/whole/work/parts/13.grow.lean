/-! making: cells come one behind the other -/
def dE : va_E := .inl (0, 0, .inl (fun _ => 0))
def cfL (L : List va_E) : Nat → va_E := fun j => L.getD j dE
theorem xw_congr {a n : Nat} {cf cf' : Nat → va_E} (h : ∀ j, j < n → cf j = cf' j) : xw a n cf = xw a n cf' := by
  unfold xw
  apply List.map_congr_left
  intro k hk
  rw [h k (List.mem_range.mp hk)]
theorem xw_app {a n : Nat} {cf : Nat → va_E} : xw a (n + 1) cf = xw a n cf ++ [(a + n, cf n)] := by
  unfold xw
  rw [List.range_succ, List.map_append]
  rfl
theorem cfL_old {L M : List va_E} {j : Nat} (h : j < L.length) : cfL (L ++ M) j = cfL L j := by
  unfold cfL
  rw [List.getD_eq_getElem?_getD, List.getD_eq_getElem?_getD, List.getElem?_append_left h]
theorem cfL_new {L M : List va_E} {j : Nat} : cfL (L ++ M) (L.length + j) = cfL M j := by
  unfold cfL
  rw [List.getD_eq_getElem?_getD, List.getD_eq_getElem?_getD, List.getElem?_append_right (Nat.le_add_right _ _), Nat.add_sub_cancel_left]
theorem cfL_at {L : List va_E} {k : Nat} {e : va_E} (h : L[k]? = some e) : xat L.length (cfL L) k e := by
  refine ⟨(List.getElem?_eq_some_iff.mp h).1, ?_⟩
  unfold cfL
  rw [List.getD_eq_getElem?_getD, h]
  rfl
theorem cfL_set {L : List va_E} {k : Nat} {e : va_E} (h : k < L.length) : cfL (L.set k e) k = e := by
  unfold cfL
  rw [List.getD_eq_getElem?_getD, List.getElem?_set_self h]
  rfl
theorem cfL_seto {L : List va_E} {k : Nat} {e : va_E} : ∀ q, q ≠ k → cfL (L.set k e) q = cfL L q := by
  intro q h
  unfold cfL
  rw [List.getD_eq_getElem?_getD, List.getD_eq_getElem?_getD, List.getElem?_set_ne (fun x => h x.symm)]
theorem xL_app {a : Nat} {L : List va_E} {e : va_E} : xw a (L ++ [e]).length (cfL (L ++ [e])) = xw a L.length (cfL L) ++ [(a + L.length, e)] := by
  rw [List.length_append, show [e].length = 1 from rfl, xw_app, xw_congr (cf' := cfL L) (fun j hj => cfL_old hj)]
  rw [show cfL (L ++ [e]) L.length = e from by have h := cfL_new (L := L) (M := [e]) (j := 0); rw [Nat.add_zero] at h; rw [h]; rfl]
theorem xL_cat {a : Nat} {L M : List va_E} : xw a (L ++ M).length (cfL (L ++ M)) = xw a L.length (cfL L) ++ xw (a + L.length) M.length (cfL M) := by
  induction M generalizing L a with
  | nil => simp [xw]
  | cons e M ih =>
    have h : L ++ e :: M = (L ++ [e]) ++ M := by simp
    rw [h, ih, xL_app]
    have h2 := ih (L := [e]) (a := a + L.length)
    rw [List.singleton_append] at h2
    rw [h2, List.append_assoc]
    congr 1
    rw [show xw (a + L.length) [e].length (cfL [e]) = [(a + L.length, e)] from by have h3 := xL_app (a := a + L.length) (L := []) (e := e); simpa [xw] using h3]
    rw [List.length_append]
    rfl
/-- what has been made from a on -/
def xL (E : xE) (a : Nat) (L : List va_E) (H0 H : Heap) (locs : List Loc) : Prop := xM E a L.length (cfL L) H0 H locs
theorem xA_le {a n m q : Nat} (h : n ≤ m) (hq : xA a n q) : xA a m q := ⟨hq.1, Nat.lt_of_lt_of_le hq.2 (Nat.add_le_add_left h a)⟩
theorem va_S.wide {A B : Nat → Prop} {H0 H : Heap} {locs : List Loc} (h : va_S A H0 H locs) (hAB : ∀ q, A q → B q) : va_S B H0 H locs := ⟨h.1, fun q h1 h2 => h.2.1 q h1 (fun z => h2 (hAB q z)), fun l hl => hAB _ (h.2.2 l hl)⟩
section XGR
variable {p : Program} {l : Launch} {e : Env} {R : Room} {s : State} {m : MethodId} {args : Array Value} {below : List Frame} {meth : Method} {c : Code} {H : Heap} {locs : List Loc} {cs sl : Nat} {Q : State → Prop}
variable {cc : ByteArray} {nL pc b N k : Nat} {own : String} {ret : Option FieldType} {E : xE} {ls : Array Slot} {rest : List Value} {cf cf' : Nat → va_E}
theorem x_putF (C : xC p s m args meth c cc nL own ret E b) (hm : xM E b N cf s.heap H locs) (hinit : meth.name = "<init>") {Cn : String} {T : u_T} {n ci index : Nat} (hin : ∀ w ∈ u_ws Cn T n, w ∈ TB) (ty0 : Nat → FieldType) (hty : ∀ k, k < n → parseFieldDescriptor (T k).2.2.1 = some (ty0 k)) (hnm : ∀ a, a < n → ∀ b, b < n → a ≠ b → (T a).2.1 ≠ (T b).2.1) (hcl : vwCl[ci]? = some (Cn, T, n)) (j : Nat) (hj : j < n) (hlink : Cond.fieldLink own index (T j).1 (T j).2.1 (T j).2.2.1 ∈ TB) (hfin : (T j).2.2.2 = true) (hdecl : (T j).1 = own) {v : Value} (hn : narrow (ty0 j) v = v) (hfit : fits (ty0 j) v = true) {fs : List Value} (hc : xat N cf k (.inr (ci, fs))) (hl : j < fs.length) (hc' : cf' k = .inr (ci, fs.set j v)) (ho : ∀ q, q ≠ k → cf' q = cf q) (hdg : decode cc pc = .ok (.putfield index, 3))
    (kk : ∀ (H1 : Heap) (locs1 : List Loc), xM E b N cf' s.heap H1 locs1 → W p l e R s m args below meth c H1 locs1 cs sl Q (F0 m (pc + 3) ls rest)) : W p l e R s m args below meth c H locs cs sl Q (F0 m pc ls (v :: .ref (b + k) :: rest)) :=
  va_putF C.1.1 C.1.2.1 C.1.2.2.2.2 hin ty0 hty hnm C.1.2.2.2.1 C.2.1 hm.1 xw_D hm.2 k hc.g hcl j hj (C.1.2.2.2.2 _ hlink) (fun _ h => h) hfin hinit hdecl (hty j hj) hn hfit hl hdg (fun H1 locs1 hP _ hS => kk H1 locs1 ⟨by rw [xw_set hc.1 hc' ho] at hP; exact hP, hS⟩)
theorem x_aast (C : xC p s m args meth c cc nL own ret E b) (hm : xM E b N cf s.heap H locs) {t0 ci n k2 : Nat} {r : vw_C} {vs : List Value} {f : Nat → Option Nat} (hc : xat N cf k (.inl (E.2 t0, n, .inr (.inr (.inr (.inr f)))))) (ht : (xtys E)[t0]? = some (E.2 t0, .object r.1)) (hv : xat N cf k2 (.inr (ci, vs))) (hcl : vwCl[ci]? = some r) {i : Int32} (hin : xin i n = true) (hdg : decode cc pc = .ok (.aastore, 1)) (hc' : cf' k = .inl (E.2 t0, n, .inr (.inr (.inr (.inr (va_up f i.toNatClampNeg (some (b + k2)))))))) (ho : ∀ q, q ≠ k → cf' q = cf q)
    (kk : ∀ (H1 : Heap) (locs1 : List Loc), xM E b N cf' s.heap H1 locs1 → W p l e R s m args below meth c H1 locs1 cs sl Q (F0 m (pc + 1) ls rest)) : W p l e R s m args below meth c H locs cs sl Q (F0 m pc ls (.ref (b + k2) :: .int i :: .ref (b + k) :: rest)) :=
  va_astq C.1.1 C.1.2.1 C.2.1 hm.1 xw_D hm.2 k t0 k2 ci hc.g ht hv.g hcl (xin_p hin) hdg (fun H1 locs1 hP _ hS => kk H1 locs1 ⟨by rw [xw_set hc.1 hc' ho] at hP; exact hP, hS⟩)
/-- how many cells there are, out of the count of those that were made -/
theorem g_size {g : JFrame} {a n : Nat} (hm : xM E a (n + 1) cf s.heap H locs) (hs : s.heap.size + cs = a + (n + 1)) (kk : H.size = a + (n + 1) → W p l e R s m args below meth c H locs cs sl Q g) : W p l e R s m args below meth c H locs cs sl Q g := by
  intro T hT X
  refine kk ?_ T hT X
  have h1 := X.heapSize
  rw [hT, hs] at h1
  have h2 := (hm.1 n _ (xw_get (Nat.lt_succ_self n))).lt
  have h3 : (a + n, cf n).1 = a + n := rfl
  omega
theorem g_new {a : Nat} {L : List va_E} (C : xC p s m args meth c cc nL own ret E b) (hm : xL E a L s.heap H locs) (hH : H.size = a + L.length) {Cn : String} {T : u_T} {n ci index : Nat} (hin : ∀ w ∈ u_ws Cn T n, w ∈ TB) (ty : Nat → FieldType) (hty : ∀ k, k < n → parseFieldDescriptor (T k).2.2.1 = some (ty k)) (hlink : Cond.classLink own index Cn ∈ TB) (hinst : Cond.instantiable Cn n ∈ TB) (hini : Cond.initialized Cn ∈ TB) (hcl : vwCl[ci]? = some (Cn, T, n)) {fs : List Value} (hfs : ∀ j, j < n → defaultValue (ty j) = vp_V fs j) (hcells : cs + 1 ≤ R.cells) (hslots : sl + n ≤ R.slots) (hdg : decode cc pc = .ok (.new index, 3))
    (kk : ∀ H1 : Heap, xL E a (L ++ [.inr (ci, fs)]) s.heap H1 locs → W p l e R s m args below meth c H1 locs (cs + 1) (sl + n) Q (F0 m (pc + 3) ls (.ref (a + L.length) :: rest))) : W p l e R s m args below meth c H locs cs sl Q (F0 m pc ls rest) := by
  have hts := C.1.2.2.2.2
  have hKn := C.2.1.1 ci _ hcl
  refine W.newcK C.1.1 C.1.2.1 C.1.2.2.2.1 (hts _ hlink) (hts _ hinst) (hts _ hini) rfl hdg hcells hslots hKn.2.1 hH fun H1 kC hkC e1 z1 o1 => ?_
  refine kk H1 ⟨?_, ⟨Nat.le_trans hm.2.1 (by omega), fun q h1 h2 => (o1 q (by have := hm.2.1; omega)).trans (hm.2.2.1 q h1 (fun z => h2 (xA_le (by simp) z))), fun q h => xA_le (by simp) (hm.2.2.2 q h)⟩⟩
  rw [xL_app]
  refine (hm.1.kept (fun k x hx => o1 x.1 (by have := (hm.1 k x hx).lt; omega))).app (fun k x hx => ?_)
  have hz : k < 1 := (List.getElem?_eq_some_iff.mp hx).1
  rw [show k = 0 by omega] at hx
  cases hx
  exact ⟨_, hcl, (u_born ty hts hin hKn hkC e1 hty).to hfs⟩
theorem g_newp {a : Nat} {L : List va_E} (C : xC p s m args meth c cc nL own ret E b) (hm : xL E a L s.heap H locs) (hH : H.size = a + L.length) {atype : ArrayType} {ty : FieldType} (t0 : Nat) (hty : newarray.typeOf atype = ty) (harr : Cond.arrayClass ty ∈ TB) (ht : (xtys E)[t0]? = some (E.2 t0, ty)) (hra : ∀ cA : ClassId, va_RA s cA ty → s.vm.findClass ("[" ++ ty.toString) = some cA) {n : Int32} {N' : Nat} {a0 : vp_A} (ha : ∀ cA : ClassId, vp_cell cA a0 = arrV cA N' (fun _ => defaultValue ty)) (hn : ¬ n < 0) (hN : n.toNatClampNeg = N') (hbytes : N' * componentBytes ty ≤ 536870912) (hcells : cs + 1 ≤ R.cells) (hslots : sl + N' ≤ R.slots) (hdg : decode cc pc = .ok (.newarray atype, 2))
    (kk : ∀ H1 : Heap, xL E a (L ++ [.inl (E.2 t0, a0)]) s.heap H1 locs → W p l e R s m args below meth c H1 locs (cs + 1) (sl + N') Q (F0 m (pc + 2) ls (.ref (a + L.length) :: rest))) : W p l e R s m args below meth c H locs cs sl Q (F0 m pc ls (.int n :: rest)) := by
  subst hty
  have hts := C.1.2.2.2.2
  refine va_newaK C.1.1 C.1.2.1 (hts _ harr) rfl hdg rfl hn hN hbytes hcells hslots hH fun H1 cA e1 z1 o1 hAr hNm => ?_
  have hcA : cA = E.2 t0 := Option.some.inj (hNm.symm.trans (hra _ (C.2.1.2 t0 _ ht).2))
  subst hcA
  refine kk H1 ⟨?_, ⟨Nat.le_trans hm.2.1 (by omega), fun q h1 h2 => (o1 q (by have := hm.2.1; omega)).trans (hm.2.2.1 q h1 (fun z => h2 (xA_le (by simp) z))), fun q h => xA_le (by simp) (hm.2.2.2 q h)⟩⟩
  rw [xL_app]
  refine (hm.1.kept (fun k x hx => o1 x.1 (by have := (hm.1 k x hx).lt; omega))).app (fun k x hx => ?_)
  have hz : k < 1 := (List.getElem?_eq_some_iff.mp hx).1
  rw [show k = 0 by omega] at hx
  cases hx
  show H1[a + L.length]? = some (vp_cell _ _)
  rw [e1, ha]
theorem g_newq {a : Nat} {L : List va_E} (C : xC p s m args meth c cc nL own ret E b) (hm : xL E a L s.heap H locs) (hH : H.size = a + L.length) {Cn : String} {index : Nat} (t0 : Nat) (hlink : Cond.classLink own index Cn ∈ TB) (hover : va_AO Cn s) (ht : (xtys E)[t0]? = some (E.2 t0, .object Cn)) {n : Int32} {N' : Nat} (hn : ¬ n < 0) (hN : n.toNatClampNeg = N') (hbytes : N' * 4 ≤ 536870912) (hcells : cs + 1 ≤ R.cells) (hslots : sl + N' ≤ R.slots) (hdg : decode cc pc = .ok (.anewarray index, 3))
    (kk : ∀ H1 : Heap, xL E a (L ++ [.inl (E.2 t0, N', .inr (.inr (.inr (.inr (fun _ => none)))))]) s.heap H1 locs → W p l e R s m args below meth c H1 locs (cs + 1) (sl + N') Q (F0 m (pc + 3) ls (.ref (a + L.length) :: rest))) : W p l e R s m args below meth c H locs cs sl Q (F0 m pc ls (.int n :: rest)) := by
  subst hN
  have hts := C.1.2.2.2.2
  refine W.anew C.1.1 C.1.2.1 C.1.2.2.2.1 (hts _ hlink) (va_AO.use hover) rfl hdg rfl hn hbytes hcells hslots fun cA kA comp f1 f2 f3 f4 => ?_
  obtain ⟨kA', comp', -, -, -, k4⟩ := (C.2.1.2 t0 _ ht).2
  have hcA : cA = E.2 t0 := Option.some.inj (f1.symm.trans k4)
  subst hcA
  generalize hH1 : H.push ({ cls := E.2 t0, slots := Array.replicate n.toNatClampNeg .null, vm := .none } : Cell) = H1
  have z1 : H1.size = H.size + 1 := by rw [← hH1, Array.size_push]
  have e1 : H1[H.size]? = some (arrV (E.2 t0) n.toNatClampNeg (fun _ => .null)) := by rw [← hH1, Array.getElem?_push_size, ← arrV_new]
  have o1 : ∀ q : Nat, q < H.size → H1[q]? = H[q]? := fun q hq => by rw [← hH1, Array.getElem?_push, if_neg (Nat.ne_of_lt hq)]
  rw [hH]
  refine kk H1 ⟨?_, ⟨Nat.le_trans hm.2.1 (by omega), fun q h1 h2 => (o1 q (by have := hm.2.1; omega)).trans (hm.2.2.1 q h1 (fun z => h2 (xA_le (by simp) z))), fun q h => xA_le (by simp) (hm.2.2.2 q h)⟩⟩
  rw [xL_app]
  refine (hm.1.kept (fun k x hx => o1 x.1 ((hm.1 k x hx).lt))).app (fun k x hx => ?_)
  have hz : k < 1 := (List.getElem?_eq_some_iff.mp hx).1
  rw [show k = 0 by omega] at hx
  cases hx
  show H1[a + L.length]? = some (vp_cell _ _)
  rw [← hH, e1]
  rfl
end XGR
/-- a constructor: from its own fresh cell at a to the cells L -/
def gMet (l : Launch) (E : xE) (a : Nat) (y : MethodName) (cc : ByteArray) (nL : Nat) (rm : Room) (e0 : va_E) (L : List va_E) (mc ms : Nat) : Prop :=
  Met l y (.code y cc nL none :: TB) rm (va_Pc [.ref (a + 0)] (fun U => xPK E a 1 (cfL [e0]) U ∧ U.heap.size = a + 1)) (xQ E a L.length none True (cfL L)) mc ms (xA a L.length)
theorem gMet.ofW {l : Launch} {E : xE} {a : Nat} {y : MethodName} {cc : ByteArray} {nL : Nat} {rm : Room} {e0 : va_E} {L : List va_E} {mc ms : Nat} {own : String} (hy : plainName y.cls = true) (ho : y.cls = own) (hni : y.name = "<init>") (hn : 1 ≤ nL)
    (body : ∀ (p : Program) (e : Env) (s : State) (m : MethodId) (below : List Frame) (meth : Method) (c : Code) (H : Heap) (locs : List Loc) (ls : Array Slot), xC p s m [Value.ref (a + 0)].toArray meth c cc nL own none E a → meth.name = "<init>" → s.heap.size = a + 1 → xL E a [e0] s.heap H locs → lv_has ls nL [(0, .ref (a + 0))] →
      W p l e rm s m [Value.ref (a + 0)].toArray below meth c H locs 0 0 (MQ below (xQ E a L.length none True (cfL L)) [Value.ref (a + 0)].toArray s mc ms (xA a L.length)) (F0 m 0 ls [])) : gMet l E a y cc nL rm e0 L mc ms := by
  refine Met.ofW (cc := cc) (maxL := nL) (ret := none) hy rfl ?_
  intro p e s m args below meth c s₁ B hml hv
  obtain ⟨rfl, ⟨hP, hK, hNs, hTs⟩, hsz⟩ := hv
  have hts := atoms_spec (ws := .code y cc nL none :: TB) B.pre
  have hown : s.vm.findClass y.cls = some m.cls := findClass_of_methodNamed B.named
  rw [ho] at hown
  have hl := lv_entry [Value.ref (a + 0)] (n := nL) hn
  rw [lg_entry_eq]
  exact body p e s m below meth c _ _ _ ⟨⟨B.exec, B.bytes, hml, hown, fun w hw => hts w (List.mem_cons_of_mem _ hw)⟩, hK, B.returns, B.notSynchronized, hNs, hTs⟩ ((name_of_methodNamed B.named B.method).1.trans hni) hsz ⟨hP, va_S.rf⟩ hl
theorem va_Z.nar {C n d : String} {v : Value} {A B : Nat → Prop} {U : State} {H : Heap} (h : va_Z C n d v A U H) (hAB : ∀ q, B q → A q) : va_Z C n d v B U H := by
  obtain ⟨cf, kf, fi, f, a, cell, h1, h2, h3, h4, h5, h6, h7, h8⟩ := h
  exact ⟨cf, kf, fi, f, a, cell, h1, h2, h3, h4, h5, h6, h7, fun q => h8 (hAB a q)⟩
theorem xT.nar {E : xE} {b b' : Nat} {U : State} {H : Heap} (h : xT E b U H) (hb : b ≤ b') : xT E b' U H := ⟨h.1.narrow (fun q (hq : b' ≤ q) => Nat.le_trans hb hq), h.2.1, h.2.2.1, h.2.2.2.1.nar (fun q (hq : b' ≤ q) => Nat.le_trans hb hq), h.2.2.2.2.narrow (fun q (hq : b' ≤ q) => Nat.le_trans hb hq)⟩
theorem xL_last {E : xE} {a : Nat} {L0 : List va_E} {e0 : va_E} {H0 H : Heap} {locs : List Loc} (hm : xL E a (L0 ++ [e0]) H0 H locs) : va_P E.1 vwCl (xw (a + L0.length) 1 (cfL [e0])) H ∧ va_P E.1 vwCl (xw a L0.length (cfL L0)) H := by
  have h := hm.1
  rw [xL_cat] at h
  refine ⟨fun k q hq => ?_, fun k q hq => ?_⟩
  · exact h ((xw a L0.length (cfL L0)).length + k) q (by rw [List.getElem?_append_right (Nat.le_add_right _ _), Nat.add_sub_cancel_left]; exact hq)
  · exact h k q (by rw [List.getElem?_append_left (List.getElem?_eq_some_iff.mp hq).1]; exact hq)
section XGC
variable {p : Program} {l : Launch} {e : Env} {R : Room} {s : State} {m : MethodId} {args : Array Value} {below : List Frame} {meth : Method} {c : Code} {H : Heap} {locs : List Loc} {cs sl : Nat} {Q : State → Prop}
variable {cc : ByteArray} {nL pc a mc ms : Nat} {own : String} {ret : Option FieldType} {E : xE} {ls : Array Slot} {rest : List Value} {L0 L' : List va_E} {e0 : va_E}
theorem g_run {g : JFrame} {ar : Array Value} (hm : xL E a (L0 ++ [e0]) s.heap H locs) (hp' : 1 ≤ L'.length) (hr : va_Run p l e R s m args below meth c H locs cs sl mc ms g rest (xQ E (a + L0.length) L'.length none True (cfL L') ar) (xA (a + L0.length) L'.length))
    (kk : ∀ (H1 : Heap) (locs1 : List Loc), xL E a (L0 ++ L') s.heap H1 locs1 → W p l e R s m args below meth c H1 locs1 (cs + mc) (sl + ms) Q { g with pc := g.pc + 3, stack := rest }) : W p l e R s m args below meth c H locs cs sl Q g := by
  intro T hT X
  obtain ⟨v, st₀, t, T', L, h0, X', hL, e1, e2, ⟨hv, -, ⟨hp, hk, -⟩, hF⟩, st⟩ := hr T hT X
  cases hv
  have hS := hm.2
  have hlen : (L0 ++ L').length = L0.length + L'.length := List.length_append
  have hlen0 : (L0 ++ [e0]).length = L0.length + 1 := by simp
  have hsub : ∀ q, xA (a + L0.length) L'.length q → xA a (L0 ++ L').length q := fun q h => ⟨by have := h.1; omega, by have := h.2; rw [hlen]; omega⟩
  have hsub0 : ∀ q, xA a (L0 ++ [e0]).length q → xA a (L0 ++ L').length q := fun q h => ⟨h.1, by have := h.2; rw [hlen]; rw [hlen0] at this; omega⟩
  have hPn : va_P E.1 vwCl (xw a (L0 ++ L').length (cfL (L0 ++ L'))) T'.heap := by
    rw [xL_cat, e1]
    refine (va_P.kept (xL_last hm).2 (fun k q hq => ?_)).app hp
    obtain ⟨hk1, rfl⟩ := xw_of hq
    have hlt := ((xL_last hm).2 k _ hq).lt
    have hlt : a + k < H.size := hlt
    show t.heap[a + k]? = H[a + k]?
    rw [hF.2 (a + k) (by rw [h0]; exact hlt) (fun z => by have := z.1; omega), h0]
  obtain ⟨t2, a1, b1⟩ := kk T'.heap (locs ++ L) ⟨hPn, ⟨Nat.le_trans hS.1 (by rw [e1, ← h0]; exact hF.1), fun q h1 h2 => by
      rw [e1, hF.2 q (by rw [h0]; exact Nat.lt_of_lt_of_le h1 hS.1) (fun z => h2 (hsub q z)), h0]
      exact hS.2.1 q h1 (fun z => h2 (hsub0 q z)), fun q hq => by
      rcases List.mem_append.mp hq with h | h
      · exact hsub0 _ (hS.2.2 q h)
      · exact hsub _ (hL q h)⟩⟩ T' rfl X'
  exact ⟨t2, st t2 a1, b1⟩
theorem g_pre {b : Nat} (C : xC p s m args meth c cc nL own ret E b) (hm : xL E a (L0 ++ [e0]) s.heap H locs) (hba : b ≤ a) (hH : H.size = a + (L0 ++ [e0]).length) : PreS s H (va_Pc [.ref (a + L0.length + 0)] (fun U => xPK E (a + L0.length) 1 (cfL [e0]) U ∧ U.heap.size = a + L0.length + 1)) [.ref (a + L0.length)] := by
  refine ⟨fun ar U g mk q => ⟨q.1, ⟨q.2.1.1, va_K.moved (u := U) (U := U.calling g mk ar) (Vm.Alike.refl U.vm) q.2.1.2.1, xN.same (u := U) (U := U.calling g mk ar) rfl q.2.1.2.2.1, q.2.1.2.2.2.calling⟩, q.2.2⟩, fun U hU hW => ⟨rfl, ⟨by rw [hU]; exact (xL_last hm).1, va_K.moved hW.alike C.2.1, xN.warm hW C.2.2.2.2.1, ?_⟩, by rw [hU, hH, List.length_append]; show a + (L0.length + 1) = a + L0.length + 1; omega⟩⟩
  rw [hU]
  refine ((C.2.2.2.2.2.nar (b' := a) hba).kept (fun q h1 h2 => hm.2.2.1 q h1 (fun z => h2 z.1))).warm hW |>.nar (Nat.le_add_right _ _)
theorem g_callI {b : Nat} {y : MethodName} {bytes : ByteArray} {maxL index : Nat} {rm : Room} {st0 : List Value} (C : xC p s m args meth c cc nL own ret E b) (hm : xL E a (L0 ++ [e0]) s.heap H locs) (hba : b ≤ a) (hH : H.size = a + (L0 ++ [e0]).length) (hM : gMet l E (a + L0.length) y bytes maxL rm e0 L' mc ms) (hp' : 1 ≤ L'.length) (hcode : Cond.code y bytes maxL none ∈ TB) (hlk : Cond.methodLink own index y ∈ TB) (hst : Cond.instanceMethod y ∈ TB) (hini : Cond.initialized y.cls ∈ TB) (hyn : y.name = "<init>")
    (hd : y.cls ≠ "java/lang/invoke/MethodHandle" ∧ y.cls ≠ "java/lang/invoke/VarHandle" ∧ (parseMethodDescriptor y.desc).map (fun d => d.parameters.length) = some 0) (hrc : rm.cells = mc) (hrs : rm.slots = ms) (hR : rm.frames + 1 ≤ R.frames ∧ 8 + (maxL + 11) + rm.locals ≤ R.locals) (hsz : ls.size = nL) (hst0 : st0 = .ref (a + L0.length) :: rest) (hW : (rest.map fun v => v.category).sum ≤ 8) (hcs : cs + mc ≤ R.cells ∧ sl + ms ≤ R.slots) (hdg : decode cc pc = .ok (.invokespecial index, 3))
    (kk : ∀ (H1 : Heap) (locs1 : List Loc), xL E a (L0 ++ L') s.heap H1 locs1 → W p l e R s m args below meth c H1 locs1 (cs + mc) (sl + ms) Q (F0 m (pc + 3) ls rest)) : W p l e R s m args below meth c H locs cs sl Q (F0 m pc ls st0) :=
  g_run (g := F0 m pc ls st0) hm hp' (va_runI (As := []) (rest := rest) (b := a + L0.length) C.1 hM ⟨callB_of 0 C.1.2.2.2.2 (tb_GI hcode) rfl hrc hrs (C.1.2.2.2.2 _ hini) (C.1.2.2.2.2 _ hlk) hd hR, hyn, C.1.2.2.2.2 _ hst⟩ (g_pre C hm hba hH) rfl rfl hsz hst0 (lv_room hW) hdg hcs) kk
theorem g_callIN {b : Nat} {y : MethodName} {bytes : ByteArray} {maxL index : Nat} {rm : Room} {st0 : List Value} {host : String} (C : xC p s m args meth c cc nL own ret E b) (hm : xL E a (L0 ++ [e0]) s.heap H locs) (hba : b ≤ a) (hH : H.size = a + (L0 ++ [e0]).length) (hM : gMet l E (a + L0.length) y bytes maxL rm e0 L' mc ms) (hp' : 1 ≤ L'.length) (hcode : Cond.code y bytes maxL none ∈ TB) (hlk : (own, index, y, host) ∈ xNest) (hst : Cond.instanceMethod y ∈ TB) (hini : Cond.initialized y.cls ∈ TB) (hyn : y.name = "<init>")
    (hd : y.cls ≠ "java/lang/invoke/MethodHandle" ∧ y.cls ≠ "java/lang/invoke/VarHandle" ∧ (parseMethodDescriptor y.desc).map (fun d => d.parameters.length) = some 0) (hrc : rm.cells = mc) (hrs : rm.slots = ms) (hR : rm.frames + 1 ≤ R.frames ∧ 8 + (maxL + 11) + rm.locals ≤ R.locals) (hsz : ls.size = nL) (hst0 : st0 = .ref (a + L0.length) :: rest) (hW : (rest.map fun v => v.category).sum ≤ 8) (hcs : cs + mc ≤ R.cells ∧ sl + ms ≤ R.slots) (hdg : decode cc pc = .ok (.invokespecial index, 3))
    (kk : ∀ (H1 : Heap) (locs1 : List Loc), xL E a (L0 ++ L') s.heap H1 locs1 → W p l e R s m args below meth c H1 locs1 (cs + mc) (sl + ms) Q (F0 m (pc + 3) ls rest)) : W p l e R s m args below meth c H locs cs sl Q (F0 m pc ls st0) :=
  g_run (g := F0 m pc ls st0) hm hp' (va_runIN (As := []) (rest := rest) (b := a + L0.length) (host := host) C.1 hM ⟨va_cnB 0 C.1.2.2.2.2 (tb_GI hcode) rfl hrc hrs (C.2.2.2.2.1.1 _ hlk) (C.1.2.2.2.2 _ hini) hd hR, hyn, C.1.2.2.2.2 _ hst⟩ (g_pre C hm hba hH) rfl rfl hsz hst0 (lv_room hW) hdg hcs) kk
end XGC
abbrev gR (d mc ms : Nat) : Room := { frames := d, cells := mc, slots := ms, locals := 64 * d }
/-- Arrays.fill on a row of any world -/
def fillF (n : Nat) (v : Int32) (f : Nat → Int32) (i : Nat) : Nat → Int32 := fun j => if j < i then v else f j
theorem fill_loop {p : Program} {l : Launch} {e : Env} {R : Room} {s : State} {m : MethodId} {args : Array Value} {below : List Frame} {meth : Method} {c : Code} {Q : State → Prop} {b N k n : Nat} {E : xE} {cf : Nat → va_E} {v : Int32} {f : Nat → Int32} (C : xC p s m args meth c cJ7_fill_53178 4 RJ7 none E b) (hc : xat N cf k (.inl (E.2 0, n, .inl f))) (hn : n < 2 ^ 31)
    (kx : ∀ (H : Heap) (locs : List Loc) (ls : Array Slot), xM E b N (fun q => if q = k then .inl (E.2 0, n, .inl (fillF n v f n)) else cf q) s.heap H locs → W p l e R s m args below meth c H locs 0 0 Q (F0 m 20 ls [])) :
    ∀ (d i : Nat), i + d = n → ∀ (H : Heap) (locs : List Loc) (ls : Array Slot), xM E b N (fun q => if q = k then .inl (E.2 0, n, .inl (fillF n v f i)) else cf q) s.heap H locs → lv_has ls 4 [(0, .ref (b + k)), (1, .int v), (2, .int (nI i)), (3, .int (nI n))] → W p l e R s m args below meth c H locs 0 0 Q (F0 m 5 ls []) := by
  have hx := C.1.1
  have hb := C.1.2.1
  intro d
  induction d with
  | zero =>
    intro i hi H locs ls hm hl
    have : i = n := by omega
    subst this
    refine lv_iload_n hx hb dJ7_fill_53178_5 rfl (lv_at hl 2 rfl) ?_
    refine lv_iload_n hx hb dJ7_fill_53178_6 rfl (lv_at hl 3 rfl) ?_
    refine lv_icmp_ge (tgt := 20) hx hb dJ7_fill_53178_7 (by decide) (fun _ => kx H locs ls hm) (fun h => absurd (Int32.le_refl _) h)
  | succ d ih =>
    intro i hi H locs ls hm hl
    refine lv_iload_n hx hb dJ7_fill_53178_5 rfl (lv_at hl 2 rfl) ?_
    refine lv_iload_n hx hb dJ7_fill_53178_6 rfl (lv_at hl 3 rfl) ?_
    refine lv_icmp_ge (tgt := 20) hx hb dJ7_fill_53178_7 (by decide) (fun h => absurd h (nI_ge (by omega) hn)) (fun _ => ?_)
    refine lv_aload_n hx hb dJ7_fill_53178_10 rfl (lv_at hl 0 rfl) ?_
    refine lv_iload_n hx hb dJ7_fill_53178_11 rfl (lv_at hl 2 rfl) ?_
    refine lv_iload_n hx hb dJ7_fill_53178_12 rfl (lv_at hl 1 rfl) ?_
    have hxin : xin (nI i) n = true := by
      unfold xin
      rw [Bool.and_eq_true, decide_eq_true_eq, decide_eq_true_eq]
      exact ⟨nI_pos (by omega), by rw [nI_clamp (by omega)]; omega⟩
    refine x_iast (j := i) (cf' := fun q => if q = k then .inl (E.2 0, n, .inl (fillF n v f (i + 1))) else cf q) C hm ⟨hc.1, if_pos rfl⟩ hxin dJ7_fill_53178_13 (nI_clamp (by omega)) ?_ (fun q h => by rw [if_neg h, if_neg h]) (fun H locs hm => ?_)
    · rw [if_pos rfl]
      congr 4
      funext j
      simp only [fillF, upd]
      by_cases h1 : j = i
      · subst h1; simp
      · by_cases h2 : j < i
        · simp [h1, h2, show j < i + 1 by omega]
        · simp [h1, h2, show ¬ j < i + 1 by omega]
    · refine lv_iinc (v := nI (i + 1)) (lv' := [(2, .int (nI (i + 1))), (0, .ref (b + k)), (1, .int v), (3, .int (nI n))]) hx hb dJ7_fill_53178_14 hl (k := 2) rfl (nI_succ i).symm (by decide) rfl (fun ls hl => ?_)
      refine lv_goto (tgt := 5) hx hb dJ7_fill_53178_17 (by decide) ?_
      exact ih (i + 1) (by omega) H locs ls hm (lv_sub hl [1, 2, 0, 3] rfl)
theorem c_fillG (l : Launch) (E : xE) (b N : Nat) {cf cf' : Nat → va_E} {k n : Nat} {f : Nat → Int32} (hc : xat N cf k (.inl (E.2 0, n, .inl f))) (hn : n < 2 ^ 31) (v : Int32) (hc' : cf' k = .inl (E.2 0, n, .inl (fillF n v f n))) (ho : ∀ q, q ≠ k → cf' q = cf q) : xMet l E b N yJ7_fill_53178 cJ7_fill_53178 4 none (xR 1) [.ref (b + k), .int v] cf none True cf' := by
  have hcf : cf' = fun q => if q = k then .inl (E.2 0, n, .inl (fillF n v f n)) else cf q := by
    funext q
    by_cases h : q = k
    · subst h; rw [if_pos rfl, hc']
    · rw [if_neg h, ho q h]
  subst hcf
  refine xMet.ofW (own := RJ7) (by decide) rfl (Nat.le_of_ble_eq_true rfl) ?_
  intro p e s m below meth c H locs ls C hm hl
  have hx := C.1.1
  have hb := C.1.2.1
  have hl : lv_has ls 4 [(0, .ref (b + k)), (1, .int v)] := hl
  refine lv_iconst (v := nI 0) hx hb dJ7_fill_53178_0 (by decide) ?_
  refine lv_istore_n (lv' := [(2, .int (nI 0)), (0, .ref (b + k)), (1, .int v)]) hx hb dJ7_fill_53178_1 rfl hl (by decide) rfl (fun ls hl => ?_)
  refine lv_aload_n hx hb dJ7_fill_53178_2 rfl (lv_at hl 1 rfl) ?_
  refine x_alen (v := nI n) C hm hc rfl dJ7_fill_53178_3 ?_
  refine lv_istore_n (lv' := [(3, .int (nI n)), (2, .int (nI 0)), (0, .ref (b + k)), (1, .int v)]) hx hb dJ7_fill_53178_4 rfl hl (by decide) rfl (fun ls hl => ?_)
  refine fill_loop (f := f) C hc hn (fun H locs ls hm => x_vret C hm trivial dJ7_fill_53178_20) n 0 (by omega) H locs ls ?_ (lv_sub hl [2, 3, 1, 0] rfl)
  have hsame : (fun q => if q = k then (.inl (E.2 0, n, .inl (fillF n v f 0)) : va_E) else cf q) = cf := by
    funext q
    by_cases h : q = k
    · subst h; rw [if_pos rfl, hc.2]; rfl
    · rw [if_neg h]
  rw [hsame]
  exact hm
