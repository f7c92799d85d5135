theorem tq_RX5_11 : Cond.classLink RX5 11 RX1 ∈ TB := tb_in 271 (by decide +kernel) rfl
theorem tj_RX1 : Cond.instantiable RX1 19 ∈ TB := tb_in 157 (by decide +kernel) rfl
theorem tm_RX5_24 : Cond.methodLink RX5 24 yX1_init ∈ TB := tb_in 273 (by decide +kernel) rfl
theorem tc_X1_init : Cond.code yX1_init cX1_init 1 none ∈ TB := tb_in 160 (by decide +kernel) rfl
theorem ti_X1_init : Cond.instanceMethod yX1_init ∈ TB := tb_in 159 (by decide +kernel) rfl
theorem tm_RX5_3 : Cond.methodLink RX5 3 Lib.objectInit ∈ TB := tb_in 270 (by decide +kernel) rfl
theorem td_X1_init : yX1_init.cls ≠ "java/lang/invoke/MethodHandle" ∧ yX1_init.cls ≠ "java/lang/invoke/VarHandle" ∧ (parseMethodDescriptor yX1_init.desc).map (fun d => d.parameters.length) = some 0 := by decide +kernel
/-! Steps: a row of 31 heaps -/
theorem L_Heap_len (E : xE) (a : Nat) : (L_Heap E a).length = 15 := rfl
def hps (E : xE) (a : Nat) : Nat → List va_E
  | 0 => []
  | i + 1 => hps E a i ++ L_Heap E (a + (2 + 15 * i))
theorem hps_len (E : xE) (a : Nat) : ∀ i, (hps E a i).length = 15 * i
  | 0 => rfl
  | i + 1 => by rw [hps, List.length_append, hps_len E a i, L_Heap_len]; omega
def rfs (a i : Nat) : Nat → Option Nat := fun j => if j < i then some (a + (2 + 15 * j)) else none
def L_Stp (E : xE) (a i : Nat) : List va_E := [.inr (4, [.ref (a + 1), .int 0, .int 0]), .inl (E.2 3, 31, .inr (.inr (.inr (.inr (rfs a i)))))] ++ hps E a i
theorem L_Stp_len (E : xE) (a i : Nat) : (L_Stp E a i).length = 2 + 15 * i := by unfold L_Stp; rw [List.length_append, hps_len]; rfl
def L_Steps (E : xE) (a : Nat) : List va_E := L_Stp E a 31
theorem L_Steps_len (E : xE) (a : Nat) : (L_Steps E a).length = 467 := L_Stp_len E a 31
theorem rfs_up (a i : Nat) : va_up (rfs a i) i (some (a + (2 + 15 * i))) = rfs a (i + 1) := by
  funext j
  unfold va_up rfs
  by_cases h : j = i
  · subst h; simp
  · by_cases h2 : j < i
    · simp [h, h2, show j < i + 1 by omega]
    · simp [h, h2, show ¬ j < i + 1 by omega]
theorem dX5_init_0 : decode cX5_init 0 = .ok (.aload_n 0, 1) := by decide +kernel
theorem dX5_init_1 : decode cX5_init 1 = .ok (.invokespecial 3, 3) := by decide +kernel
theorem dX5_init_4 : decode cX5_init 4 = .ok (.aload_n 0, 1) := by decide +kernel
theorem dX5_init_5 : decode cX5_init 5 = .ok (.bipush 31, 2) := by decide +kernel
theorem dX5_init_7 : decode cX5_init 7 = .ok (.anewarray 11, 3) := by decide +kernel
theorem dX5_init_10 : decode cX5_init 10 = .ok (.putfield 13, 3) := by decide +kernel
theorem dX5_init_13 : decode cX5_init 13 = .ok (.aload_n 0, 1) := by decide +kernel
theorem dX5_init_14 : decode cX5_init 14 = .ok (.iconst 0, 1) := by decide +kernel
theorem dX5_init_15 : decode cX5_init 15 = .ok (.putfield 17, 3) := by decide +kernel
theorem dX5_init_18 : decode cX5_init 18 = .ok (.aload_n 0, 1) := by decide +kernel
theorem dX5_init_19 : decode cX5_init 19 = .ok (.iconst 0, 1) := by decide +kernel
theorem dX5_init_20 : decode cX5_init 20 = .ok (.putfield 21, 3) := by decide +kernel
theorem dX5_init_23 : decode cX5_init 23 = .ok (.iconst 0, 1) := by decide +kernel
theorem dX5_init_24 : decode cX5_init 24 = .ok (.istore_n 1, 1) := by decide +kernel
theorem dX5_init_25 : decode cX5_init 25 = .ok (.iload_n 1, 1) := by decide +kernel
theorem dX5_init_26 : decode cX5_init 26 = .ok (.bipush 31, 2) := by decide +kernel
theorem dX5_init_28 : decode cX5_init 28 = .ok (.if_icmp .ge 22, 3) := by decide +kernel
theorem dX5_init_31 : decode cX5_init 31 = .ok (.aload_n 0, 1) := by decide +kernel
theorem dX5_init_32 : decode cX5_init 32 = .ok (.getfield 13, 3) := by decide +kernel
theorem dX5_init_35 : decode cX5_init 35 = .ok (.iload_n 1, 1) := by decide +kernel
theorem dX5_init_36 : decode cX5_init 36 = .ok (.new 11, 3) := by decide +kernel
theorem dX5_init_39 : decode cX5_init 39 = .ok (.dup, 1) := by decide +kernel
theorem dX5_init_40 : decode cX5_init 40 = .ok (.invokespecial 24, 3) := by decide +kernel
theorem dX5_init_43 : decode cX5_init 43 = .ok (.aastore, 1) := by decide +kernel
theorem dX5_init_44 : decode cX5_init 44 = .ok (.iinc 1 1, 3) := by decide +kernel
theorem dX5_init_47 : decode cX5_init 47 = .ok (.goto (-22), 3) := by decide +kernel
theorem dX5_init_50 : decode cX5_init 50 = .ok (.return_, 1) := by decide +kernel
set_option maxHeartbeats 4000000 in
set_option maxRecDepth 20000 in
theorem steps_loop {p : Program} {l : Launch} {e : Env} {s : State} {m : MethodId} {args : Array Value} {below : List Frame} {meth : Method} {c : Code} {Q : State → Prop} {E : xE} {a : Nat} (C : xC p s m args meth c cX5_init 2 RX5 none E a) (hinit : meth.name = "<init>") (hsz : s.heap.size = a + 1)
    (kx : ∀ (H : Heap) (locs : List Loc) (ls : Array Slot), xL E a (L_Steps E a) s.heap H locs → W p l e (gR 5 466 12152) s m args below meth c H locs 466 12152 Q (F0 m 50 ls [])) :
    ∀ (d i : Nat), i + d = 31 → ∀ (H : Heap) (locs : List Loc) (ls : Array Slot), xL E a (L_Stp E a i) s.heap H locs → lv_has ls 2 [(0, .ref (a + 0)), (1, .int (nI i))] → W p l e (gR 5 466 12152) s m args below meth c H locs (1 + 15 * i) (31 + 391 * i) Q (F0 m 25 ls []) := by
  have hx := C.1.1
  have hb := C.1.2.1
  intro d
  induction d with
  | zero =>
    intro i hi H locs ls hm hl
    have : i = 31 := by omega
    subst this
    refine lv_iload_n hx hb dX5_init_25 rfl (lv_at hl 1 rfl) ?_
    refine lv_bipush (v := nI 31) hx hb dX5_init_26 (by decide) ?_
    refine lv_icmp_ge (tgt := 50) hx hb dX5_init_28 (by decide) (fun _ => kx H locs ls hm) (fun h => absurd (Int32.le_refl _) h)
  | succ d ih =>
    intro i hi H locs ls hm hl
    have hlen := L_Stp_len E a i
    refine lv_iload_n hx hb dX5_init_25 rfl (lv_at hl 1 rfl) ?_
    refine lv_bipush (v := nI 31) hx hb dX5_init_26 (by decide) ?_
    refine lv_icmp_ge (tgt := 50) hx hb dX5_init_28 (by decide) (fun h => absurd h (nI_ge (by omega) (by decide))) (fun _ => ?_)
    refine lv_aload_n hx hb dX5_init_31 rfl (lv_at hl 0 rfl) ?_
    refine x_get (b := a) (k := 0) C hm inX5 rfl 0 (by decide) tf_RX5_13 (cfL_at (L := L_Stp E a i) rfl) rfl dX5_init_32 ?_
    refine lv_iload_n hx hb dX5_init_35 rfl (lv_at hl 1 rfl) ?_
    have hm0 := hm
    unfold xL at hm0
    rw [hlen, show 2 + 15 * i = (1 + 15 * i) + 1 by omega] at hm0
    refine g_size (n := 1 + 15 * i) hm0 (by rw [hsz]; omega) (fun hH => ?_)
    refine g_new (L := L_Stp E a i) (ci := 1) (fs := [.null, .null, .null, .null, .null, .null, .null, .null, .null, .null, .null, .null, .null, .int 0, .int 0, .int 0, .int 0, .int 0, .int 0]) C hm (by rw [hH, hlen]; omega) inX1 tyX1 tyX1_ok tq_RX5_11 tj_RX1 tn_RX1 rfl (fun j hj => by rcases (show j = 0 ∨ j = 1 ∨ j = 2 ∨ j = 3 ∨ j = 4 ∨ j = 5 ∨ j = 6 ∨ j = 7 ∨ j = 8 ∨ j = 9 ∨ j = 10 ∨ j = 11 ∨ j = 12 ∨ j = 13 ∨ j = 14 ∨ j = 15 ∨ j = 16 ∨ j = 17 ∨ j = 18 by omega) with rfl | rfl | rfl | rfl | rfl | rfl | rfl | rfl | rfl | rfl | rfl | rfl | rfl | rfl | rfl | rfl | rfl | rfl | rfl <;> rfl) (by show 1 + 15 * i + 1 ≤ 466; omega) (by show 31 + 391 * i + 19 ≤ 12152; omega) dX5_init_36 (fun H hm => ?_)
    rw [hlen]
    refine lv_dup hx hb dX5_init_39 rfl ?_
    have hm0 := hm
    unfold xL at hm0
    rw [show (L_Stp E a i ++ ([.inr (1, [.null, .null, .null, .null, .null, .null, .null, .null, .null, .null, .null, .null, .null, .int 0, .int 0, .int 0, .int 0, .int 0, .int 0])] : List va_E)).length = (2 + 15 * i) + 1 by rw [List.length_append, hlen]; rfl] at hm0
    refine g_size (n := 2 + 15 * i) hm0 (by rw [hsz]; omega) (fun hH => ?_)
    refine g_callI (L0 := L_Stp E a i) (L' := L_Heap E (a + (2 + 15 * i))) (e0 := .inr (1, [.null, .null, .null, .null, .null, .null, .null, .null, .null, .null, .null, .null, .null, .int 0, .int 0, .int 0, .int 0, .int 0, .int 0])) (mc := 14) (ms := 372) (rest := [.ref (a + (2 + 15 * i)), .int (nI i), .ref (a + 1)]) C hm (Nat.le_refl _) (by rw [hH, List.length_append, hlen]; rfl) (by rw [hlen]; exact c_X1_init l E (a + (2 + 15 * i))) (by rw [L_Heap_len]; decide) tc_X1_init tm_RX5_24 ti_X1_init tn_RX1 rfl td_X1_init rfl rfl ⟨Nat.le_of_ble_eq_true rfl, Nat.le_of_ble_eq_true rfl⟩ hl.1 (by rw [hlen]) (Nat.le_of_ble_eq_true rfl) ⟨by show 1 + 15 * i + 1 + 14 ≤ 466; omega, by show 31 + 391 * i + 19 + 372 ≤ 12152; omega⟩ dX5_init_40 (fun H locs hm => ?_)
    have hk2 : (L_Stp E a i ++ L_Heap E (a + (2 + 15 * i)))[2 + 15 * i]? = some (.inr (1, [.ref (a + (2 + 15 * i) + 1), .ref (a + (2 + 15 * i) + 2), .ref (a + (2 + 15 * i) + 3), .ref (a + (2 + 15 * i) + 4), .ref (a + (2 + 15 * i) + 5), .ref (a + (2 + 15 * i) + 6), .ref (a + (2 + 15 * i) + 7), .ref (a + (2 + 15 * i) + 8), .ref (a + (2 + 15 * i) + 9), .ref (a + (2 + 15 * i) + 10), .ref (a + (2 + 15 * i) + 11), .ref (a + (2 + 15 * i) + 12), .ref (a + (2 + 15 * i) + 13), .int (0 : Int32), .int (0 : Int32), .int (2 : Int32), .int (1 : Int32), .int (0 : Int32), .int (463 : Int32)])) := by
      rw [List.getElem?_append_right (by omega), hlen, Nat.sub_self]
      rfl
    have hnl : (L_Stp E a i ++ L_Heap E (a + (2 + 15 * i))).length = (L_Stp E a (i + 1)).length := by
      rw [List.length_append, hlen, L_Heap_len, L_Stp_len]; omega
    have hset : L_Stp E a (i + 1) = (L_Stp E a i ++ L_Heap E (a + (2 + 15 * i))).set 1 (.inl (E.2 3, 31, .inr (.inr (.inr (.inr (rfs a (i + 1))))))) := by
      unfold L_Stp
      rw [hps]
      simp
    refine x_aast (b := a) (k := 1) (k2 := 2 + 15 * i) (t0 := 3) (ci := 1) (r := (RX1, TX1, 19)) (f := rfs a i) (cf' := cfL (L_Stp E a (i + 1))) C hm (cfL_at (by unfold L_Stp; rfl)) rfl (cfL_at hk2) rfl (by unfold xin; rw [Bool.and_eq_true, decide_eq_true_eq, decide_eq_true_eq]; exact ⟨nI_pos (by omega), by rw [nI_clamp (by omega)]; omega⟩) dX5_init_43 ?_ ?_ (fun H locs hm => ?_)
    · rw [hset, cfL_set (by rw [List.length_append, hlen]; omega), nI_clamp (by omega), rfs_up]
    · rw [hset]
      exact cfL_seto
    · refine lv_iinc (v := nI (i + 1)) (lv' := [(1, .int (nI (i + 1))), (0, .ref (a + 0))]) hx hb dX5_init_44 hl (k := 1) rfl (nI_succ i).symm (by decide) rfl (fun ls hl => ?_)
      refine lv_goto (tgt := 25) hx hb dX5_init_47 (by decide) ?_
      have hm : xL E a (L_Stp E a (i + 1)) s.heap H locs := by
        unfold xL
        rw [← hnl]
        exact hm
      have hgo := ih (i + 1) (by omega) H locs ls hm (lv_sub hl [1, 0] rfl)
      rw [show 1 + 15 * (i + 1) = 1 + 15 * i + 1 + 14 by omega, show 31 + 391 * (i + 1) = 31 + 391 * i + 19 + 372 by omega] at hgo
      exact hgo
set_option maxHeartbeats 4000000 in
set_option maxRecDepth 20000 in
theorem c_X5_init (l : Launch) (E : xE) (a : Nat) : gMet l E a yX5_init cX5_init 2 (gR 5 466 12152) (.inr (4, [.null, .int 0, .int 0])) (L_Steps E a) 466 12152 := by
  refine gMet.ofW (own := RX5) (by decide) rfl rfl (by decide) ?_
  intro p e s m below meth c H locs ls C hinit hsz hm hl
  have hx := C.1.1
  have hb := C.1.2.1
  refine lv_aload_n hx hb dX5_init_0 rfl (lv_at hl 0 rfl) ?_
  refine W.objInit hx hb C.1.2.2.2.1 (C.1.2.2.2.2 _ tm_RX5_3) (C.1.2.2.2.2 _ ti_Object) (C.1.2.2.2.2 _ tc_Object) rfl (hl.1.trans C.1.2.2.1.symm) rfl dX5_init_1 (Nat.le_of_ble_eq_true rfl) (Nat.le_of_ble_eq_true rfl) ?_
  refine lv_aload_n hx hb dX5_init_4 rfl (lv_at hl 0 rfl) ?_
  refine lv_bipush (v := 31) hx hb dX5_init_5 (by decide) ?_
  refine g_size (n := 0) hm (by rw [hsz]) (fun hH => ?_)
  refine g_newq (L := [.inr (4, [.null, .int 0, .int 0])]) C hm hH 3 tq_RX5_11 C.2.2.2.2.1.2.1 rfl (N' := 31) (by decide) rfl (by decide) (Nat.le_of_ble_eq_true rfl) (Nat.le_of_ble_eq_true rfl) dX5_init_7 (fun H hm => ?_)
  have hm : xL E a [.inr (4, [.null, .int 0, .int 0]), .inl (E.2 3, 31, .inr (.inr (.inr (.inr (fun _ => none)))))] s.heap H locs := hm
  refine x_putF (b := a) (k := 0) (v := .ref (a + 1)) (cf' := cfL [.inr (4, [.ref (a + 1), .int 0, .int 0]), .inl (E.2 3, 31, .inr (.inr (.inr (.inr (fun _ => none)))))]) C hm hinit inX5 tyX5 tyX5_ok nmX5 rfl 0 (by decide) tf_RX5_13 rfl rfl rfl rfl (cfL_at (L := [.inr (4, [.null, .int 0, .int 0]), .inl (E.2 3, 31, .inr (.inr (.inr (.inr (fun _ => none)))))]) rfl) (Nat.le_of_ble_eq_true rfl) rfl (cfL_seto (L := [.inr (4, [.null, .int 0, .int 0]), .inl (E.2 3, 31, .inr (.inr (.inr (.inr (fun _ => none)))))]) (k := 0) (e := .inr (4, [.ref (a + 1), .int 0, .int 0]))) dX5_init_10 (fun H locs hm => ?_)
  have hm : xL E a [.inr (4, [.ref (a + 1), .int 0, .int 0]), .inl (E.2 3, 31, .inr (.inr (.inr (.inr (fun _ => none)))))] s.heap H locs := hm
  refine lv_aload_n hx hb dX5_init_13 rfl (lv_at hl 0 rfl) ?_
  refine lv_iconst (v := 0) hx hb dX5_init_14 (by decide) ?_
  refine x_put (b := a) (k := 0) (v := .int 0) (cf' := cfL [.inr (4, [.ref (a + 1), .int 0, .int 0]), .inl (E.2 3, 31, .inr (.inr (.inr (.inr (fun _ => none)))))]) C hm inX5 tyX5 tyX5_ok nmX5 rfl 1 (by decide) tf_RX5_17 rfl rfl rfl (cfL_at (L := [.inr (4, [.ref (a + 1), .int 0, .int 0]), .inl (E.2 3, 31, .inr (.inr (.inr (.inr (fun _ => none)))))]) rfl) (Nat.le_of_ble_eq_true rfl) rfl (fun _ _ => rfl) dX5_init_15 (fun H locs hm => ?_)
  refine lv_aload_n hx hb dX5_init_18 rfl (lv_at hl 0 rfl) ?_
  refine lv_iconst (v := 0) hx hb dX5_init_19 (by decide) ?_
  refine x_put (b := a) (k := 0) (v := .int 0) (cf' := cfL [.inr (4, [.ref (a + 1), .int 0, .int 0]), .inl (E.2 3, 31, .inr (.inr (.inr (.inr (fun _ => none)))))]) C hm inX5 tyX5 tyX5_ok nmX5 rfl 2 (by decide) tf_RX5_21 rfl rfl rfl (cfL_at (L := [.inr (4, [.ref (a + 1), .int 0, .int 0]), .inl (E.2 3, 31, .inr (.inr (.inr (.inr (fun _ => none)))))]) rfl) (Nat.le_of_ble_eq_true rfl) rfl (fun _ _ => rfl) dX5_init_20 (fun H locs hm => ?_)
  refine lv_iconst (v := nI 0) hx hb dX5_init_23 (by decide) ?_
  refine lv_istore_n (lv' := [(1, .int (nI 0)), (0, .ref (a + 0))]) hx hb dX5_init_24 rfl hl (by decide) rfl (fun ls hl => ?_)
  have hr0 : rfs a 0 = fun _ => none := by funext j; unfold rfs; simp
  have hm : xL E a (L_Stp E a 0) s.heap H locs := by
    unfold L_Stp
    rw [hr0]
    exact hm
  refine steps_loop C hinit hsz (fun H locs ls hm => ?_) 31 0 (by omega) H locs ls hm (lv_sub hl [1, 0] rfl)
  have hm : xM E a (L_Steps E a).length (cfL (L_Steps E a)) s.heap H locs := hm
  exact x_vret (b := a) C hm trivial dX5_init_50
