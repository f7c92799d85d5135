/-! ColouredHeap$Heap.endMoving()V -/
theorem dX1_endMoving_0 : decode cX1_endMoving 0 = .ok (.iconst 0, 1) := by decide +kernel
theorem dX1_endMoving_1 : decode cX1_endMoving 1 = .ok (.istore_n 1, 1) := by decide +kernel
theorem dX1_endMoving_2 : decode cX1_endMoving 2 = .ok (.iload_n 1, 1) := by decide +kernel
theorem dX1_endMoving_3 : decode cX1_endMoving 3 = .ok (.bipush 8, 2) := by decide +kernel
theorem dX1_endMoving_5 : decode cX1_endMoving 5 = .ok (.if_icmp .ge 24, 3) := by decide +kernel
theorem dX1_endMoving_8 : decode cX1_endMoving 8 = .ok (.aload_n 0, 1) := by decide +kernel
theorem dX1_endMoving_9 : decode cX1_endMoving 9 = .ok (.getfield 30, 3) := by decide +kernel
theorem dX1_endMoving_12 : decode cX1_endMoving 12 = .ok (.iload_n 1, 1) := by decide +kernel
theorem dX1_endMoving_13 : decode cX1_endMoving 13 = .ok (.iaload, 1) := by decide +kernel
theorem dX1_endMoving_14 : decode cX1_endMoving 14 = .ok (.iconst 2, 1) := by decide +kernel
theorem dX1_endMoving_15 : decode cX1_endMoving 15 = .ok (.if_icmp .ne 8, 3) := by decide +kernel
theorem dX1_endMoving_18 : decode cX1_endMoving 18 = .ok (.aload_n 0, 1) := by decide +kernel
theorem dX1_endMoving_19 : decode cX1_endMoving 19 = .ok (.iload_n 1, 1) := by decide +kernel
theorem dX1_endMoving_20 : decode cX1_endMoving 20 = .ok (.invokevirtual 177, 3) := by decide +kernel
theorem dX1_endMoving_23 : decode cX1_endMoving 23 = .ok (.iinc 1 1, 3) := by decide +kernel
theorem dX1_endMoving_26 : decode cX1_endMoving 26 = .ok (.goto (-24), 3) := by decide +kernel
theorem dX1_endMoving_29 : decode cX1_endMoving 29 = .ok (.aload_n 0, 1) := by decide +kernel
theorem dX1_endMoving_30 : decode cX1_endMoving 30 = .ok (.iconst 0, 1) := by decide +kernel
theorem dX1_endMoving_31 : decode cX1_endMoving 31 = .ok (.putfield 59, 3) := by decide +kernel
theorem dX1_endMoving_34 : decode cX1_endMoving 34 = .ok (.return_, 1) := by decide +kernel
def g_X1_endMoving_2 (o1 : Nat) : Nat → xm → Int32 → Option ((xm))
  | 0, _, _ => none
  | n + 1, M3, x2 => (if (8 : Int32) ≤ x2 then some (M3) else if xin x2 8 = true then (if (M3 (o1 + 7) (Int32.toNatClampNeg x2)) = (2 : Int32) then xb1 (f_X1_freePage o1 M3 x2) (fun M10 => xlet (x2 + (1 : Int32)) (fun v12 => g_X1_endMoving_2 o1 n M10 v12)) else xlet (x2 + (1 : Int32)) (fun v8 => g_X1_endMoving_2 o1 n M3 v8)) else none)
def f_X1_endMoving (u0 : Nat) (M : xm) : Option (xm) := xb1 (g_X1_endMoving_2 u0 xfuel M (0 : Int32)) (fun M13 => xlet (up2 M13 u0 14 (0 : Int32)) (fun M14 => some M14))
set_option maxHeartbeats 4000000 in
set_option maxRecDepth 20000 in
theorem j_X1_endMoving_2 {p : Program} {l : Launch} {e : Env} {s : State} {m : MethodId} {args : Array Value} {below : List Frame} {meth : Method} {c : Code} {Q : State → Prop} {E : xE} {b : Nat} (C : xC p s m args meth c cX1_endMoving 2 RX1 none E b) {o1 : Nat} (L_o1 : lat o1 pHeap) {y4 : xm}
    (kx0 : ∀ (H : Heap) (locs : List Loc) (ls : Array Slot), xM E b NX (cX E b y4) s.heap H locs → lv_has ls 2 [(0, .ref (b + o1))] → W p l e (xR 4) s m args below meth c H locs 0 0 Q (F0 m 29 ls [])) :
    ∀ (n : Nat) (M3 : xm) (x2 : Int32) (H : Heap) (locs : List Loc) (ls : Array Slot), g_X1_endMoving_2 o1 n M3 x2 = some y4 → xM E b NX (cX E b M3) s.heap H locs → lv_has ls 2 [(0, .ref (b + o1)), (1, .int x2)] → W p l e (xR 4) s m args below meth c H locs 0 0 Q (F0 m 2 ls []) := by
  have hx := C.1.1
  have hb := C.1.2.1
  intro n
  induction n with
  | zero =>
    intro M3 x2 H locs ls hf hm hl
    rw [g_X1_endMoving_2] at hf
    cases hf
  | succ n ih =>
    intro M3 x2 H locs ls hf hm hl
    rw [g_X1_endMoving_2] at hf
    refine lv_iload_n hx hb dX1_endMoving_2 rfl (lv_at hl 1 rfl) ?_
    refine lv_bipush (v := (8 : Int32)) hx hb dX1_endMoving_3 (by decide) ?_
    refine lv_icmp_ge (tgt := 29) hx hb dX1_endMoving_5 (by decide) (fun hc5 => ?_) (fun hc5 => ?_)
    · have hf := xif_t hc5 hf
      cases hf
      exact kx0 H locs ls hm (lv_sub hl [0] rfl)
    have hf := xif_f hc5 hf
    refine lv_aload_n hx hb dX1_endMoving_8 rfl (lv_at hl 0 rfl) ?_
    refine x_get C hm inX1 rfl 6 (by decide) tf_RX1_30 (cx_Heap (L_o1 0 _ rfl)) rfl dX1_endMoving_9 ?_
    refine lv_iload_n hx hb dX1_endMoving_12 rfl (lv_at hl 1 rfl) ?_
    obtain ⟨hi6, hf⟩ := xif_s hf
    refine x_iald (j := (Int32.toNatClampNeg x2)) C hm (cx_I (L_o1 7 _ rfl)) hi6 dX1_endMoving_13 rfl ?_
    refine lv_iconst (v := (2 : Int32)) hx hb dX1_endMoving_14 (by decide) ?_
    refine lv_icmp_ne (tgt := 23) hx hb dX1_endMoving_15 (by decide) (fun hc7 => ?_) (fun hc7 => ?_)
    · have hf := xif_f hc7 hf
      obtain ⟨v8, ev8, hf⟩ := xlet_x hf
      refine lv_iinc (v := v8) (lv' := [(1, .int v8), (0, .ref (b + o1))]) hx hb dX1_endMoving_23 hl (k := 1) rfl (by rw [ev8]; rfl) (by decide) rfl (fun ls hl => ?_)
      refine lv_goto (tgt := 2) hx hb dX1_endMoving_26 (by decide) ?_
      exact ih M3 v8 H locs ls hf hm (lv_sub hl [1, 0] rfl)
    have hf := xif_t hc7 hf
    refine lv_aload_n hx hb dX1_endMoving_18 rfl (lv_at hl 0 rfl) ?_
    refine lv_iload_n hx hb dX1_endMoving_19 rfl (lv_at hl 1 rfl) ?_
    obtain ⟨M10, hq9, hf⟩ := xb1_e hf
    refine x_callVv (As := [.int x2]) (rest := []) C hm (c_X1_freePage l E b L_o1 M3 x2 hq9) rfl (cx_Heap (L_o1 0 _ rfl)) tc_X1_freePage tm_RX1_177 ti_X1_freePage ts_X1_freePage tn_RX1 td_X1_freePage rfl rfl ⟨Nat.le_of_ble_eq_true rfl, Nat.le_of_ble_eq_true rfl⟩ rfl hl.1 rfl (Nat.le_of_ble_eq_true rfl) ⟨Nat.zero_le _, Nat.zero_le _⟩ dX1_endMoving_20 (fun H locs hP11 hm => ?_)
    obtain ⟨v12, ev12, hf⟩ := xlet_x hf
    refine lv_iinc (v := v12) (lv' := [(1, .int v12), (0, .ref (b + o1))]) hx hb dX1_endMoving_23 hl (k := 1) rfl (by rw [ev12]; rfl) (by decide) rfl (fun ls hl => ?_)
    refine lv_goto (tgt := 2) hx hb dX1_endMoving_26 (by decide) ?_
    exact ih M10 v12 H locs ls hf hm (lv_sub hl [1, 0] rfl)
set_option maxHeartbeats 4000000 in
set_option maxRecDepth 20000 in
theorem c_X1_endMoving (l : Launch) (E : xE) (b : Nat) {u0 : Nat} (L_u0 : lat u0 pHeap) (M : xm) {M' : xm} (hf : f_X1_endMoving u0 M = some M') :
    xMet l E b NX yX1_endMoving cX1_endMoving 2 none (xR 4) [.ref (b + u0)] (cX E b M) none True (cX E b M') := by
  refine xMet.ofW (own := RX1) (by decide) rfl (Nat.le_of_ble_eq_true rfl) ?_
  intro p e s m below meth c H locs ls C hm hl
  have hx := C.1.1
  have hb := C.1.2.1
  have hl : lv_has ls 2 [(0, .ref (b + u0))] := hl
  unfold f_X1_endMoving at hf
  refine lv_iconst (v := (0 : Int32)) hx hb dX1_endMoving_0 (by decide) ?_
  refine lv_istore_n (lv' := [(1, .int (0 : Int32)), (0, .ref (b + u0))]) hx hb dX1_endMoving_1 rfl hl (by decide) rfl (fun ls hl => ?_)
  obtain ⟨M13, hq, hf⟩ := xb1_e hf
  refine j_X1_endMoving_2 C L_u0 (fun H locs ls hm hl => ?_) xfuel M (0 : Int32) H locs ls hq hm (lv_sub hl [1, 0] rfl)
  refine lv_aload_n hx hb dX1_endMoving_29 rfl (lv_at hl 0 rfl) ?_
  refine lv_iconst (v := (0 : Int32)) hx hb dX1_endMoving_30 (by decide) ?_
  obtain ⟨M14, eM14, hf⟩ := xlet_x hf
  refine x_put (cf' := cX E b M14) C hm inX1 tyX1 tyX1_ok nmX1 rfl 14 (by decide) tf_RX1_59 rfl rfl rfl (cx_Heap (L_u0 0 _ rfl)) (Nat.le_of_ble_eq_true rfl) (by rw [eM14]; exact cu_Heap_14 (L_u0 0 _ rfl)) (by rw [eM14]; exact cX_o) dX1_endMoving_31 (fun H locs hm => ?_)
  cases hf
  exact x_vret C hm trivial dX1_endMoving_34
/-! ColouredHeap$Heap.fieldOf(II)I -/
theorem dX1_fieldOf_0 : decode cX1_fieldOf 0 = .ok (.iload_n 1, 1) := by decide +kernel
theorem dX1_fieldOf_1 : decode cX1_fieldOf 1 = .ok (.iconst 1, 1) := by decide +kernel
theorem dX1_fieldOf_2 : decode cX1_fieldOf 2 = .ok (.iadd, 1) := by decide +kernel
theorem dX1_fieldOf_3 : decode cX1_fieldOf 3 = .ok (.iload_n 2, 1) := by decide +kernel
theorem dX1_fieldOf_4 : decode cX1_fieldOf 4 = .ok (.iadd, 1) := by decide +kernel
theorem dX1_fieldOf_5 : decode cX1_fieldOf 5 = .ok (.istore_n 3, 1) := by decide +kernel
theorem dX1_fieldOf_6 : decode cX1_fieldOf 6 = .ok (.iload_n 2, 1) := by decide +kernel
theorem dX1_fieldOf_7 : decode cX1_fieldOf 7 = .ok (.ifCond .lt 29, 3) := by decide +kernel
theorem dX1_fieldOf_10 : decode cX1_fieldOf 10 = .ok (.iload_n 2, 1) := by decide +kernel
theorem dX1_fieldOf_11 : decode cX1_fieldOf 11 = .ok (.aload_n 0, 1) := by decide +kernel
theorem dX1_fieldOf_12 : decode cX1_fieldOf 12 = .ok (.iload_n 1, 1) := by decide +kernel
theorem dX1_fieldOf_13 : decode cX1_fieldOf 13 = .ok (.invokevirtual 94, 3) := by decide +kernel
theorem dX1_fieldOf_16 : decode cX1_fieldOf 16 = .ok (.iconst 1, 1) := by decide +kernel
theorem dX1_fieldOf_17 : decode cX1_fieldOf 17 = .ok (.isub, 1) := by decide +kernel
theorem dX1_fieldOf_18 : decode cX1_fieldOf 18 = .ok (.if_icmp .ge 18, 3) := by decide +kernel
theorem dX1_fieldOf_21 : decode cX1_fieldOf 21 = .ok (.iload_n 3, 1) := by decide +kernel
theorem dX1_fieldOf_22 : decode cX1_fieldOf 22 = .ok (.bipush 64, 2) := by decide +kernel
theorem dX1_fieldOf_24 : decode cX1_fieldOf 24 = .ok (.if_icmp .ge 12, 3) := by decide +kernel
theorem dX1_fieldOf_27 : decode cX1_fieldOf 27 = .ok (.aload_n 0, 1) := by decide +kernel
theorem dX1_fieldOf_28 : decode cX1_fieldOf 28 = .ok (.getfield 9, 3) := by decide +kernel
theorem dX1_fieldOf_31 : decode cX1_fieldOf 31 = .ok (.iload_n 3, 1) := by decide +kernel
theorem dX1_fieldOf_32 : decode cX1_fieldOf 32 = .ok (.iaload, 1) := by decide +kernel
theorem dX1_fieldOf_33 : decode cX1_fieldOf 33 = .ok (.goto 4, 3) := by decide +kernel
theorem dX1_fieldOf_36 : decode cX1_fieldOf 36 = .ok (.iconst (-1), 1) := by decide +kernel
theorem dX1_fieldOf_37 : decode cX1_fieldOf 37 = .ok (.ireturn, 1) := by decide +kernel
def f_X1_fieldOf (u0 : Nat) (M : xm) (a1 : Int32) (a2 : Int32) : Option (Int32) := xlet ((a1 + (1 : Int32)) + a2) (fun v1 => (if a2 < 0 then some (-1 : Int32) else xb1 (f_X1_sizeAt u0 M a1) (fun v4 => (if (v4 - (1 : Int32)) ≤ a2 then some (-1 : Int32) else (if (64 : Int32) ≤ v1 then some (-1 : Int32) else if xin v1 64 = true then some (M (u0 + 1) (Int32.toNatClampNeg v1)) else none)))))
set_option maxHeartbeats 4000000 in
set_option maxRecDepth 20000 in
theorem c_X1_fieldOf (l : Launch) (E : xE) (b : Nat) {u0 : Nat} (L_u0 : lat u0 pHeap) (M : xm) (a1 : Int32) (a2 : Int32) {r : Int32} (hf : f_X1_fieldOf u0 M a1 a2 = some r) :
    xMet l E b NX yX1_fieldOf cX1_fieldOf 4 (some .int) (xR 3) [.ref (b + u0), .int a1, .int a2] (cX E b M) (some (.int r)) True (cX E b M) := by
  refine xMet.ofW (own := RX1) (by decide) rfl (Nat.le_of_ble_eq_true rfl) ?_
  intro p e s m below meth c H locs ls C hm hl
  have hx := C.1.1
  have hb := C.1.2.1
  have hl : lv_has ls 4 [(0, .ref (b + u0)), (1, .int a1), (2, .int a2)] := hl
  unfold f_X1_fieldOf at hf
  refine lv_iload_n hx hb dX1_fieldOf_0 rfl (lv_at hl 1 rfl) ?_
  refine lv_iconst (v := (1 : Int32)) hx hb dX1_fieldOf_1 (by decide) ?_
  refine lv_iadd hx hb dX1_fieldOf_2 ?_
  refine lv_iload_n hx hb dX1_fieldOf_3 rfl (lv_at hl 2 rfl) ?_
  refine lv_iadd hx hb dX1_fieldOf_4 ?_
  refine lv_topi (fun v1 ev1 => ?_)
  have hf := xlet_e ev1 hf
  refine lv_istore_n (lv' := [(3, .int v1), (0, .ref (b + u0)), (1, .int a1), (2, .int a2)]) hx hb dX1_fieldOf_5 rfl hl (by decide) rfl (fun ls hl => ?_)
  refine lv_iload_n hx hb dX1_fieldOf_6 rfl (lv_at hl 3 rfl) ?_
  refine lv_if_lt (tgt := 36) hx hb dX1_fieldOf_7 (by decide) (fun hc2 => ?_) (fun hc2 => ?_)
  · have hf := xif_t hc2 hf
    refine lv_iconst (v := (-1 : Int32)) hx hb dX1_fieldOf_36 (by decide) ?_
    cases hf
    exact x_iret C hm trivial dX1_fieldOf_37
  have hf := xif_f hc2 hf
  refine lv_iload_n hx hb dX1_fieldOf_10 rfl (lv_at hl 3 rfl) ?_
  refine lv_aload_n hx hb dX1_fieldOf_11 rfl (lv_at hl 1 rfl) ?_
  refine lv_iload_n hx hb dX1_fieldOf_12 rfl (lv_at hl 2 rfl) ?_
  obtain ⟨v4, hq3, hf⟩ := xb1_e hf
  refine x_callVi (As := [.int a1]) (rest := [.int a2]) C hm (c_X1_sizeAt l E b L_u0 M a1 hq3) rfl (cx_Heap (L_u0 0 _ rfl)) tc_X1_sizeAt tm_RX1_94 ti_X1_sizeAt ts_X1_sizeAt tn_RX1 td_X1_sizeAt rfl rfl ⟨Nat.le_of_ble_eq_true rfl, Nat.le_of_ble_eq_true rfl⟩ rfl hl.1 rfl (Nat.le_of_ble_eq_true rfl) ⟨Nat.zero_le _, Nat.zero_le _⟩ dX1_fieldOf_13 (fun H locs hP5 hm => ?_)
  refine lv_iconst (v := (1 : Int32)) hx hb dX1_fieldOf_16 (by decide) ?_
  refine lv_isub hx hb dX1_fieldOf_17 ?_
  refine lv_icmp_ge (tgt := 36) hx hb dX1_fieldOf_18 (by decide) (fun hc6 => ?_) (fun hc6 => ?_)
  · have hf := xif_t hc6 hf
    refine lv_iconst (v := (-1 : Int32)) hx hb dX1_fieldOf_36 (by decide) ?_
    cases hf
    exact x_iret C hm trivial dX1_fieldOf_37
  have hf := xif_f hc6 hf
  refine lv_iload_n hx hb dX1_fieldOf_21 rfl (lv_at hl 0 rfl) ?_
  refine lv_bipush (v := (64 : Int32)) hx hb dX1_fieldOf_22 (by decide) ?_
  refine lv_icmp_ge (tgt := 36) hx hb dX1_fieldOf_24 (by decide) (fun hc7 => ?_) (fun hc7 => ?_)
  · have hf := xif_t hc7 hf
    refine lv_iconst (v := (-1 : Int32)) hx hb dX1_fieldOf_36 (by decide) ?_
    cases hf
    exact x_iret C hm trivial dX1_fieldOf_37
  have hf := xif_f hc7 hf
  refine lv_aload_n hx hb dX1_fieldOf_27 rfl (lv_at hl 1 rfl) ?_
  refine x_get C hm inX1 rfl 0 (by decide) tf_RX1_9 (cx_Heap (L_u0 0 _ rfl)) rfl dX1_fieldOf_28 ?_
  refine lv_iload_n hx hb dX1_fieldOf_31 rfl (lv_at hl 0 rfl) ?_
  obtain ⟨hi8, hf⟩ := xif_s hf
  refine x_iald (j := (Int32.toNatClampNeg v1)) C hm (cx_I (L_u0 1 _ rfl)) hi8 dX1_fieldOf_32 rfl ?_
  refine lv_goto (tgt := 37) hx hb dX1_fieldOf_33 (by decide) ?_
  cases hf
  exact x_iret C hm trivial dX1_fieldOf_37
/-! ColouredHeap$Heap.mark(I)V -/
theorem dX1_mark_0 : decode cX1_mark 0 = .ok (.iload_n 1, 1) := by decide +kernel
theorem dX1_mark_1 : decode cX1_mark 1 = .ok (.ifCond .lt 61, 3) := by decide +kernel
theorem dX1_mark_4 : decode cX1_mark 4 = .ok (.iload_n 1, 1) := by decide +kernel
theorem dX1_mark_5 : decode cX1_mark 5 = .ok (.bipush 64, 2) := by decide +kernel
theorem dX1_mark_7 : decode cX1_mark 7 = .ok (.if_icmp .ge 55, 3) := by decide +kernel
theorem dX1_mark_10 : decode cX1_mark 10 = .ok (.aload_n 0, 1) := by decide +kernel
theorem dX1_mark_11 : decode cX1_mark 11 = .ok (.getfield 18, 3) := by decide +kernel
theorem dX1_mark_14 : decode cX1_mark 14 = .ok (.iload_n 1, 1) := by decide +kernel
theorem dX1_mark_15 : decode cX1_mark 15 = .ok (.iaload, 1) := by decide +kernel
theorem dX1_mark_16 : decode cX1_mark 16 = .ok (.ifCond .ne 46, 3) := by decide +kernel
theorem dX1_mark_19 : decode cX1_mark 19 = .ok (.aload_n 0, 1) := by decide +kernel
theorem dX1_mark_20 : decode cX1_mark 20 = .ok (.getfield 9, 3) := by decide +kernel
theorem dX1_mark_23 : decode cX1_mark 23 = .ok (.iload_n 1, 1) := by decide +kernel
theorem dX1_mark_24 : decode cX1_mark 24 = .ok (.iaload, 1) := by decide +kernel
theorem dX1_mark_25 : decode cX1_mark 25 = .ok (.sipush 1000, 3) := by decide +kernel
theorem dX1_mark_28 : decode cX1_mark 28 = .ok (.if_icmp .lt 34, 3) := by decide +kernel
theorem dX1_mark_31 : decode cX1_mark 31 = .ok (.aload_n 0, 1) := by decide +kernel
theorem dX1_mark_32 : decode cX1_mark 32 = .ok (.getfield 18, 3) := by decide +kernel
theorem dX1_mark_35 : decode cX1_mark 35 = .ok (.iload_n 1, 1) := by decide +kernel
theorem dX1_mark_36 : decode cX1_mark 36 = .ok (.iconst 1, 1) := by decide +kernel
theorem dX1_mark_37 : decode cX1_mark 37 = .ok (.iastore, 1) := by decide +kernel
theorem dX1_mark_38 : decode cX1_mark 38 = .ok (.aload_n 0, 1) := by decide +kernel
theorem dX1_mark_39 : decode cX1_mark 39 = .ok (.getfield 24, 3) := by decide +kernel
theorem dX1_mark_42 : decode cX1_mark 42 = .ok (.iload_n 1, 1) := by decide +kernel
theorem dX1_mark_43 : decode cX1_mark 43 = .ok (.bipush 8, 2) := by decide +kernel
theorem dX1_mark_45 : decode cX1_mark 45 = .ok (.idiv, 1) := by decide +kernel
theorem dX1_mark_46 : decode cX1_mark 46 = .ok (.dup2, 1) := by decide +kernel
theorem dX1_mark_47 : decode cX1_mark 47 = .ok (.iaload, 1) := by decide +kernel
theorem dX1_mark_48 : decode cX1_mark 48 = .ok (.aload_n 0, 1) := by decide +kernel
theorem dX1_mark_49 : decode cX1_mark 49 = .ok (.getfield 9, 3) := by decide +kernel
theorem dX1_mark_52 : decode cX1_mark 52 = .ok (.iload_n 1, 1) := by decide +kernel
theorem dX1_mark_53 : decode cX1_mark 53 = .ok (.iaload, 1) := by decide +kernel
theorem dX1_mark_54 : decode cX1_mark 54 = .ok (.sipush 1000, 3) := by decide +kernel
theorem dX1_mark_57 : decode cX1_mark 57 = .ok (.isub, 1) := by decide +kernel
theorem dX1_mark_58 : decode cX1_mark 58 = .ok (.iconst 1, 1) := by decide +kernel
theorem dX1_mark_59 : decode cX1_mark 59 = .ok (.iadd, 1) := by decide +kernel
theorem dX1_mark_60 : decode cX1_mark 60 = .ok (.iadd, 1) := by decide +kernel
theorem dX1_mark_61 : decode cX1_mark 61 = .ok (.iastore, 1) := by decide +kernel
theorem dX1_mark_62 : decode cX1_mark 62 = .ok (.return_, 1) := by decide +kernel
def f_X1_mark (u0 : Nat) (M : xm) (a1 : Int32) : Option (xm) := (if a1 < 0 then some M else (if (64 : Int32) ≤ a1 then some M else if xin a1 64 = true then (if (M (u0 + 3) (Int32.toNatClampNeg a1)) = 0 then (if (M (u0 + 1) (Int32.toNatClampNeg a1)) < (1000 : Int32) then some M else xlet (up2 M (u0 + 3) (Int32.toNatClampNeg a1) (1 : Int32)) (fun M6 => if xin (a1 / (8 : Int32)) 8 = true then xlet (up2 M6 (u0 + 5) (Int32.toNatClampNeg (a1 / (8 : Int32))) ((M6 (u0 + 5) (Int32.toNatClampNeg (a1 / (8 : Int32)))) + (((M6 (u0 + 1) (Int32.toNatClampNeg a1)) - (1000 : Int32)) + (1 : Int32)))) (fun M8 => some M8) else none)) else some M) else none))
set_option maxHeartbeats 4000000 in
set_option maxRecDepth 20000 in
theorem c_X1_mark (l : Launch) (E : xE) (b : Nat) {u0 : Nat} (L_u0 : lat u0 pHeap) (M : xm) (a1 : Int32) {M' : xm} (hf : f_X1_mark u0 M a1 = some M') :
    xMet l E b NX yX1_mark cX1_mark 2 none (xR 1) [.ref (b + u0), .int a1] (cX E b M) none True (cX E b M') := by
  refine xMet.ofW (own := RX1) (by decide) rfl (Nat.le_of_ble_eq_true rfl) ?_
  intro p e s m below meth c H locs ls C hm hl
  have hx := C.1.1
  have hb := C.1.2.1
  have hl : lv_has ls 2 [(0, .ref (b + u0)), (1, .int a1)] := hl
  unfold f_X1_mark at hf
  refine lv_iload_n hx hb dX1_mark_0 rfl (lv_at hl 1 rfl) ?_
  refine lv_if_lt (tgt := 62) hx hb dX1_mark_1 (by decide) (fun hc1 => ?_) (fun hc1 => ?_)
  · have hf := xif_t hc1 hf
    cases hf
    exact x_vret C hm trivial dX1_mark_62
  have hf := xif_f hc1 hf
  refine lv_iload_n hx hb dX1_mark_4 rfl (lv_at hl 1 rfl) ?_
  refine lv_bipush (v := (64 : Int32)) hx hb dX1_mark_5 (by decide) ?_
  refine lv_icmp_ge (tgt := 62) hx hb dX1_mark_7 (by decide) (fun hc2 => ?_) (fun hc2 => ?_)
  · have hf := xif_t hc2 hf
    cases hf
    exact x_vret C hm trivial dX1_mark_62
  have hf := xif_f hc2 hf
  refine lv_aload_n hx hb dX1_mark_10 rfl (lv_at hl 0 rfl) ?_
  refine x_get C hm inX1 rfl 2 (by decide) tf_RX1_18 (cx_Heap (L_u0 0 _ rfl)) rfl dX1_mark_11 ?_
  refine lv_iload_n hx hb dX1_mark_14 rfl (lv_at hl 1 rfl) ?_
  obtain ⟨hi3, hf⟩ := xif_s hf
  refine x_iald (j := (Int32.toNatClampNeg a1)) C hm (cx_I (L_u0 3 _ rfl)) hi3 dX1_mark_15 rfl ?_
  refine lv_if_ne (tgt := 62) hx hb dX1_mark_16 (by decide) (fun hc4 => ?_) (fun hc4 => ?_)
  · have hf := xif_f hc4 hf
    cases hf
    exact x_vret C hm trivial dX1_mark_62
  have hf := xif_t hc4 hf
  refine lv_aload_n hx hb dX1_mark_19 rfl (lv_at hl 0 rfl) ?_
  refine x_get C hm inX1 rfl 0 (by decide) tf_RX1_9 (cx_Heap (L_u0 0 _ rfl)) rfl dX1_mark_20 ?_
  refine lv_iload_n hx hb dX1_mark_23 rfl (lv_at hl 1 rfl) ?_
  refine x_iald (j := (Int32.toNatClampNeg a1)) C hm (cx_I (L_u0 1 _ rfl)) hi3 dX1_mark_24 rfl ?_
  refine lv_sipush (v := (1000 : Int32)) hx hb dX1_mark_25 (by decide) ?_
  refine lv_icmp_lt (tgt := 62) hx hb dX1_mark_28 (by decide) (fun hc5 => ?_) (fun hc5 => ?_)
  · have hf := xif_t hc5 hf
    cases hf
    exact x_vret C hm trivial dX1_mark_62
  have hf := xif_f hc5 hf
  refine lv_aload_n hx hb dX1_mark_31 rfl (lv_at hl 0 rfl) ?_
  refine x_get C hm inX1 rfl 2 (by decide) tf_RX1_18 (cx_Heap (L_u0 0 _ rfl)) rfl dX1_mark_32 ?_
  refine lv_iload_n hx hb dX1_mark_35 rfl (lv_at hl 1 rfl) ?_
  refine lv_iconst (v := (1 : Int32)) hx hb dX1_mark_36 (by decide) ?_
  obtain ⟨M6, eM6, hf⟩ := xlet_x hf
  refine x_iast (j := (Int32.toNatClampNeg a1)) (cf' := cX E b M6) C hm (cx_I (L_u0 3 _ rfl)) hi3 dX1_mark_37 rfl (by rw [eM6]; exact cu_I (L_u0 3 _ rfl)) (by rw [eM6]; exact cX_o) (fun H locs hm => ?_)
  refine lv_aload_n hx hb dX1_mark_38 rfl (lv_at hl 0 rfl) ?_
  refine x_get C hm inX1 rfl 4 (by decide) tf_RX1_24 (cx_Heap (L_u0 0 _ rfl)) rfl dX1_mark_39 ?_
  refine lv_iload_n hx hb dX1_mark_42 rfl (lv_at hl 1 rfl) ?_
  refine lv_bipush (v := (8 : Int32)) hx hb dX1_mark_43 (by decide) ?_
  refine lv_idiv hx hb dX1_mark_45 (by decide) ?_
  refine lv_dup2_11 hx hb dX1_mark_46 rfl rfl ?_
  obtain ⟨hi7, hf⟩ := xif_s hf
  refine x_iald (j := (Int32.toNatClampNeg (a1 / (8 : Int32)))) C hm (cx_I (L_u0 5 _ rfl)) hi7 dX1_mark_47 rfl ?_
  refine lv_aload_n hx hb dX1_mark_48 rfl (lv_at hl 0 rfl) ?_
  refine x_get C hm inX1 rfl 0 (by decide) tf_RX1_9 (cx_Heap (L_u0 0 _ rfl)) rfl dX1_mark_49 ?_
  refine lv_iload_n hx hb dX1_mark_52 rfl (lv_at hl 1 rfl) ?_
  refine x_iald (j := (Int32.toNatClampNeg a1)) C hm (cx_I (L_u0 1 _ rfl)) hi3 dX1_mark_53 rfl ?_
  refine lv_sipush (v := (1000 : Int32)) hx hb dX1_mark_54 (by decide) ?_
  refine lv_isub hx hb dX1_mark_57 ?_
  refine lv_iconst (v := (1 : Int32)) hx hb dX1_mark_58 (by decide) ?_
  refine lv_iadd hx hb dX1_mark_59 ?_
  refine lv_iadd hx hb dX1_mark_60 ?_
  obtain ⟨M8, eM8, hf⟩ := xlet_x hf
  refine x_iast (j := (Int32.toNatClampNeg (a1 / (8 : Int32)))) (cf' := cX E b M8) C hm (cx_I (L_u0 5 _ rfl)) hi7 dX1_mark_61 rfl (by rw [eM8]; exact cu_I (L_u0 5 _ rfl)) (by rw [eM8]; exact cX_o) (fun H locs hm => ?_)
  cases hf
  exact x_vret C hm trivial dX1_mark_62
/-! ColouredHeap$Heap.markAndStack(I)V -/
theorem dX1_markAndStack_0 : decode cX1_markAndStack 0 = .ok (.iload_n 1, 1) := by decide +kernel
theorem dX1_markAndStack_1 : decode cX1_markAndStack 1 = .ok (.invokestatic 90, 3) := by decide +kernel
theorem dX1_markAndStack_4 : decode cX1_markAndStack 4 = .ok (.ifCond .eq 46, 3) := by decide +kernel
theorem dX1_markAndStack_7 : decode cX1_markAndStack 7 = .ok (.aload_n 0, 1) := by decide +kernel
theorem dX1_markAndStack_8 : decode cX1_markAndStack 8 = .ok (.getfield 18, 3) := by decide +kernel
theorem dX1_markAndStack_11 : decode cX1_markAndStack 11 = .ok (.iload_n 1, 1) := by decide +kernel
theorem dX1_markAndStack_12 : decode cX1_markAndStack 12 = .ok (.iaload, 1) := by decide +kernel
theorem dX1_markAndStack_13 : decode cX1_markAndStack 13 = .ok (.ifCond .ne 37, 3) := by decide +kernel
theorem dX1_markAndStack_16 : decode cX1_markAndStack 16 = .ok (.aload_n 0, 1) := by decide +kernel
theorem dX1_markAndStack_17 : decode cX1_markAndStack 17 = .ok (.getfield 55, 3) := by decide +kernel
theorem dX1_markAndStack_20 : decode cX1_markAndStack 20 = .ok (.bipush 64, 2) := by decide +kernel
theorem dX1_markAndStack_22 : decode cX1_markAndStack 22 = .ok (.if_icmp .ge 28, 3) := by decide +kernel
theorem dX1_markAndStack_25 : decode cX1_markAndStack 25 = .ok (.aload_n 0, 1) := by decide +kernel
theorem dX1_markAndStack_26 : decode cX1_markAndStack 26 = .ok (.iload_n 1, 1) := by decide +kernel
theorem dX1_markAndStack_27 : decode cX1_markAndStack 27 = .ok (.invokevirtual 117, 3) := by decide +kernel
theorem dX1_markAndStack_30 : decode cX1_markAndStack 30 = .ok (.aload_n 0, 1) := by decide +kernel
theorem dX1_markAndStack_31 : decode cX1_markAndStack 31 = .ok (.getfield 21, 3) := by decide +kernel
theorem dX1_markAndStack_34 : decode cX1_markAndStack 34 = .ok (.aload_n 0, 1) := by decide +kernel
theorem dX1_markAndStack_35 : decode cX1_markAndStack 35 = .ok (.getfield 55, 3) := by decide +kernel
theorem dX1_markAndStack_38 : decode cX1_markAndStack 38 = .ok (.iload_n 1, 1) := by decide +kernel
theorem dX1_markAndStack_39 : decode cX1_markAndStack 39 = .ok (.iastore, 1) := by decide +kernel
theorem dX1_markAndStack_40 : decode cX1_markAndStack 40 = .ok (.aload_n 0, 1) := by decide +kernel
theorem dX1_markAndStack_41 : decode cX1_markAndStack 41 = .ok (.dup, 1) := by decide +kernel
theorem dX1_markAndStack_42 : decode cX1_markAndStack 42 = .ok (.getfield 55, 3) := by decide +kernel
theorem dX1_markAndStack_45 : decode cX1_markAndStack 45 = .ok (.iconst 1, 1) := by decide +kernel
theorem dX1_markAndStack_46 : decode cX1_markAndStack 46 = .ok (.iadd, 1) := by decide +kernel
theorem dX1_markAndStack_47 : decode cX1_markAndStack 47 = .ok (.putfield 55, 3) := by decide +kernel
theorem dX1_markAndStack_50 : decode cX1_markAndStack 50 = .ok (.return_, 1) := by decide +kernel
def f_X1_markAndStack (u0 : Nat) (M : xm) (a1 : Int32) : Option (xm) := (if (f_X9_isAddress a1) = 0 then some M else if xin a1 64 = true then (if (M (u0 + 3) (Int32.toNatClampNeg a1)) = 0 then (if (64 : Int32) ≤ (M u0 13) then some M else xb1 (f_X1_mark u0 M a1) (fun M7 => if xin (M7 u0 13) 64 = true then xlet (up2 M7 (u0 + 4) (Int32.toNatClampNeg (M7 u0 13)) a1) (fun M10 => xlet (up2 M10 u0 13 ((M10 u0 13) + (1 : Int32))) (fun M11 => some M11)) else none)) else some M) else none)
set_option maxHeartbeats 4000000 in
set_option maxRecDepth 20000 in
theorem c_X1_markAndStack (l : Launch) (E : xE) (b : Nat) {u0 : Nat} (L_u0 : lat u0 pHeap) (M : xm) (a1 : Int32) {M' : xm} (hf : f_X1_markAndStack u0 M a1 = some M') :
    xMet l E b NX yX1_markAndStack cX1_markAndStack 2 none (xR 2) [.ref (b + u0), .int a1] (cX E b M) none True (cX E b M') := by
  refine xMet.ofW (own := RX1) (by decide) rfl (Nat.le_of_ble_eq_true rfl) ?_
  intro p e s m below meth c H locs ls C hm hl
  have hx := C.1.1
  have hb := C.1.2.1
  have hl : lv_has ls 2 [(0, .ref (b + u0)), (1, .int a1)] := hl
  unfold f_X1_markAndStack at hf
  refine lv_iload_n hx hb dX1_markAndStack_0 rfl (lv_at hl 1 rfl) ?_
  refine x_callSNi (As := [.int a1]) (rest := []) C hm (c_X9_isAddress l E b M a1 rfl) tc_X9_isAddress (by decide +kernel : (RX1, 90, yX9_isAddress, "ColouredHeap") ∈ xNest) tz_X9_isAddress tn_RX9 td_X9_isAddress rfl rfl ⟨Nat.le_of_ble_eq_true rfl, Nat.le_of_ble_eq_true rfl⟩ rfl hl.1 rfl (Nat.le_of_ble_eq_true rfl) ⟨Nat.zero_le _, Nat.zero_le _⟩ dX1_markAndStack_1 (fun H locs hP1 hm => ?_)
  refine lv_if_eq (tgt := 50) hx hb dX1_markAndStack_4 (by decide) (fun hc2 => ?_) (fun hc2 => ?_)
  · have hf := xif_t hc2 hf
    cases hf
    exact x_vret C hm trivial dX1_markAndStack_50
  have hf := xif_f hc2 hf
  refine lv_aload_n hx hb dX1_markAndStack_7 rfl (lv_at hl 0 rfl) ?_
  refine x_get C hm inX1 rfl 2 (by decide) tf_RX1_18 (cx_Heap (L_u0 0 _ rfl)) rfl dX1_markAndStack_8 ?_
  refine lv_iload_n hx hb dX1_markAndStack_11 rfl (lv_at hl 1 rfl) ?_
  obtain ⟨hi3, hf⟩ := xif_s hf
  refine x_iald (j := (Int32.toNatClampNeg a1)) C hm (cx_I (L_u0 3 _ rfl)) hi3 dX1_markAndStack_12 rfl ?_
  refine lv_if_ne (tgt := 50) hx hb dX1_markAndStack_13 (by decide) (fun hc4 => ?_) (fun hc4 => ?_)
  · have hf := xif_f hc4 hf
    cases hf
    exact x_vret C hm trivial dX1_markAndStack_50
  have hf := xif_t hc4 hf
  refine lv_aload_n hx hb dX1_markAndStack_16 rfl (lv_at hl 0 rfl) ?_
  refine x_get C hm inX1 rfl 13 (by decide) tf_RX1_55 (cx_Heap (L_u0 0 _ rfl)) rfl dX1_markAndStack_17 ?_
  refine lv_bipush (v := (64 : Int32)) hx hb dX1_markAndStack_20 (by decide) ?_
  refine lv_icmp_ge (tgt := 50) hx hb dX1_markAndStack_22 (by decide) (fun hc5 => ?_) (fun hc5 => ?_)
  · have hf := xif_t hc5 hf
    cases hf
    exact x_vret C hm trivial dX1_markAndStack_50
  have hf := xif_f hc5 hf
  refine lv_aload_n hx hb dX1_markAndStack_25 rfl (lv_at hl 0 rfl) ?_
  refine lv_iload_n hx hb dX1_markAndStack_26 rfl (lv_at hl 1 rfl) ?_
  obtain ⟨M7, hq6, hf⟩ := xb1_e hf
  refine x_callVv (As := [.int a1]) (rest := []) C hm (c_X1_mark l E b L_u0 M a1 hq6) rfl (cx_Heap (L_u0 0 _ rfl)) tc_X1_mark tm_RX1_117 ti_X1_mark ts_X1_mark tn_RX1 td_X1_mark rfl rfl ⟨Nat.le_of_ble_eq_true rfl, Nat.le_of_ble_eq_true rfl⟩ rfl hl.1 rfl (Nat.le_of_ble_eq_true rfl) ⟨Nat.zero_le _, Nat.zero_le _⟩ dX1_markAndStack_27 (fun H locs hP8 hm => ?_)
  refine lv_aload_n hx hb dX1_markAndStack_30 rfl (lv_at hl 0 rfl) ?_
  refine x_get C hm inX1 rfl 3 (by decide) tf_RX1_21 (cx_Heap (L_u0 0 _ rfl)) rfl dX1_markAndStack_31 ?_
  refine lv_aload_n hx hb dX1_markAndStack_34 rfl (lv_at hl 0 rfl) ?_
  refine x_get C hm inX1 rfl 13 (by decide) tf_RX1_55 (cx_Heap (L_u0 0 _ rfl)) rfl dX1_markAndStack_35 ?_
  refine lv_iload_n hx hb dX1_markAndStack_38 rfl (lv_at hl 1 rfl) ?_
  obtain ⟨hi9, hf⟩ := xif_s hf
  obtain ⟨M10, eM10, hf⟩ := xlet_x hf
  refine x_iast (j := (Int32.toNatClampNeg (M7 u0 13))) (cf' := cX E b M10) C hm (cx_I (L_u0 4 _ rfl)) hi9 dX1_markAndStack_39 rfl (by rw [eM10]; exact cu_I (L_u0 4 _ rfl)) (by rw [eM10]; exact cX_o) (fun H locs hm => ?_)
  refine lv_aload_n hx hb dX1_markAndStack_40 rfl (lv_at hl 0 rfl) ?_
  refine lv_dup hx hb dX1_markAndStack_41 rfl ?_
  refine x_get C hm inX1 rfl 13 (by decide) tf_RX1_55 (cx_Heap (L_u0 0 _ rfl)) rfl dX1_markAndStack_42 ?_
  refine lv_iconst (v := (1 : Int32)) hx hb dX1_markAndStack_45 (by decide) ?_
  refine lv_iadd hx hb dX1_markAndStack_46 ?_
  obtain ⟨M11, eM11, hf⟩ := xlet_x hf
  refine x_put (cf' := cX E b M11) C hm inX1 tyX1 tyX1_ok nmX1 rfl 13 (by decide) tf_RX1_55 rfl rfl rfl (cx_Heap (L_u0 0 _ rfl)) (Nat.le_of_ble_eq_true rfl) (by rw [eM11]; exact cu_Heap_13 (L_u0 0 _ rfl)) (by rw [eM11]; exact cX_o) dX1_markAndStack_47 (fun H locs hm => ?_)
  cases hf
  exact x_vret C hm trivial dX1_markAndStack_50
/-! ColouredHeap$Heap.tellForward(II)V -/
theorem dX1_tellForward_0 : decode cX1_tellForward 0 = .ok (.iload_n 1, 1) := by decide +kernel
theorem dX1_tellForward_1 : decode cX1_tellForward 1 = .ok (.invokestatic 90, 3) := by decide +kernel
theorem dX1_tellForward_4 : decode cX1_tellForward 4 = .ok (.ifCond .eq 28, 3) := by decide +kernel
theorem dX1_tellForward_7 : decode cX1_tellForward 7 = .ok (.aload_n 0, 1) := by decide +kernel
theorem dX1_tellForward_8 : decode cX1_tellForward 8 = .ok (.getfield 15, 3) := by decide +kernel
theorem dX1_tellForward_11 : decode cX1_tellForward 11 = .ok (.iload_n 1, 1) := by decide +kernel
theorem dX1_tellForward_12 : decode cX1_tellForward 12 = .ok (.iload_n 2, 1) := by decide +kernel
theorem dX1_tellForward_13 : decode cX1_tellForward 13 = .ok (.iastore, 1) := by decide +kernel
theorem dX1_tellForward_14 : decode cX1_tellForward 14 = .ok (.aload_n 0, 1) := by decide +kernel
theorem dX1_tellForward_15 : decode cX1_tellForward 15 = .ok (.iload_n 2, 1) := by decide +kernel
theorem dX1_tellForward_16 : decode cX1_tellForward 16 = .ok (.invokevirtual 117, 3) := by decide +kernel
theorem dX1_tellForward_19 : decode cX1_tellForward 19 = .ok (.aload_n 0, 1) := by decide +kernel
theorem dX1_tellForward_20 : decode cX1_tellForward 20 = .ok (.getfield 51, 3) := by decide +kernel
theorem dX1_tellForward_23 : decode cX1_tellForward 23 = .ok (.aload_n 0, 1) := by decide +kernel
theorem dX1_tellForward_24 : decode cX1_tellForward 24 = .ok (.getfield 68, 3) := by decide +kernel
theorem dX1_tellForward_27 : decode cX1_tellForward 27 = .ok (.iconst 4, 1) := by decide +kernel
theorem dX1_tellForward_28 : decode cX1_tellForward 28 = .ok (.iload_n 1, 1) := by decide +kernel
theorem dX1_tellForward_29 : decode cX1_tellForward 29 = .ok (.invokevirtual 121, 3) := by decide +kernel
theorem dX1_tellForward_32 : decode cX1_tellForward 32 = .ok (.return_, 1) := by decide +kernel
def f_X1_tellForward (u0 : Nat) (M : xm) (a1 : Int32) (a2 : Int32) : Option (xm) := (if (f_X9_isAddress a1) = 0 then some M else if xin a1 64 = true then xlet (up2 M (u0 + 2) (Int32.toNatClampNeg a1) a2) (fun M4 => xb1 (f_X1_mark u0 M4 a2) (fun M6 => xb1 (f_X0_write (u0 + 13) M6 (M6 u0 17) (4 : Int32) a1) (fun M9 => some M9))) else none)
set_option maxHeartbeats 4000000 in
set_option maxRecDepth 20000 in
theorem c_X1_tellForward (l : Launch) (E : xE) (b : Nat) {u0 : Nat} (L_u0 : lat u0 pHeap) (M : xm) (a1 : Int32) (a2 : Int32) {M' : xm} (hf : f_X1_tellForward u0 M a1 a2 = some M') :
    xMet l E b NX yX1_tellForward cX1_tellForward 3 none (xR 2) [.ref (b + u0), .int a1, .int a2] (cX E b M) none True (cX E b M') := by
  refine xMet.ofW (own := RX1) (by decide) rfl (Nat.le_of_ble_eq_true rfl) ?_
  intro p e s m below meth c H locs ls C hm hl
  have hx := C.1.1
  have hb := C.1.2.1
  have hl : lv_has ls 3 [(0, .ref (b + u0)), (1, .int a1), (2, .int a2)] := hl
  unfold f_X1_tellForward at hf
  refine lv_iload_n hx hb dX1_tellForward_0 rfl (lv_at hl 1 rfl) ?_
  refine x_callSNi (As := [.int a1]) (rest := []) C hm (c_X9_isAddress l E b M a1 rfl) tc_X9_isAddress (by decide +kernel : (RX1, 90, yX9_isAddress, "ColouredHeap") ∈ xNest) tz_X9_isAddress tn_RX9 td_X9_isAddress rfl rfl ⟨Nat.le_of_ble_eq_true rfl, Nat.le_of_ble_eq_true rfl⟩ rfl hl.1 rfl (Nat.le_of_ble_eq_true rfl) ⟨Nat.zero_le _, Nat.zero_le _⟩ dX1_tellForward_1 (fun H locs hP1 hm => ?_)
  refine lv_if_eq (tgt := 32) hx hb dX1_tellForward_4 (by decide) (fun hc2 => ?_) (fun hc2 => ?_)
  · have hf := xif_t hc2 hf
    cases hf
    exact x_vret C hm trivial dX1_tellForward_32
  have hf := xif_f hc2 hf
  refine lv_aload_n hx hb dX1_tellForward_7 rfl (lv_at hl 0 rfl) ?_
  refine x_get C hm inX1 rfl 1 (by decide) tf_RX1_15 (cx_Heap (L_u0 0 _ rfl)) rfl dX1_tellForward_8 ?_
  refine lv_iload_n hx hb dX1_tellForward_11 rfl (lv_at hl 1 rfl) ?_
  refine lv_iload_n hx hb dX1_tellForward_12 rfl (lv_at hl 2 rfl) ?_
  obtain ⟨hi3, hf⟩ := xif_s hf
  obtain ⟨M4, eM4, hf⟩ := xlet_x hf
  refine x_iast (j := (Int32.toNatClampNeg a1)) (cf' := cX E b M4) C hm (cx_I (L_u0 2 _ rfl)) hi3 dX1_tellForward_13 rfl (by rw [eM4]; exact cu_I (L_u0 2 _ rfl)) (by rw [eM4]; exact cX_o) (fun H locs hm => ?_)
  refine lv_aload_n hx hb dX1_tellForward_14 rfl (lv_at hl 0 rfl) ?_
  refine lv_iload_n hx hb dX1_tellForward_15 rfl (lv_at hl 2 rfl) ?_
  obtain ⟨M6, hq5, hf⟩ := xb1_e hf
  refine x_callVv (As := [.int a2]) (rest := []) C hm (c_X1_mark l E b L_u0 M4 a2 hq5) rfl (cx_Heap (L_u0 0 _ rfl)) tc_X1_mark tm_RX1_117 ti_X1_mark ts_X1_mark tn_RX1 td_X1_mark rfl rfl ⟨Nat.le_of_ble_eq_true rfl, Nat.le_of_ble_eq_true rfl⟩ rfl hl.1 rfl (Nat.le_of_ble_eq_true rfl) ⟨Nat.zero_le _, Nat.zero_le _⟩ dX1_tellForward_16 (fun H locs hP7 hm => ?_)
  refine lv_aload_n hx hb dX1_tellForward_19 rfl (lv_at hl 0 rfl) ?_
  refine x_get C hm inX1 rfl 12 (by decide) tf_RX1_51 (cx_Heap (L_u0 0 _ rfl)) rfl dX1_tellForward_20 ?_
  refine lv_aload_n hx hb dX1_tellForward_23 rfl (lv_at hl 0 rfl) ?_
  refine x_get C hm inX1 rfl 17 (by decide) tf_RX1_68 (cx_Heap (L_u0 0 _ rfl)) rfl dX1_tellForward_24 ?_
  refine lv_iconst (v := (4 : Int32)) hx hb dX1_tellForward_27 (by decide) ?_
  refine lv_iload_n hx hb dX1_tellForward_28 rfl (lv_at hl 1 rfl) ?_
  obtain ⟨M9, hq8, hf⟩ := xb1_e hf
  refine x_callVv (As := [.int (M6 u0 17), .int (4 : Int32), .int a1]) (rest := []) C hm (c_X0_write l E b (lat_book L_u0) M6 (M6 u0 17) (4 : Int32) a1 hq8) rfl (cx_Book ((lat_book L_u0) 0 _ rfl)) tc_X0_write tm_RX1_121 ti_X0_write ts_X0_write tn_RX0 td_X0_write rfl rfl ⟨Nat.le_of_ble_eq_true rfl, Nat.le_of_ble_eq_true rfl⟩ rfl hl.1 rfl (Nat.le_of_ble_eq_true rfl) ⟨Nat.zero_le _, Nat.zero_le _⟩ dX1_tellForward_29 (fun H locs hP10 hm => ?_)
  cases hf
  exact x_vret C hm trivial dX1_tellForward_32
/-! ColouredHeap$Heap.moveObject(I)I -/
theorem dX1_moveObject_0 : decode cX1_moveObject 0 = .ok (.aload_n 0, 1) := by decide +kernel
theorem dX1_moveObject_1 : decode cX1_moveObject 1 = .ok (.iload_n 1, 1) := by decide +kernel
theorem dX1_moveObject_2 : decode cX1_moveObject 2 = .ok (.invokevirtual 94, 3) := by decide +kernel
theorem dX1_moveObject_5 : decode cX1_moveObject 5 = .ok (.istore_n 2, 1) := by decide +kernel
theorem dX1_moveObject_6 : decode cX1_moveObject 6 = .ok (.aload_n 0, 1) := by decide +kernel
theorem dX1_moveObject_7 : decode cX1_moveObject 7 = .ok (.iconst 1, 1) := by decide +kernel
theorem dX1_moveObject_8 : decode cX1_moveObject 8 = .ok (.iload_n 2, 1) := by decide +kernel
theorem dX1_moveObject_9 : decode cX1_moveObject 9 = .ok (.invokevirtual 125, 3) := by decide +kernel
theorem dX1_moveObject_12 : decode cX1_moveObject 12 = .ok (.istore_n 3, 1) := by decide +kernel
theorem dX1_moveObject_13 : decode cX1_moveObject 13 = .ok (.iload_n 3, 1) := by decide +kernel
theorem dX1_moveObject_14 : decode cX1_moveObject 14 = .ok (.iconst (-1), 1) := by decide +kernel
theorem dX1_moveObject_15 : decode cX1_moveObject 15 = .ok (.if_icmp .eq 16, 3) := by decide +kernel
theorem dX1_moveObject_18 : decode cX1_moveObject 18 = .ok (.aload_n 0, 1) := by decide +kernel
theorem dX1_moveObject_19 : decode cX1_moveObject 19 = .ok (.iload_n 1, 1) := by decide +kernel
theorem dX1_moveObject_20 : decode cX1_moveObject 20 = .ok (.iload_n 3, 1) := by decide +kernel
theorem dX1_moveObject_21 : decode cX1_moveObject 21 = .ok (.iload_n 2, 1) := by decide +kernel
theorem dX1_moveObject_22 : decode cX1_moveObject 22 = .ok (.invokevirtual 128, 3) := by decide +kernel
theorem dX1_moveObject_25 : decode cX1_moveObject 25 = .ok (.aload_n 0, 1) := by decide +kernel
theorem dX1_moveObject_26 : decode cX1_moveObject 26 = .ok (.iload_n 1, 1) := by decide +kernel
theorem dX1_moveObject_27 : decode cX1_moveObject 27 = .ok (.iload_n 3, 1) := by decide +kernel
theorem dX1_moveObject_28 : decode cX1_moveObject 28 = .ok (.invokevirtual 131, 3) := by decide +kernel
theorem dX1_moveObject_31 : decode cX1_moveObject 31 = .ok (.iload_n 3, 1) := by decide +kernel
theorem dX1_moveObject_32 : decode cX1_moveObject 32 = .ok (.ireturn, 1) := by decide +kernel
def f_X1_moveObject (u0 : Nat) (M : xm) (a1 : Int32) : Option (Int32 × xm) := xb1 (f_X1_sizeAt u0 M a1) (fun v2 => xb2 (f_X1_giveOut u0 M (1 : Int32) v2) (fun v5 M6 => (if v5 = (-1 : Int32) then some (v5, M6) else xb1 (f_X1_copyWords u0 M6 a1 v5 v2) (fun M10 => xb1 (f_X1_tellForward u0 M10 a1 v5) (fun M13 => some (v5, M13))))))
set_option maxHeartbeats 4000000 in
set_option maxRecDepth 20000 in
theorem c_X1_moveObject (l : Launch) (E : xE) (b : Nat) {u0 : Nat} (L_u0 : lat u0 pHeap) (M : xm) (a1 : Int32) {r : Int32} {M' : xm} (hf : f_X1_moveObject u0 M a1 = some (r, M')) :
    xMet l E b NX yX1_moveObject cX1_moveObject 4 (some .int) (xR 3) [.ref (b + u0), .int a1] (cX E b M) (some (.int r)) True (cX E b M') := by
  refine xMet.ofW (own := RX1) (by decide) rfl (Nat.le_of_ble_eq_true rfl) ?_
  intro p e s m below meth c H locs ls C hm hl
  have hx := C.1.1
  have hb := C.1.2.1
  have hl : lv_has ls 4 [(0, .ref (b + u0)), (1, .int a1)] := hl
  unfold f_X1_moveObject at hf
  refine lv_aload_n hx hb dX1_moveObject_0 rfl (lv_at hl 0 rfl) ?_
  refine lv_iload_n hx hb dX1_moveObject_1 rfl (lv_at hl 1 rfl) ?_
  obtain ⟨v2, hq1, hf⟩ := xb1_e hf
  refine x_callVi (As := [.int a1]) (rest := []) C hm (c_X1_sizeAt l E b L_u0 M a1 hq1) rfl (cx_Heap (L_u0 0 _ rfl)) tc_X1_sizeAt tm_RX1_94 ti_X1_sizeAt ts_X1_sizeAt tn_RX1 td_X1_sizeAt rfl rfl ⟨Nat.le_of_ble_eq_true rfl, Nat.le_of_ble_eq_true rfl⟩ rfl hl.1 rfl (Nat.le_of_ble_eq_true rfl) ⟨Nat.zero_le _, Nat.zero_le _⟩ dX1_moveObject_2 (fun H locs hP3 hm => ?_)
  refine lv_istore_n (lv' := [(2, .int v2), (0, .ref (b + u0)), (1, .int a1)]) hx hb dX1_moveObject_5 rfl hl (by decide) rfl (fun ls hl => ?_)
  refine lv_aload_n hx hb dX1_moveObject_6 rfl (lv_at hl 1 rfl) ?_
  refine lv_iconst (v := (1 : Int32)) hx hb dX1_moveObject_7 (by decide) ?_
  refine lv_iload_n hx hb dX1_moveObject_8 rfl (lv_at hl 0 rfl) ?_
  obtain ⟨v5, M6, hq4, hf⟩ := xb2_e hf
  refine x_callVi (As := [.int (1 : Int32), .int v2]) (rest := []) C hm (c_X1_giveOut l E b L_u0 M (1 : Int32) v2 hq4) rfl (cx_Heap (L_u0 0 _ rfl)) tc_X1_giveOut tm_RX1_125 ti_X1_giveOut ts_X1_giveOut tn_RX1 td_X1_giveOut rfl rfl ⟨Nat.le_of_ble_eq_true rfl, Nat.le_of_ble_eq_true rfl⟩ rfl hl.1 rfl (Nat.le_of_ble_eq_true rfl) ⟨Nat.zero_le _, Nat.zero_le _⟩ dX1_moveObject_9 (fun H locs hP7 hm => ?_)
  refine lv_istore_n (lv' := [(3, .int v5), (2, .int v2), (0, .ref (b + u0)), (1, .int a1)]) hx hb dX1_moveObject_12 rfl hl (by decide) rfl (fun ls hl => ?_)
  refine lv_iload_n hx hb dX1_moveObject_13 rfl (lv_at hl 0 rfl) ?_
  refine lv_iconst (v := (-1 : Int32)) hx hb dX1_moveObject_14 (by decide) ?_
  refine lv_icmp_eq (tgt := 31) hx hb dX1_moveObject_15 (by decide) (fun hc8 => ?_) (fun hc8 => ?_)
  · have hf := xif_t hc8 hf
    refine lv_iload_n hx hb dX1_moveObject_31 rfl (lv_at hl 0 rfl) ?_
    cases hf
    exact x_iret C hm trivial dX1_moveObject_32
  have hf := xif_f hc8 hf
  refine lv_aload_n hx hb dX1_moveObject_18 rfl (lv_at hl 2 rfl) ?_
  refine lv_iload_n hx hb dX1_moveObject_19 rfl (lv_at hl 3 rfl) ?_
  refine lv_iload_n hx hb dX1_moveObject_20 rfl (lv_at hl 0 rfl) ?_
  refine lv_iload_n hx hb dX1_moveObject_21 rfl (lv_at hl 1 rfl) ?_
  obtain ⟨M10, hq9, hf⟩ := xb1_e hf
  refine x_callVv (As := [.int a1, .int v5, .int v2]) (rest := []) C hm (c_X1_copyWords l E b L_u0 M6 a1 v5 v2 hq9) rfl (cx_Heap (L_u0 0 _ rfl)) tc_X1_copyWords tm_RX1_128 ti_X1_copyWords ts_X1_copyWords tn_RX1 td_X1_copyWords rfl rfl ⟨Nat.le_of_ble_eq_true rfl, Nat.le_of_ble_eq_true rfl⟩ rfl hl.1 rfl (Nat.le_of_ble_eq_true rfl) ⟨Nat.zero_le _, Nat.zero_le _⟩ dX1_moveObject_22 (fun H locs hP11 hm => ?_)
  refine lv_aload_n hx hb dX1_moveObject_25 rfl (lv_at hl 2 rfl) ?_
  refine lv_iload_n hx hb dX1_moveObject_26 rfl (lv_at hl 3 rfl) ?_
  refine lv_iload_n hx hb dX1_moveObject_27 rfl (lv_at hl 0 rfl) ?_
  obtain ⟨M13, hq12, hf⟩ := xb1_e hf
  refine x_callVv (As := [.int a1, .int v5]) (rest := []) C hm (c_X1_tellForward l E b L_u0 M10 a1 v5 hq12) rfl (cx_Heap (L_u0 0 _ rfl)) tc_X1_tellForward tm_RX1_131 ti_X1_tellForward ts_X1_tellForward tn_RX1 td_X1_tellForward rfl rfl ⟨Nat.le_of_ble_eq_true rfl, Nat.le_of_ble_eq_true rfl⟩ rfl hl.1 rfl (Nat.le_of_ble_eq_true rfl) ⟨Nat.zero_le _, Nat.zero_le _⟩ dX1_moveObject_28 (fun H locs hP14 hm => ?_)
  refine lv_iload_n hx hb dX1_moveObject_31 rfl (lv_at hl 0 rfl) ?_
  cases hf
  exact x_iret C hm trivial dX1_moveObject_32
/-! ColouredHeap$Heap.mend(I)I -/
theorem dX1_mend_0 : decode cX1_mend 0 = .ok (.iload_n 1, 1) := by decide +kernel
theorem dX1_mend_1 : decode cX1_mend 1 = .ok (.ifCond .lt 14, 3) := by decide +kernel
theorem dX1_mend_4 : decode cX1_mend 4 = .ok (.iload_n 1, 1) := by decide +kernel
theorem dX1_mend_5 : decode cX1_mend 5 = .ok (.bipush 64, 2) := by decide +kernel
theorem dX1_mend_7 : decode cX1_mend 7 = .ok (.idiv, 1) := by decide +kernel
theorem dX1_mend_8 : decode cX1_mend 8 = .ok (.aload_n 0, 1) := by decide +kernel
theorem dX1_mend_9 : decode cX1_mend 9 = .ok (.getfield 62, 3) := by decide +kernel
theorem dX1_mend_12 : decode cX1_mend 12 = .ok (.if_icmp .ne 5, 3) := by decide +kernel
theorem dX1_mend_15 : decode cX1_mend 15 = .ok (.iload_n 1, 1) := by decide +kernel
theorem dX1_mend_16 : decode cX1_mend 16 = .ok (.ireturn, 1) := by decide +kernel
theorem dX1_mend_17 : decode cX1_mend 17 = .ok (.aload_n 0, 1) := by decide +kernel
theorem dX1_mend_18 : decode cX1_mend 18 = .ok (.iload_n 1, 1) := by decide +kernel
theorem dX1_mend_19 : decode cX1_mend 19 = .ok (.invokevirtual 135, 3) := by decide +kernel
theorem dX1_mend_22 : decode cX1_mend 22 = .ok (.istore_n 2, 1) := by decide +kernel
theorem dX1_mend_23 : decode cX1_mend 23 = .ok (.aload_n 0, 1) := by decide +kernel
theorem dX1_mend_24 : decode cX1_mend 24 = .ok (.getfield 59, 3) := by decide +kernel
theorem dX1_mend_27 : decode cX1_mend 27 = .ok (.iconst 1, 1) := by decide +kernel
theorem dX1_mend_28 : decode cX1_mend 28 = .ok (.if_icmp .ne 11, 3) := by decide +kernel
theorem dX1_mend_31 : decode cX1_mend 31 = .ok (.aload_n 0, 1) := by decide +kernel
theorem dX1_mend_32 : decode cX1_mend 32 = .ok (.iload_n 2, 1) := by decide +kernel
theorem dX1_mend_33 : decode cX1_mend 33 = .ok (.invokevirtual 138, 3) := by decide +kernel
theorem dX1_mend_36 : decode cX1_mend 36 = .ok (.goto 17, 3) := by decide +kernel
theorem dX1_mend_39 : decode cX1_mend 39 = .ok (.aload_n 0, 1) := by decide +kernel
theorem dX1_mend_40 : decode cX1_mend 40 = .ok (.iload_n 2, 1) := by decide +kernel
theorem dX1_mend_41 : decode cX1_mend 41 = .ok (.invokevirtual 141, 3) := by decide +kernel
theorem dX1_mend_44 : decode cX1_mend 44 = .ok (.ifCond .eq 9, 3) := by decide +kernel
theorem dX1_mend_47 : decode cX1_mend 47 = .ok (.aload_n 0, 1) := by decide +kernel
theorem dX1_mend_48 : decode cX1_mend 48 = .ok (.iload_n 2, 1) := by decide +kernel
theorem dX1_mend_49 : decode cX1_mend 49 = .ok (.invokevirtual 144, 3) := by decide +kernel
theorem dX1_mend_52 : decode cX1_mend 52 = .ok (.istore_n 2, 1) := by decide +kernel
theorem dX1_mend_53 : decode cX1_mend 53 = .ok (.iload_n 2, 1) := by decide +kernel
theorem dX1_mend_54 : decode cX1_mend 54 = .ok (.iconst (-1), 1) := by decide +kernel
theorem dX1_mend_55 : decode cX1_mend 55 = .ok (.if_icmp .ne 8, 3) := by decide +kernel
theorem dX1_mend_58 : decode cX1_mend 58 = .ok (.bipush (-2), 2) := by decide +kernel
theorem dX1_mend_60 : decode cX1_mend 60 = .ok (.goto 12, 3) := by decide +kernel
theorem dX1_mend_63 : decode cX1_mend 63 = .ok (.aload_n 0, 1) := by decide +kernel
theorem dX1_mend_64 : decode cX1_mend 64 = .ok (.getfield 62, 3) := by decide +kernel
theorem dX1_mend_67 : decode cX1_mend 67 = .ok (.bipush 64, 2) := by decide +kernel
theorem dX1_mend_69 : decode cX1_mend 69 = .ok (.imul, 1) := by decide +kernel
theorem dX1_mend_70 : decode cX1_mend 70 = .ok (.iload_n 2, 1) := by decide +kernel
theorem dX1_mend_71 : decode cX1_mend 71 = .ok (.iadd, 1) := by decide +kernel
theorem dX1_mend_72 : decode cX1_mend 72 = .ok (.ireturn, 1) := by decide +kernel
def f_X1_mend (u0 : Nat) (M : xm) (a1 : Int32) : Option (Int32 × xm) := (if a1 < 0 then some (a1, M) else (if (a1 / (64 : Int32)) = (M u0 15) then some (a1, M) else xb1 (f_X1_leadsTo u0 M a1) (fun v4 => xlet (fun (w6 : Int32) (M7 : xm) => (if w6 = (-1 : Int32) then some ((-2 : Int32), M7) else some ((((M7 u0 15) * (64 : Int32)) + w6), M7))) (fun k8 => (if (M u0 14) = (1 : Int32) then xb1 (f_X1_markAndStack u0 M v4) (fun M20 => (k8 v4 M20)) else xb1 (f_X1_mustMove u0 M v4) (fun v12 => (if v12 = 0 then (k8 v4 M) else xb2 (f_X1_moveObject u0 M v4) (fun v16 M17 => (k8 v16 M17)))))))))
set_option maxHeartbeats 4000000 in
set_option maxRecDepth 20000 in
theorem c_X1_mend (l : Launch) (E : xE) (b : Nat) {u0 : Nat} (L_u0 : lat u0 pHeap) (M : xm) (a1 : Int32) {r : Int32} {M' : xm} (hf : f_X1_mend u0 M a1 = some (r, M')) :
    xMet l E b NX yX1_mend cX1_mend 3 (some .int) (xR 4) [.ref (b + u0), .int a1] (cX E b M) (some (.int r)) True (cX E b M') := by
  refine xMet.ofW (own := RX1) (by decide) rfl (Nat.le_of_ble_eq_true rfl) ?_
  intro p e s m below meth c H locs ls C hm hl
  have hx := C.1.1
  have hb := C.1.2.1
  have hl : lv_has ls 3 [(0, .ref (b + u0)), (1, .int a1)] := hl
  unfold f_X1_mend at hf
  refine lv_iload_n hx hb dX1_mend_0 rfl (lv_at hl 1 rfl) ?_
  refine lv_if_lt (tgt := 15) hx hb dX1_mend_1 (by decide) (fun hc1 => ?_) (fun hc1 => ?_)
  · have hf := xif_t hc1 hf
    refine lv_iload_n hx hb dX1_mend_15 rfl (lv_at hl 1 rfl) ?_
    cases hf
    exact x_iret C hm trivial dX1_mend_16
  have hf := xif_f hc1 hf
  refine lv_iload_n hx hb dX1_mend_4 rfl (lv_at hl 1 rfl) ?_
  refine lv_bipush (v := (64 : Int32)) hx hb dX1_mend_5 (by decide) ?_
  refine lv_idiv hx hb dX1_mend_7 (by decide) ?_
  refine lv_aload_n hx hb dX1_mend_8 rfl (lv_at hl 0 rfl) ?_
  refine x_get C hm inX1 rfl 15 (by decide) tf_RX1_62 (cx_Heap (L_u0 0 _ rfl)) rfl dX1_mend_9 ?_
  refine lv_icmp_ne (tgt := 17) hx hb dX1_mend_12 (by decide) (fun hc2 => ?_) (fun hc2 => ?_)
  rotate_left
  · have hf := xif_t hc2 hf
    refine lv_iload_n hx hb dX1_mend_15 rfl (lv_at hl 1 rfl) ?_
    cases hf
    exact x_iret C hm trivial dX1_mend_16
  have hf := xif_f hc2 hf
  refine lv_aload_n hx hb dX1_mend_17 rfl (lv_at hl 0 rfl) ?_
  refine lv_iload_n hx hb dX1_mend_18 rfl (lv_at hl 1 rfl) ?_
  obtain ⟨v4, hq3, hf⟩ := xb1_e hf
  refine x_callVi (As := [.int a1]) (rest := []) C hm (c_X1_leadsTo l E b L_u0 M a1 hq3) rfl (cx_Heap (L_u0 0 _ rfl)) tc_X1_leadsTo tm_RX1_135 ti_X1_leadsTo ts_X1_leadsTo tn_RX1 td_X1_leadsTo rfl rfl ⟨Nat.le_of_ble_eq_true rfl, Nat.le_of_ble_eq_true rfl⟩ rfl hl.1 rfl (Nat.le_of_ble_eq_true rfl) ⟨Nat.zero_le _, Nat.zero_le _⟩ dX1_mend_19 (fun H locs hP5 hm => ?_)
  refine lv_istore_n (lv' := [(2, .int v4), (0, .ref (b + u0)), (1, .int a1)]) hx hb dX1_mend_22 rfl hl (by decide) rfl (fun ls hl => ?_)
  refine lv_aload_n hx hb dX1_mend_23 rfl (lv_at hl 1 rfl) ?_
  refine x_get C hm inX1 rfl 14 (by decide) tf_RX1_59 (cx_Heap (L_u0 0 _ rfl)) rfl dX1_mend_24 ?_
  refine lv_iconst (v := (1 : Int32)) hx hb dX1_mend_27 (by decide) ?_
  obtain ⟨k8, ek8, hf⟩ := xlet_x hf
  have jk8 : ∀ (w6 : Int32) (M7 : xm) (H : Heap) (locs : List Loc) (ls : Array Slot), k8 w6 M7 = some (r, M') → xM E b NX (cX E b M7) s.heap H locs → lv_has ls 3 [(0, .ref (b + u0)), (2, .int w6)] → W p l e (xR 4) s m ([.ref (b + u0), .int a1] : List Value).toArray below meth c H locs 0 0 (MQ below (xQ E b NX (some (.int r)) True (cX E b M')) ([.ref (b + u0), .int a1] : List Value).toArray s 0 0 (xA b NX)) (F0 m 53 ls []) := by
    intro w6 M7 H locs ls hf hm hl
    have hf := xap2 ek8 hf
    refine lv_iload_n hx hb dX1_mend_53 rfl (lv_at hl 1 rfl) ?_
    refine lv_iconst (v := (-1 : Int32)) hx hb dX1_mend_54 (by decide) ?_
    refine lv_icmp_ne (tgt := 63) hx hb dX1_mend_55 (by decide) (fun hc9 => ?_) (fun hc9 => ?_)
    rotate_left
    · have hf := xif_t hc9 hf
      refine lv_bipush (v := (-2 : Int32)) hx hb dX1_mend_58 (by decide) ?_
      refine lv_goto (tgt := 72) hx hb dX1_mend_60 (by decide) ?_
      cases hf
      exact x_iret C hm trivial dX1_mend_72
    have hf := xif_f hc9 hf
    refine lv_aload_n hx hb dX1_mend_63 rfl (lv_at hl 0 rfl) ?_
    refine x_get C hm inX1 rfl 15 (by decide) tf_RX1_62 (cx_Heap (L_u0 0 _ rfl)) rfl dX1_mend_64 ?_
    refine lv_bipush (v := (64 : Int32)) hx hb dX1_mend_67 (by decide) ?_
    refine lv_imul hx hb dX1_mend_69 ?_
    refine lv_iload_n hx hb dX1_mend_70 rfl (lv_at hl 1 rfl) ?_
    refine lv_iadd hx hb dX1_mend_71 ?_
    cases hf
    exact x_iret C hm trivial dX1_mend_72
  refine lv_icmp_ne (tgt := 39) hx hb dX1_mend_28 (by decide) (fun hc10 => ?_) (fun hc10 => ?_)
  rotate_left
  · have hf := xif_t hc10 hf
    refine lv_aload_n hx hb dX1_mend_31 rfl (lv_at hl 1 rfl) ?_
    refine lv_iload_n hx hb dX1_mend_32 rfl (lv_at hl 0 rfl) ?_
    obtain ⟨M20, hq19, hf⟩ := xb1_e hf
    refine x_callVv (As := [.int v4]) (rest := []) C hm (c_X1_markAndStack l E b L_u0 M v4 hq19) rfl (cx_Heap (L_u0 0 _ rfl)) tc_X1_markAndStack tm_RX1_138 ti_X1_markAndStack ts_X1_markAndStack tn_RX1 td_X1_markAndStack rfl rfl ⟨Nat.le_of_ble_eq_true rfl, Nat.le_of_ble_eq_true rfl⟩ rfl hl.1 rfl (Nat.le_of_ble_eq_true rfl) ⟨Nat.zero_le _, Nat.zero_le _⟩ dX1_mend_33 (fun H locs hP21 hm => ?_)
    refine lv_goto (tgt := 53) hx hb dX1_mend_36 (by decide) ?_
    exact jk8 v4 M20 H locs ls  hf hm (lv_sub hl [1, 0] rfl)
  have hf := xif_f hc10 hf
  refine lv_aload_n hx hb dX1_mend_39 rfl (lv_at hl 1 rfl) ?_
  refine lv_iload_n hx hb dX1_mend_40 rfl (lv_at hl 0 rfl) ?_
  obtain ⟨v12, hq11, hf⟩ := xb1_e hf
  refine x_callVi (As := [.int v4]) (rest := []) C hm (c_X1_mustMove l E b L_u0 M v4 hq11) rfl (cx_Heap (L_u0 0 _ rfl)) tc_X1_mustMove tm_RX1_141 ti_X1_mustMove ts_X1_mustMove tn_RX1 td_X1_mustMove rfl rfl ⟨Nat.le_of_ble_eq_true rfl, Nat.le_of_ble_eq_true rfl⟩ rfl hl.1 rfl (Nat.le_of_ble_eq_true rfl) ⟨Nat.zero_le _, Nat.zero_le _⟩ dX1_mend_41 (fun H locs hP13 hm => ?_)
  refine lv_if_eq (tgt := 53) hx hb dX1_mend_44 (by decide) (fun hc14 => ?_) (fun hc14 => ?_)
  · have hf := xif_t hc14 hf
    exact jk8 v4 M H locs ls  hf hm (lv_sub hl [1, 0] rfl)
  have hf := xif_f hc14 hf
  refine lv_aload_n hx hb dX1_mend_47 rfl (lv_at hl 1 rfl) ?_
  refine lv_iload_n hx hb dX1_mend_48 rfl (lv_at hl 0 rfl) ?_
  obtain ⟨v16, M17, hq15, hf⟩ := xb2_e hf
  refine x_callVi (As := [.int v4]) (rest := []) C hm (c_X1_moveObject l E b L_u0 M v4 hq15) rfl (cx_Heap (L_u0 0 _ rfl)) tc_X1_moveObject tm_RX1_144 ti_X1_moveObject ts_X1_moveObject tn_RX1 td_X1_moveObject rfl rfl ⟨Nat.le_of_ble_eq_true rfl, Nat.le_of_ble_eq_true rfl⟩ rfl hl.1 rfl (Nat.le_of_ble_eq_true rfl) ⟨Nat.zero_le _, Nat.zero_le _⟩ dX1_mend_49 (fun H locs hP18 hm => ?_)
  refine lv_istore_n (lv' := [(2, .int v16), (0, .ref (b + u0)), (1, .int a1)]) hx hb dX1_mend_52 rfl hl (by decide) rfl (fun ls hl => ?_)
  exact jk8 v16 M17 H locs ls  hf hm (lv_sub hl [1, 0] rfl)
/-! ColouredHeap$Heap.settleCopy(II)V -/
theorem dX1_settleCopy_0 : decode cX1_settleCopy 0 = .ok (.iload_n 2, 1) := by decide +kernel
theorem dX1_settleCopy_1 : decode cX1_settleCopy 1 = .ok (.invokestatic 90, 3) := by decide +kernel
theorem dX1_settleCopy_4 : decode cX1_settleCopy 4 = .ok (.ifCond .ne 4, 3) := by decide +kernel
theorem dX1_settleCopy_7 : decode cX1_settleCopy 7 = .ok (.return_, 1) := by decide +kernel
theorem dX1_settleCopy_8 : decode cX1_settleCopy 8 = .ok (.aload_n 0, 1) := by decide +kernel
theorem dX1_settleCopy_9 : decode cX1_settleCopy 9 = .ok (.iload_n 1, 1) := by decide +kernel
theorem dX1_settleCopy_10 : decode cX1_settleCopy 10 = .ok (.invokevirtual 141, 3) := by decide +kernel
theorem dX1_settleCopy_13 : decode cX1_settleCopy 13 = .ok (.ifCond .eq 10, 3) := by decide +kernel
theorem dX1_settleCopy_16 : decode cX1_settleCopy 16 = .ok (.aload_n 0, 1) := by decide +kernel
theorem dX1_settleCopy_17 : decode cX1_settleCopy 17 = .ok (.iload_n 1, 1) := by decide +kernel
theorem dX1_settleCopy_18 : decode cX1_settleCopy 18 = .ok (.iload_n 2, 1) := by decide +kernel
theorem dX1_settleCopy_19 : decode cX1_settleCopy 19 = .ok (.invokevirtual 131, 3) := by decide +kernel
theorem dX1_settleCopy_22 : decode cX1_settleCopy 22 = .ok (.return_, 1) := by decide +kernel
theorem dX1_settleCopy_23 : decode cX1_settleCopy 23 = .ok (.iload_n 2, 1) := by decide +kernel
theorem dX1_settleCopy_24 : decode cX1_settleCopy 24 = .ok (.bipush 8, 2) := by decide +kernel
theorem dX1_settleCopy_26 : decode cX1_settleCopy 26 = .ok (.idiv, 1) := by decide +kernel
theorem dX1_settleCopy_27 : decode cX1_settleCopy 27 = .ok (.istore_n 3, 1) := by decide +kernel
theorem dX1_settleCopy_28 : decode cX1_settleCopy 28 = .ok (.aload_n 0, 1) := by decide +kernel
theorem dX1_settleCopy_29 : decode cX1_settleCopy 29 = .ok (.iload_n 2, 1) := by decide +kernel
theorem dX1_settleCopy_30 : decode cX1_settleCopy 30 = .ok (.invokevirtual 94, 3) := by decide +kernel
theorem dX1_settleCopy_33 : decode cX1_settleCopy 33 = .ok (.istore 4, 2) := by decide +kernel
theorem dX1_settleCopy_35 : decode cX1_settleCopy 35 = .ok (.iload_n 2, 1) := by decide +kernel
theorem dX1_settleCopy_36 : decode cX1_settleCopy 36 = .ok (.iload 4, 2) := by decide +kernel
theorem dX1_settleCopy_38 : decode cX1_settleCopy 38 = .ok (.iadd, 1) := by decide +kernel
theorem dX1_settleCopy_39 : decode cX1_settleCopy 39 = .ok (.iload_n 3, 1) := by decide +kernel
theorem dX1_settleCopy_40 : decode cX1_settleCopy 40 = .ok (.bipush 8, 2) := by decide +kernel
theorem dX1_settleCopy_42 : decode cX1_settleCopy 42 = .ok (.imul, 1) := by decide +kernel
theorem dX1_settleCopy_43 : decode cX1_settleCopy 43 = .ok (.aload_n 0, 1) := by decide +kernel
theorem dX1_settleCopy_44 : decode cX1_settleCopy 44 = .ok (.getfield 27, 3) := by decide +kernel
theorem dX1_settleCopy_47 : decode cX1_settleCopy 47 = .ok (.iload_n 3, 1) := by decide +kernel
theorem dX1_settleCopy_48 : decode cX1_settleCopy 48 = .ok (.iaload, 1) := by decide +kernel
theorem dX1_settleCopy_49 : decode cX1_settleCopy 49 = .ok (.iadd, 1) := by decide +kernel
theorem dX1_settleCopy_50 : decode cX1_settleCopy 50 = .ok (.if_icmp .ne 23, 3) := by decide +kernel
theorem dX1_settleCopy_53 : decode cX1_settleCopy 53 = .ok (.aload_n 0, 1) := by decide +kernel
theorem dX1_settleCopy_54 : decode cX1_settleCopy 54 = .ok (.getfield 27, 3) := by decide +kernel
theorem dX1_settleCopy_57 : decode cX1_settleCopy 57 = .ok (.iload_n 3, 1) := by decide +kernel
theorem dX1_settleCopy_58 : decode cX1_settleCopy 58 = .ok (.dup2, 1) := by decide +kernel
theorem dX1_settleCopy_59 : decode cX1_settleCopy 59 = .ok (.iaload, 1) := by decide +kernel
theorem dX1_settleCopy_60 : decode cX1_settleCopy 60 = .ok (.iload 4, 2) := by decide +kernel
theorem dX1_settleCopy_62 : decode cX1_settleCopy 62 = .ok (.isub, 1) := by decide +kernel
theorem dX1_settleCopy_63 : decode cX1_settleCopy 63 = .ok (.iastore, 1) := by decide +kernel
theorem dX1_settleCopy_64 : decode cX1_settleCopy 64 = .ok (.aload_n 0, 1) := by decide +kernel
theorem dX1_settleCopy_65 : decode cX1_settleCopy 65 = .ok (.iload_n 2, 1) := by decide +kernel
theorem dX1_settleCopy_66 : decode cX1_settleCopy 66 = .ok (.iload_n 2, 1) := by decide +kernel
theorem dX1_settleCopy_67 : decode cX1_settleCopy 67 = .ok (.iload 4, 2) := by decide +kernel
theorem dX1_settleCopy_69 : decode cX1_settleCopy 69 = .ok (.iadd, 1) := by decide +kernel
theorem dX1_settleCopy_70 : decode cX1_settleCopy 70 = .ok (.invokevirtual 159, 3) := by decide +kernel
theorem dX1_settleCopy_73 : decode cX1_settleCopy 73 = .ok (.return_, 1) := by decide +kernel
def f_X1_settleCopy (u0 : Nat) (M : xm) (a1 : Int32) (a2 : Int32) : Option (xm) := (if (f_X9_isAddress a2) = 0 then some M else xb1 (f_X1_mustMove u0 M a1) (fun v4 => (if v4 = 0 then xlet (a2 / (8 : Int32)) (fun v7 => xb1 (f_X1_sizeAt u0 M a2) (fun v9 => if xin v7 8 = true then (if (a2 + v9) = ((v7 * (8 : Int32)) + (M (u0 + 6) (Int32.toNatClampNeg v7))) then xlet (up2 M (u0 + 6) (Int32.toNatClampNeg v7) ((M (u0 + 6) (Int32.toNatClampNeg v7)) - v9)) (fun M13 => xb1 (f_X1_clearWords u0 M13 a2 (a2 + v9)) (fun M15 => some M15)) else some M) else none)) else xb1 (f_X1_tellForward u0 M a1 a2) (fun M18 => some M18))))
set_option maxHeartbeats 4000000 in
set_option maxRecDepth 20000 in
theorem c_X1_settleCopy (l : Launch) (E : xE) (b : Nat) {u0 : Nat} (L_u0 : lat u0 pHeap) (M : xm) (a1 : Int32) (a2 : Int32) {M' : xm} (hf : f_X1_settleCopy u0 M a1 a2 = some M') :
    xMet l E b NX yX1_settleCopy cX1_settleCopy 5 none (xR 3) [.ref (b + u0), .int a1, .int a2] (cX E b M) none True (cX E b M') := by
  refine xMet.ofW (own := RX1) (by decide) rfl (Nat.le_of_ble_eq_true rfl) ?_
  intro p e s m below meth c H locs ls C hm hl
  have hx := C.1.1
  have hb := C.1.2.1
  have hl : lv_has ls 5 [(0, .ref (b + u0)), (1, .int a1), (2, .int a2)] := hl
  unfold f_X1_settleCopy at hf
  refine lv_iload_n hx hb dX1_settleCopy_0 rfl (lv_at hl 2 rfl) ?_
  refine x_callSNi (As := [.int a2]) (rest := []) C hm (c_X9_isAddress l E b M a2 rfl) tc_X9_isAddress (by decide +kernel : (RX1, 90, yX9_isAddress, "ColouredHeap") ∈ xNest) tz_X9_isAddress tn_RX9 td_X9_isAddress rfl rfl ⟨Nat.le_of_ble_eq_true rfl, Nat.le_of_ble_eq_true rfl⟩ rfl hl.1 rfl (Nat.le_of_ble_eq_true rfl) ⟨Nat.zero_le _, Nat.zero_le _⟩ dX1_settleCopy_1 (fun H locs hP1 hm => ?_)
  refine lv_if_ne (tgt := 8) hx hb dX1_settleCopy_4 (by decide) (fun hc2 => ?_) (fun hc2 => ?_)
  rotate_left
  · have hf := xif_t hc2 hf
    cases hf
    exact x_vret C hm trivial dX1_settleCopy_7
  have hf := xif_f hc2 hf
  refine lv_aload_n hx hb dX1_settleCopy_8 rfl (lv_at hl 0 rfl) ?_
  refine lv_iload_n hx hb dX1_settleCopy_9 rfl (lv_at hl 1 rfl) ?_
  obtain ⟨v4, hq3, hf⟩ := xb1_e hf
  refine x_callVi (As := [.int a1]) (rest := []) C hm (c_X1_mustMove l E b L_u0 M a1 hq3) rfl (cx_Heap (L_u0 0 _ rfl)) tc_X1_mustMove tm_RX1_141 ti_X1_mustMove ts_X1_mustMove tn_RX1 td_X1_mustMove rfl rfl ⟨Nat.le_of_ble_eq_true rfl, Nat.le_of_ble_eq_true rfl⟩ rfl hl.1 rfl (Nat.le_of_ble_eq_true rfl) ⟨Nat.zero_le _, Nat.zero_le _⟩ dX1_settleCopy_10 (fun H locs hP5 hm => ?_)
  refine lv_if_eq (tgt := 23) hx hb dX1_settleCopy_13 (by decide) (fun hc6 => ?_) (fun hc6 => ?_)
  rotate_left
  · have hf := xif_f hc6 hf
    refine lv_aload_n hx hb dX1_settleCopy_16 rfl (lv_at hl 0 rfl) ?_
    refine lv_iload_n hx hb dX1_settleCopy_17 rfl (lv_at hl 1 rfl) ?_
    refine lv_iload_n hx hb dX1_settleCopy_18 rfl (lv_at hl 2 rfl) ?_
    obtain ⟨M18, hq17, hf⟩ := xb1_e hf
    refine x_callVv (As := [.int a1, .int a2]) (rest := []) C hm (c_X1_tellForward l E b L_u0 M a1 a2 hq17) rfl (cx_Heap (L_u0 0 _ rfl)) tc_X1_tellForward tm_RX1_131 ti_X1_tellForward ts_X1_tellForward tn_RX1 td_X1_tellForward rfl rfl ⟨Nat.le_of_ble_eq_true rfl, Nat.le_of_ble_eq_true rfl⟩ rfl hl.1 rfl (Nat.le_of_ble_eq_true rfl) ⟨Nat.zero_le _, Nat.zero_le _⟩ dX1_settleCopy_19 (fun H locs hP19 hm => ?_)
    cases hf
    exact x_vret C hm trivial dX1_settleCopy_22
  have hf := xif_t hc6 hf
  refine lv_iload_n hx hb dX1_settleCopy_23 rfl (lv_at hl 2 rfl) ?_
  refine lv_bipush (v := (8 : Int32)) hx hb dX1_settleCopy_24 (by decide) ?_
  refine lv_idiv hx hb dX1_settleCopy_26 (by decide) ?_
  refine lv_topi (fun v7 ev7 => ?_)
  have hf := xlet_e ev7 hf
  refine lv_istore_n (lv' := [(3, .int v7), (0, .ref (b + u0)), (1, .int a1), (2, .int a2)]) hx hb dX1_settleCopy_27 rfl hl (by decide) rfl (fun ls hl => ?_)
  refine lv_aload_n hx hb dX1_settleCopy_28 rfl (lv_at hl 1 rfl) ?_
  refine lv_iload_n hx hb dX1_settleCopy_29 rfl (lv_at hl 3 rfl) ?_
  obtain ⟨v9, hq8, hf⟩ := xb1_e hf
  refine x_callVi (As := [.int a2]) (rest := []) C hm (c_X1_sizeAt l E b L_u0 M a2 hq8) rfl (cx_Heap (L_u0 0 _ rfl)) tc_X1_sizeAt tm_RX1_94 ti_X1_sizeAt ts_X1_sizeAt tn_RX1 td_X1_sizeAt rfl rfl ⟨Nat.le_of_ble_eq_true rfl, Nat.le_of_ble_eq_true rfl⟩ rfl hl.1 rfl (Nat.le_of_ble_eq_true rfl) ⟨Nat.zero_le _, Nat.zero_le _⟩ dX1_settleCopy_30 (fun H locs hP10 hm => ?_)
  refine lv_istore (lv' := [(4, .int v9), (3, .int v7), (0, .ref (b + u0)), (1, .int a1), (2, .int a2)]) hx hb dX1_settleCopy_33 hl (by decide) rfl (fun ls hl => ?_)
  refine lv_iload_n hx hb dX1_settleCopy_35 rfl (lv_at hl 4 rfl) ?_
  refine lv_iload hx hb dX1_settleCopy_36 (lv_at hl 0 rfl) ?_
  refine lv_iadd hx hb dX1_settleCopy_38 ?_
  refine lv_iload_n hx hb dX1_settleCopy_39 rfl (lv_at hl 1 rfl) ?_
  refine lv_bipush (v := (8 : Int32)) hx hb dX1_settleCopy_40 (by decide) ?_
  refine lv_imul hx hb dX1_settleCopy_42 ?_
  refine lv_aload_n hx hb dX1_settleCopy_43 rfl (lv_at hl 2 rfl) ?_
  refine x_get C hm inX1 rfl 5 (by decide) tf_RX1_27 (cx_Heap (L_u0 0 _ rfl)) rfl dX1_settleCopy_44 ?_
  refine lv_iload_n hx hb dX1_settleCopy_47 rfl (lv_at hl 1 rfl) ?_
  obtain ⟨hi11, hf⟩ := xif_s hf
  refine x_iald (j := (Int32.toNatClampNeg v7)) C hm (cx_I (L_u0 6 _ rfl)) hi11 dX1_settleCopy_48 rfl ?_
  refine lv_iadd hx hb dX1_settleCopy_49 ?_
  refine lv_icmp_ne (tgt := 73) hx hb dX1_settleCopy_50 (by decide) (fun hc12 => ?_) (fun hc12 => ?_)
  · have hf := xif_f hc12 hf
    cases hf
    exact x_vret C hm trivial dX1_settleCopy_73
  have hf := xif_t hc12 hf
  refine lv_aload_n hx hb dX1_settleCopy_53 rfl (lv_at hl 2 rfl) ?_
  refine x_get C hm inX1 rfl 5 (by decide) tf_RX1_27 (cx_Heap (L_u0 0 _ rfl)) rfl dX1_settleCopy_54 ?_
  refine lv_iload_n hx hb dX1_settleCopy_57 rfl (lv_at hl 1 rfl) ?_
  refine lv_dup2_11 hx hb dX1_settleCopy_58 rfl rfl ?_
  refine x_iald (j := (Int32.toNatClampNeg v7)) C hm (cx_I (L_u0 6 _ rfl)) hi11 dX1_settleCopy_59 rfl ?_
  refine lv_iload hx hb dX1_settleCopy_60 (lv_at hl 0 rfl) ?_
  refine lv_isub hx hb dX1_settleCopy_62 ?_
  obtain ⟨M13, eM13, hf⟩ := xlet_x hf
  refine x_iast (j := (Int32.toNatClampNeg v7)) (cf' := cX E b M13) C hm (cx_I (L_u0 6 _ rfl)) hi11 dX1_settleCopy_63 rfl (by rw [eM13]; exact cu_I (L_u0 6 _ rfl)) (by rw [eM13]; exact cX_o) (fun H locs hm => ?_)
  refine lv_aload_n hx hb dX1_settleCopy_64 rfl (lv_at hl 2 rfl) ?_
  refine lv_iload_n hx hb dX1_settleCopy_65 rfl (lv_at hl 4 rfl) ?_
  refine lv_iload_n hx hb dX1_settleCopy_66 rfl (lv_at hl 4 rfl) ?_
  refine lv_iload hx hb dX1_settleCopy_67 (lv_at hl 0 rfl) ?_
  refine lv_iadd hx hb dX1_settleCopy_69 ?_
  obtain ⟨M15, hq14, hf⟩ := xb1_e hf
  refine x_callVv (As := [.int a2, .int (a2 + v9)]) (rest := []) C hm (c_X1_clearWords l E b L_u0 M13 a2 (a2 + v9) hq14) rfl (cx_Heap (L_u0 0 _ rfl)) tc_X1_clearWords tm_RX1_159 ti_X1_clearWords ts_X1_clearWords tn_RX1 td_X1_clearWords rfl rfl ⟨Nat.le_of_ble_eq_true rfl, Nat.le_of_ble_eq_true rfl⟩ rfl hl.1 rfl (Nat.le_of_ble_eq_true rfl) ⟨Nat.zero_le _, Nat.zero_le _⟩ dX1_settleCopy_70 (fun H locs hP16 hm => ?_)
  cases hf
  exact x_vret C hm trivial dX1_settleCopy_73
/-! ColouredHeap$Heap.writeMended(II)V -/
theorem dX1_writeMended_0 : decode cX1_writeMended 0 = .ok (.iload_n 2, 1) := by decide +kernel
theorem dX1_writeMended_1 : decode cX1_writeMended 1 = .ok (.bipush (-2), 2) := by decide +kernel
theorem dX1_writeMended_3 : decode cX1_writeMended 3 = .ok (.if_icmp .eq 40, 3) := by decide +kernel
theorem dX1_writeMended_6 : decode cX1_writeMended 6 = .ok (.iload_n 1, 1) := by decide +kernel
theorem dX1_writeMended_7 : decode cX1_writeMended 7 = .ok (.invokestatic 90, 3) := by decide +kernel
theorem dX1_writeMended_10 : decode cX1_writeMended 10 = .ok (.ifCond .eq 33, 3) := by decide +kernel
theorem dX1_writeMended_13 : decode cX1_writeMended 13 = .ok (.aload_n 0, 1) := by decide +kernel
theorem dX1_writeMended_14 : decode cX1_writeMended 14 = .ok (.getfield 9, 3) := by decide +kernel
theorem dX1_writeMended_17 : decode cX1_writeMended 17 = .ok (.iload_n 1, 1) := by decide +kernel
theorem dX1_writeMended_18 : decode cX1_writeMended 18 = .ok (.iaload, 1) := by decide +kernel
theorem dX1_writeMended_19 : decode cX1_writeMended 19 = .ok (.iload_n 2, 1) := by decide +kernel
theorem dX1_writeMended_20 : decode cX1_writeMended 20 = .ok (.if_icmp .eq 23, 3) := by decide +kernel
theorem dX1_writeMended_23 : decode cX1_writeMended 23 = .ok (.aload_n 0, 1) := by decide +kernel
theorem dX1_writeMended_24 : decode cX1_writeMended 24 = .ok (.getfield 9, 3) := by decide +kernel
theorem dX1_writeMended_27 : decode cX1_writeMended 27 = .ok (.iload_n 1, 1) := by decide +kernel
theorem dX1_writeMended_28 : decode cX1_writeMended 28 = .ok (.iload_n 2, 1) := by decide +kernel
theorem dX1_writeMended_29 : decode cX1_writeMended 29 = .ok (.iastore, 1) := by decide +kernel
theorem dX1_writeMended_30 : decode cX1_writeMended 30 = .ok (.aload_n 0, 1) := by decide +kernel
theorem dX1_writeMended_31 : decode cX1_writeMended 31 = .ok (.getfield 51, 3) := by decide +kernel
theorem dX1_writeMended_34 : decode cX1_writeMended 34 = .ok (.aload_n 0, 1) := by decide +kernel
theorem dX1_writeMended_35 : decode cX1_writeMended 35 = .ok (.getfield 68, 3) := by decide +kernel
theorem dX1_writeMended_38 : decode cX1_writeMended 38 = .ok (.iconst 5, 1) := by decide +kernel
theorem dX1_writeMended_39 : decode cX1_writeMended 39 = .ok (.iload_n 1, 1) := by decide +kernel
theorem dX1_writeMended_40 : decode cX1_writeMended 40 = .ok (.invokevirtual 121, 3) := by decide +kernel
theorem dX1_writeMended_43 : decode cX1_writeMended 43 = .ok (.return_, 1) := by decide +kernel
def f_X1_writeMended (u0 : Nat) (M : xm) (a1 : Int32) (a2 : Int32) : Option (xm) := (if a2 = (-2 : Int32) then some M else (if (f_X9_isAddress a1) = 0 then some M else if xin a1 64 = true then (if (M (u0 + 1) (Int32.toNatClampNeg a1)) = a2 then some M else xlet (up2 M (u0 + 1) (Int32.toNatClampNeg a1) a2) (fun M6 => xb1 (f_X0_write (u0 + 13) M6 (M6 u0 17) (5 : Int32) a1) (fun M8 => some M8))) else none))
set_option maxHeartbeats 4000000 in
set_option maxRecDepth 20000 in
theorem c_X1_writeMended (l : Launch) (E : xE) (b : Nat) {u0 : Nat} (L_u0 : lat u0 pHeap) (M : xm) (a1 : Int32) (a2 : Int32) {M' : xm} (hf : f_X1_writeMended u0 M a1 a2 = some M') :
    xMet l E b NX yX1_writeMended cX1_writeMended 3 none (xR 2) [.ref (b + u0), .int a1, .int a2] (cX E b M) none True (cX E b M') := by
  refine xMet.ofW (own := RX1) (by decide) rfl (Nat.le_of_ble_eq_true rfl) ?_
  intro p e s m below meth c H locs ls C hm hl
  have hx := C.1.1
  have hb := C.1.2.1
  have hl : lv_has ls 3 [(0, .ref (b + u0)), (1, .int a1), (2, .int a2)] := hl
  unfold f_X1_writeMended at hf
  refine lv_iload_n hx hb dX1_writeMended_0 rfl (lv_at hl 2 rfl) ?_
  refine lv_bipush (v := (-2 : Int32)) hx hb dX1_writeMended_1 (by decide) ?_
  refine lv_icmp_eq (tgt := 43) hx hb dX1_writeMended_3 (by decide) (fun hc1 => ?_) (fun hc1 => ?_)
  · have hf := xif_t hc1 hf
    cases hf
    exact x_vret C hm trivial dX1_writeMended_43
  have hf := xif_f hc1 hf
  refine lv_iload_n hx hb dX1_writeMended_6 rfl (lv_at hl 1 rfl) ?_
  refine x_callSNi (As := [.int a1]) (rest := []) C hm (c_X9_isAddress l E b M a1 rfl) tc_X9_isAddress (by decide +kernel : (RX1, 90, yX9_isAddress, "ColouredHeap") ∈ xNest) tz_X9_isAddress tn_RX9 td_X9_isAddress rfl rfl ⟨Nat.le_of_ble_eq_true rfl, Nat.le_of_ble_eq_true rfl⟩ rfl hl.1 rfl (Nat.le_of_ble_eq_true rfl) ⟨Nat.zero_le _, Nat.zero_le _⟩ dX1_writeMended_7 (fun H locs hP2 hm => ?_)
  refine lv_if_eq (tgt := 43) hx hb dX1_writeMended_10 (by decide) (fun hc3 => ?_) (fun hc3 => ?_)
  · have hf := xif_t hc3 hf
    cases hf
    exact x_vret C hm trivial dX1_writeMended_43
  have hf := xif_f hc3 hf
  refine lv_aload_n hx hb dX1_writeMended_13 rfl (lv_at hl 0 rfl) ?_
  refine x_get C hm inX1 rfl 0 (by decide) tf_RX1_9 (cx_Heap (L_u0 0 _ rfl)) rfl dX1_writeMended_14 ?_
  refine lv_iload_n hx hb dX1_writeMended_17 rfl (lv_at hl 1 rfl) ?_
  obtain ⟨hi4, hf⟩ := xif_s hf
  refine x_iald (j := (Int32.toNatClampNeg a1)) C hm (cx_I (L_u0 1 _ rfl)) hi4 dX1_writeMended_18 rfl ?_
  refine lv_iload_n hx hb dX1_writeMended_19 rfl (lv_at hl 2 rfl) ?_
  refine lv_icmp_eq (tgt := 43) hx hb dX1_writeMended_20 (by decide) (fun hc5 => ?_) (fun hc5 => ?_)
  · have hf := xif_t hc5 hf
    cases hf
    exact x_vret C hm trivial dX1_writeMended_43
  have hf := xif_f hc5 hf
  refine lv_aload_n hx hb dX1_writeMended_23 rfl (lv_at hl 0 rfl) ?_
  refine x_get C hm inX1 rfl 0 (by decide) tf_RX1_9 (cx_Heap (L_u0 0 _ rfl)) rfl dX1_writeMended_24 ?_
  refine lv_iload_n hx hb dX1_writeMended_27 rfl (lv_at hl 1 rfl) ?_
  refine lv_iload_n hx hb dX1_writeMended_28 rfl (lv_at hl 2 rfl) ?_
  obtain ⟨M6, eM6, hf⟩ := xlet_x hf
  refine x_iast (j := (Int32.toNatClampNeg a1)) (cf' := cX E b M6) C hm (cx_I (L_u0 1 _ rfl)) hi4 dX1_writeMended_29 rfl (by rw [eM6]; exact cu_I (L_u0 1 _ rfl)) (by rw [eM6]; exact cX_o) (fun H locs hm => ?_)
  refine lv_aload_n hx hb dX1_writeMended_30 rfl (lv_at hl 0 rfl) ?_
  refine x_get C hm inX1 rfl 12 (by decide) tf_RX1_51 (cx_Heap (L_u0 0 _ rfl)) rfl dX1_writeMended_31 ?_
  refine lv_aload_n hx hb dX1_writeMended_34 rfl (lv_at hl 0 rfl) ?_
  refine x_get C hm inX1 rfl 17 (by decide) tf_RX1_68 (cx_Heap (L_u0 0 _ rfl)) rfl dX1_writeMended_35 ?_
  refine lv_iconst (v := (5 : Int32)) hx hb dX1_writeMended_38 (by decide) ?_
  refine lv_iload_n hx hb dX1_writeMended_39 rfl (lv_at hl 1 rfl) ?_
  obtain ⟨M8, hq7, hf⟩ := xb1_e hf
  refine x_callVv (As := [.int (M6 u0 17), .int (5 : Int32), .int a1]) (rest := []) C hm (c_X0_write l E b (lat_book L_u0) M6 (M6 u0 17) (5 : Int32) a1 hq7) rfl (cx_Book ((lat_book L_u0) 0 _ rfl)) tc_X0_write tm_RX1_121 ti_X0_write ts_X0_write tn_RX0 td_X0_write rfl rfl ⟨Nat.le_of_ble_eq_true rfl, Nat.le_of_ble_eq_true rfl⟩ rfl hl.1 rfl (Nat.le_of_ble_eq_true rfl) ⟨Nat.zero_le _, Nat.zero_le _⟩ dX1_writeMended_40 (fun H locs hP9 hm => ?_)
  cases hf
  exact x_vret C hm trivial dX1_writeMended_43
/-! ColouredHeap$Heap.finishRead(II)I -/
theorem dX1_finishRead_0 : decode cX1_finishRead 0 = .ok (.aload_n 0, 1) := by decide +kernel
theorem dX1_finishRead_1 : decode cX1_finishRead 1 = .ok (.iload_n 1, 1) := by decide +kernel
theorem dX1_finishRead_2 : decode cX1_finishRead 2 = .ok (.invokevirtual 101, 3) := by decide +kernel
theorem dX1_finishRead_5 : decode cX1_finishRead 5 = .ok (.ifCond .eq 10, 3) := by decide +kernel
theorem dX1_finishRead_8 : decode cX1_finishRead 8 = .ok (.iload_n 2, 1) := by decide +kernel
theorem dX1_finishRead_9 : decode cX1_finishRead 9 = .ok (.invokestatic 98, 3) := by decide +kernel
theorem dX1_finishRead_12 : decode cX1_finishRead 12 = .ok (.ifCond .ne 6, 3) := by decide +kernel
theorem dX1_finishRead_15 : decode cX1_finishRead 15 = .ok (.bipush (-2), 2) := by decide +kernel
theorem dX1_finishRead_17 : decode cX1_finishRead 17 = .ok (.ireturn, 1) := by decide +kernel
theorem dX1_finishRead_18 : decode cX1_finishRead 18 = .ok (.aload_n 0, 1) := by decide +kernel
theorem dX1_finishRead_19 : decode cX1_finishRead 19 = .ok (.getfield 39, 3) := by decide +kernel
theorem dX1_finishRead_22 : decode cX1_finishRead 22 = .ok (.iload_n 1, 1) := by decide +kernel
theorem dX1_finishRead_23 : decode cX1_finishRead 23 = .ok (.iaload, 1) := by decide +kernel
theorem dX1_finishRead_24 : decode cX1_finishRead 24 = .ok (.istore_n 3, 1) := by decide +kernel
theorem dX1_finishRead_25 : decode cX1_finishRead 25 = .ok (.aload_n 0, 1) := by decide +kernel
theorem dX1_finishRead_26 : decode cX1_finishRead 26 = .ok (.getfield 42, 3) := by decide +kernel
theorem dX1_finishRead_29 : decode cX1_finishRead 29 = .ok (.iload_n 1, 1) := by decide +kernel
theorem dX1_finishRead_30 : decode cX1_finishRead 30 = .ok (.iaload, 1) := by decide +kernel
theorem dX1_finishRead_31 : decode cX1_finishRead 31 = .ok (.istore 4, 2) := by decide +kernel
theorem dX1_finishRead_33 : decode cX1_finishRead 33 = .ok (.aload_n 0, 1) := by decide +kernel
theorem dX1_finishRead_34 : decode cX1_finishRead 34 = .ok (.aload_n 0, 1) := by decide +kernel
theorem dX1_finishRead_35 : decode cX1_finishRead 35 = .ok (.iload 4, 2) := by decide +kernel
theorem dX1_finishRead_37 : decode cX1_finishRead 37 = .ok (.invokevirtual 135, 3) := by decide +kernel
theorem dX1_finishRead_40 : decode cX1_finishRead 40 = .ok (.aload_n 0, 1) := by decide +kernel
theorem dX1_finishRead_41 : decode cX1_finishRead 41 = .ok (.getfield 45, 3) := by decide +kernel
theorem dX1_finishRead_44 : decode cX1_finishRead 44 = .ok (.iload_n 1, 1) := by decide +kernel
theorem dX1_finishRead_45 : decode cX1_finishRead 45 = .ok (.iaload, 1) := by decide +kernel
theorem dX1_finishRead_46 : decode cX1_finishRead 46 = .ok (.invokevirtual 156, 3) := by decide +kernel
theorem dX1_finishRead_49 : decode cX1_finishRead 49 = .ok (.aload_n 0, 1) := by decide +kernel
theorem dX1_finishRead_50 : decode cX1_finishRead 50 = .ok (.getfield 39, 3) := by decide +kernel
theorem dX1_finishRead_53 : decode cX1_finishRead 53 = .ok (.iload_n 1, 1) := by decide +kernel
theorem dX1_finishRead_54 : decode cX1_finishRead 54 = .ok (.iconst (-1), 1) := by decide +kernel
theorem dX1_finishRead_55 : decode cX1_finishRead 55 = .ok (.iastore, 1) := by decide +kernel
theorem dX1_finishRead_56 : decode cX1_finishRead 56 = .ok (.aload_n 0, 1) := by decide +kernel
theorem dX1_finishRead_57 : decode cX1_finishRead 57 = .ok (.getfield 42, 3) := by decide +kernel
theorem dX1_finishRead_60 : decode cX1_finishRead 60 = .ok (.iload_n 1, 1) := by decide +kernel
theorem dX1_finishRead_61 : decode cX1_finishRead 61 = .ok (.iconst (-1), 1) := by decide +kernel
theorem dX1_finishRead_62 : decode cX1_finishRead 62 = .ok (.iastore, 1) := by decide +kernel
theorem dX1_finishRead_63 : decode cX1_finishRead 63 = .ok (.aload_n 0, 1) := by decide +kernel
theorem dX1_finishRead_64 : decode cX1_finishRead 64 = .ok (.getfield 45, 3) := by decide +kernel
theorem dX1_finishRead_67 : decode cX1_finishRead 67 = .ok (.iload_n 1, 1) := by decide +kernel
theorem dX1_finishRead_68 : decode cX1_finishRead 68 = .ok (.iconst (-1), 1) := by decide +kernel
theorem dX1_finishRead_69 : decode cX1_finishRead 69 = .ok (.iastore, 1) := by decide +kernel
theorem dX1_finishRead_70 : decode cX1_finishRead 70 = .ok (.aload_n 0, 1) := by decide +kernel
theorem dX1_finishRead_71 : decode cX1_finishRead 71 = .ok (.iload 4, 2) := by decide +kernel
theorem dX1_finishRead_73 : decode cX1_finishRead 73 = .ok (.invokevirtual 147, 3) := by decide +kernel
theorem dX1_finishRead_76 : decode cX1_finishRead 76 = .ok (.istore 5, 2) := by decide +kernel
theorem dX1_finishRead_78 : decode cX1_finishRead 78 = .ok (.iload_n 3, 1) := by decide +kernel
theorem dX1_finishRead_79 : decode cX1_finishRead 79 = .ok (.invokestatic 90, 3) := by decide +kernel
theorem dX1_finishRead_82 : decode cX1_finishRead 82 = .ok (.ifCond .eq 21, 3) := by decide +kernel
theorem dX1_finishRead_85 : decode cX1_finishRead 85 = .ok (.aload_n 0, 1) := by decide +kernel
theorem dX1_finishRead_86 : decode cX1_finishRead 86 = .ok (.getfield 9, 3) := by decide +kernel
theorem dX1_finishRead_89 : decode cX1_finishRead 89 = .ok (.iload_n 3, 1) := by decide +kernel
theorem dX1_finishRead_90 : decode cX1_finishRead 90 = .ok (.iaload, 1) := by decide +kernel
theorem dX1_finishRead_91 : decode cX1_finishRead 91 = .ok (.iload 4, 2) := by decide +kernel
theorem dX1_finishRead_93 : decode cX1_finishRead 93 = .ok (.if_icmp .ne 10, 3) := by decide +kernel
theorem dX1_finishRead_96 : decode cX1_finishRead 96 = .ok (.aload_n 0, 1) := by decide +kernel
theorem dX1_finishRead_97 : decode cX1_finishRead 97 = .ok (.iload_n 3, 1) := by decide +kernel
theorem dX1_finishRead_98 : decode cX1_finishRead 98 = .ok (.iload 5, 2) := by decide +kernel
theorem dX1_finishRead_100 : decode cX1_finishRead 100 = .ok (.invokevirtual 153, 3) := by decide +kernel
theorem dX1_finishRead_103 : decode cX1_finishRead 103 = .ok (.aload_n 0, 1) := by decide +kernel
theorem dX1_finishRead_104 : decode cX1_finishRead 104 = .ok (.getfield 33, 3) := by decide +kernel
theorem dX1_finishRead_107 : decode cX1_finishRead 107 = .ok (.iload_n 2, 1) := by decide +kernel
theorem dX1_finishRead_108 : decode cX1_finishRead 108 = .ok (.iload 5, 2) := by decide +kernel
theorem dX1_finishRead_110 : decode cX1_finishRead 110 = .ok (.iastore, 1) := by decide +kernel
theorem dX1_finishRead_111 : decode cX1_finishRead 111 = .ok (.iload 5, 2) := by decide +kernel
theorem dX1_finishRead_113 : decode cX1_finishRead 113 = .ok (.ireturn, 1) := by decide +kernel
def f_X1_finishRead (u0 : Nat) (M : xm) (a1 : Int32) (a2 : Int32) : Option (Int32 × xm) := xb1 (f_X1_hasBegun u0 M a1) (fun v2 => (if v2 = 0 then some ((-2 : Int32), M) else (if (f_X9_isRoot a2) = 0 then some ((-2 : Int32), M) else if xin a1 2 = true then xlet (M (u0 + 10) (Int32.toNatClampNeg a1)) (fun v8 => xlet (M (u0 + 11) (Int32.toNatClampNeg a1)) (fun v9 => xb1 (f_X1_leadsTo u0 M v9) (fun v11 => xb1 (f_X1_settleCopy u0 M v11 (M (u0 + 12) (Int32.toNatClampNeg a1))) (fun M14 => xlet (up2 M14 (u0 + 10) (Int32.toNatClampNeg a1) (-1 : Int32)) (fun M16 => xlet (up2 M16 (u0 + 11) (Int32.toNatClampNeg a1) (-1 : Int32)) (fun M17 => xlet (up2 M17 (u0 + 12) (Int32.toNatClampNeg a1) (-1 : Int32)) (fun M18 => xb2 (f_X1_mend u0 M18 v9) (fun v20 M21 => (if (f_X9_isAddress v8) = 0 then if xin a2 6 = true then xlet (up2 M21 (u0 + 8) (Int32.toNatClampNeg a2) v20) (fun M26 => some (v20, M26)) else none else if xin v8 64 = true then (if (M21 (u0 + 1) (Int32.toNatClampNeg v8)) = v9 then xb1 (f_X1_writeMended u0 M21 v8 v20) (fun M32 => if xin a2 6 = true then xlet (up2 M32 (u0 + 8) (Int32.toNatClampNeg a2) v20) (fun M35 => some (v20, M35)) else none) else if xin a2 6 = true then xlet (up2 M21 (u0 + 8) (Int32.toNatClampNeg a2) v20) (fun M30 => some (v20, M30)) else none) else none))))))))) else none)))
set_option maxHeartbeats 4000000 in
set_option maxRecDepth 20000 in
theorem c_X1_finishRead (l : Launch) (E : xE) (b : Nat) {u0 : Nat} (L_u0 : lat u0 pHeap) (M : xm) (a1 : Int32) (a2 : Int32) {r : Int32} {M' : xm} (hf : f_X1_finishRead u0 M a1 a2 = some (r, M')) :
    xMet l E b NX yX1_finishRead cX1_finishRead 6 (some .int) (xR 5) [.ref (b + u0), .int a1, .int a2] (cX E b M) (some (.int r)) True (cX E b M') := by
  refine xMet.ofW (own := RX1) (by decide) rfl (Nat.le_of_ble_eq_true rfl) ?_
  intro p e s m below meth c H locs ls C hm hl
  have hx := C.1.1
  have hb := C.1.2.1
  have hl : lv_has ls 6 [(0, .ref (b + u0)), (1, .int a1), (2, .int a2)] := hl
  unfold f_X1_finishRead at hf
  refine lv_aload_n hx hb dX1_finishRead_0 rfl (lv_at hl 0 rfl) ?_
  refine lv_iload_n hx hb dX1_finishRead_1 rfl (lv_at hl 1 rfl) ?_
  obtain ⟨v2, hq1, hf⟩ := xb1_e hf
  refine x_callVi (As := [.int a1]) (rest := []) C hm (c_X1_hasBegun l E b L_u0 M a1 hq1) rfl (cx_Heap (L_u0 0 _ rfl)) tc_X1_hasBegun tm_RX1_101 ti_X1_hasBegun ts_X1_hasBegun tn_RX1 td_X1_hasBegun rfl rfl ⟨Nat.le_of_ble_eq_true rfl, Nat.le_of_ble_eq_true rfl⟩ rfl hl.1 rfl (Nat.le_of_ble_eq_true rfl) ⟨Nat.zero_le _, Nat.zero_le _⟩ dX1_finishRead_2 (fun H locs hP3 hm => ?_)
  refine lv_if_eq (tgt := 15) hx hb dX1_finishRead_5 (by decide) (fun hc4 => ?_) (fun hc4 => ?_)
  · have hf := xif_t hc4 hf
    refine lv_bipush (v := (-2 : Int32)) hx hb dX1_finishRead_15 (by decide) ?_
    cases hf
    exact x_iret C hm trivial dX1_finishRead_17
  have hf := xif_f hc4 hf
  refine lv_iload_n hx hb dX1_finishRead_8 rfl (lv_at hl 2 rfl) ?_
  refine x_callSNi (As := [.int a2]) (rest := []) C hm (c_X9_isRoot l E b M a2 rfl) tc_X9_isRoot (by decide +kernel : (RX1, 98, yX9_isRoot, "ColouredHeap") ∈ xNest) tz_X9_isRoot tn_RX9 td_X9_isRoot rfl rfl ⟨Nat.le_of_ble_eq_true rfl, Nat.le_of_ble_eq_true rfl⟩ rfl hl.1 rfl (Nat.le_of_ble_eq_true rfl) ⟨Nat.zero_le _, Nat.zero_le _⟩ dX1_finishRead_9 (fun H locs hP5 hm => ?_)
  refine lv_if_ne (tgt := 18) hx hb dX1_finishRead_12 (by decide) (fun hc6 => ?_) (fun hc6 => ?_)
  rotate_left
  · have hf := xif_t hc6 hf
    refine lv_bipush (v := (-2 : Int32)) hx hb dX1_finishRead_15 (by decide) ?_
    cases hf
    exact x_iret C hm trivial dX1_finishRead_17
  have hf := xif_f hc6 hf
  refine lv_aload_n hx hb dX1_finishRead_18 rfl (lv_at hl 0 rfl) ?_
  refine x_get C hm inX1 rfl 9 (by decide) tf_RX1_39 (cx_Heap (L_u0 0 _ rfl)) rfl dX1_finishRead_19 ?_
  refine lv_iload_n hx hb dX1_finishRead_22 rfl (lv_at hl 1 rfl) ?_
  obtain ⟨hi7, hf⟩ := xif_s hf
  refine x_iald (j := (Int32.toNatClampNeg a1)) C hm (cx_I (L_u0 10 _ rfl)) hi7 dX1_finishRead_23 rfl ?_
  refine lv_topi (fun v8 ev8 => ?_)
  have hf := xlet_e ev8 hf
  refine lv_istore_n (lv' := [(3, .int v8), (0, .ref (b + u0)), (1, .int a1), (2, .int a2)]) hx hb dX1_finishRead_24 rfl hl (by decide) rfl (fun ls hl => ?_)
  refine lv_aload_n hx hb dX1_finishRead_25 rfl (lv_at hl 1 rfl) ?_
  refine x_get C hm inX1 rfl 10 (by decide) tf_RX1_42 (cx_Heap (L_u0 0 _ rfl)) rfl dX1_finishRead_26 ?_
  refine lv_iload_n hx hb dX1_finishRead_29 rfl (lv_at hl 2 rfl) ?_
  refine x_iald (j := (Int32.toNatClampNeg a1)) C hm (cx_I (L_u0 11 _ rfl)) hi7 dX1_finishRead_30 rfl ?_
  refine lv_topi (fun v9 ev9 => ?_)
  have hf := xlet_e ev9 hf
  refine lv_istore (lv' := [(4, .int v9), (3, .int v8), (0, .ref (b + u0)), (1, .int a1), (2, .int a2)]) hx hb dX1_finishRead_31 hl (by decide) rfl (fun ls hl => ?_)
  refine lv_aload_n hx hb dX1_finishRead_33 rfl (lv_at hl 2 rfl) ?_
  refine lv_aload_n hx hb dX1_finishRead_34 rfl (lv_at hl 2 rfl) ?_
  refine lv_iload hx hb dX1_finishRead_35 (lv_at hl 0 rfl) ?_
  obtain ⟨v11, hq10, hf⟩ := xb1_e hf
  refine x_callVi (As := [.int v9]) (rest := [.ref (b + u0)]) C hm (c_X1_leadsTo l E b L_u0 M v9 hq10) rfl (cx_Heap (L_u0 0 _ rfl)) tc_X1_leadsTo tm_RX1_135 ti_X1_leadsTo ts_X1_leadsTo tn_RX1 td_X1_leadsTo rfl rfl ⟨Nat.le_of_ble_eq_true rfl, Nat.le_of_ble_eq_true rfl⟩ rfl hl.1 rfl (Nat.le_of_ble_eq_true rfl) ⟨Nat.zero_le _, Nat.zero_le _⟩ dX1_finishRead_37 (fun H locs hP12 hm => ?_)
  refine lv_aload_n hx hb dX1_finishRead_40 rfl (lv_at hl 2 rfl) ?_
  refine x_get C hm inX1 rfl 11 (by decide) tf_RX1_45 (cx_Heap (L_u0 0 _ rfl)) rfl dX1_finishRead_41 ?_
  refine lv_iload_n hx hb dX1_finishRead_44 rfl (lv_at hl 3 rfl) ?_
  refine x_iald (j := (Int32.toNatClampNeg a1)) C hm (cx_I (L_u0 12 _ rfl)) hi7 dX1_finishRead_45 rfl ?_
  obtain ⟨M14, hq13, hf⟩ := xb1_e hf
  refine x_callVv (As := [.int v11, .int (M (u0 + 12) (Int32.toNatClampNeg a1))]) (rest := []) C hm (c_X1_settleCopy l E b L_u0 M v11 (M (u0 + 12) (Int32.toNatClampNeg a1)) hq13) rfl (cx_Heap (L_u0 0 _ rfl)) tc_X1_settleCopy tm_RX1_156 ti_X1_settleCopy ts_X1_settleCopy tn_RX1 td_X1_settleCopy rfl rfl ⟨Nat.le_of_ble_eq_true rfl, Nat.le_of_ble_eq_true rfl⟩ rfl hl.1 rfl (Nat.le_of_ble_eq_true rfl) ⟨Nat.zero_le _, Nat.zero_le _⟩ dX1_finishRead_46 (fun H locs hP15 hm => ?_)
  refine lv_aload_n hx hb dX1_finishRead_49 rfl (lv_at hl 2 rfl) ?_
  refine x_get C hm inX1 rfl 9 (by decide) tf_RX1_39 (cx_Heap (L_u0 0 _ rfl)) rfl dX1_finishRead_50 ?_
  refine lv_iload_n hx hb dX1_finishRead_53 rfl (lv_at hl 3 rfl) ?_
  refine lv_iconst (v := (-1 : Int32)) hx hb dX1_finishRead_54 (by decide) ?_
  obtain ⟨M16, eM16, hf⟩ := xlet_x hf
  refine x_iast (j := (Int32.toNatClampNeg a1)) (cf' := cX E b M16) C hm (cx_I (L_u0 10 _ rfl)) hi7 dX1_finishRead_55 rfl (by rw [eM16]; exact cu_I (L_u0 10 _ rfl)) (by rw [eM16]; exact cX_o) (fun H locs hm => ?_)
  refine lv_aload_n hx hb dX1_finishRead_56 rfl (lv_at hl 2 rfl) ?_
  refine x_get C hm inX1 rfl 10 (by decide) tf_RX1_42 (cx_Heap (L_u0 0 _ rfl)) rfl dX1_finishRead_57 ?_
  refine lv_iload_n hx hb dX1_finishRead_60 rfl (lv_at hl 3 rfl) ?_
  refine lv_iconst (v := (-1 : Int32)) hx hb dX1_finishRead_61 (by decide) ?_
  obtain ⟨M17, eM17, hf⟩ := xlet_x hf
  refine x_iast (j := (Int32.toNatClampNeg a1)) (cf' := cX E b M17) C hm (cx_I (L_u0 11 _ rfl)) hi7 dX1_finishRead_62 rfl (by rw [eM17]; exact cu_I (L_u0 11 _ rfl)) (by rw [eM17]; exact cX_o) (fun H locs hm => ?_)
  refine lv_aload_n hx hb dX1_finishRead_63 rfl (lv_at hl 2 rfl) ?_
  refine x_get C hm inX1 rfl 11 (by decide) tf_RX1_45 (cx_Heap (L_u0 0 _ rfl)) rfl dX1_finishRead_64 ?_
  refine lv_iload_n hx hb dX1_finishRead_67 rfl (lv_at hl 3 rfl) ?_
  refine lv_iconst (v := (-1 : Int32)) hx hb dX1_finishRead_68 (by decide) ?_
  obtain ⟨M18, eM18, hf⟩ := xlet_x hf
  refine x_iast (j := (Int32.toNatClampNeg a1)) (cf' := cX E b M18) C hm (cx_I (L_u0 12 _ rfl)) hi7 dX1_finishRead_69 rfl (by rw [eM18]; exact cu_I (L_u0 12 _ rfl)) (by rw [eM18]; exact cX_o) (fun H locs hm => ?_)
  refine lv_aload_n hx hb dX1_finishRead_70 rfl (lv_at hl 2 rfl) ?_
  refine lv_iload hx hb dX1_finishRead_71 (lv_at hl 0 rfl) ?_
  obtain ⟨v20, M21, hq19, hf⟩ := xb2_e hf
  refine x_callVi (As := [.int v9]) (rest := []) C hm (c_X1_mend l E b L_u0 M18 v9 hq19) rfl (cx_Heap (L_u0 0 _ rfl)) tc_X1_mend tm_RX1_147 ti_X1_mend ts_X1_mend tn_RX1 td_X1_mend rfl rfl ⟨Nat.le_of_ble_eq_true rfl, Nat.le_of_ble_eq_true rfl⟩ rfl hl.1 rfl (Nat.le_of_ble_eq_true rfl) ⟨Nat.zero_le _, Nat.zero_le _⟩ dX1_finishRead_73 (fun H locs hP22 hm => ?_)
  refine lv_istore (lv' := [(5, .int v20), (4, .int v9), (3, .int v8), (0, .ref (b + u0)), (1, .int a1), (2, .int a2)]) hx hb dX1_finishRead_76 hl (by decide) rfl (fun ls hl => ?_)
  refine lv_iload_n hx hb dX1_finishRead_78 rfl (lv_at hl 2 rfl) ?_
  refine x_callSNi (As := [.int v8]) (rest := []) C hm (c_X9_isAddress l E b M21 v8 rfl) tc_X9_isAddress (by decide +kernel : (RX1, 90, yX9_isAddress, "ColouredHeap") ∈ xNest) tz_X9_isAddress tn_RX9 td_X9_isAddress rfl rfl ⟨Nat.le_of_ble_eq_true rfl, Nat.le_of_ble_eq_true rfl⟩ rfl hl.1 rfl (Nat.le_of_ble_eq_true rfl) ⟨Nat.zero_le _, Nat.zero_le _⟩ dX1_finishRead_79 (fun H locs hP23 hm => ?_)
  refine lv_if_eq (tgt := 103) hx hb dX1_finishRead_82 (by decide) (fun hc24 => ?_) (fun hc24 => ?_)
  · have hf := xif_t hc24 hf
    refine lv_aload_n hx hb dX1_finishRead_103 rfl (lv_at hl 3 rfl) ?_
    refine x_get C hm inX1 rfl 7 (by decide) tf_RX1_33 (cx_Heap (L_u0 0 _ rfl)) rfl dX1_finishRead_104 ?_
    refine lv_iload_n hx hb dX1_finishRead_107 rfl (lv_at hl 5 rfl) ?_
    refine lv_iload hx hb dX1_finishRead_108 (lv_at hl 0 rfl) ?_
    obtain ⟨hi25, hf⟩ := xif_s hf
    obtain ⟨M26, eM26, hf⟩ := xlet_x hf
    refine x_iast (j := (Int32.toNatClampNeg a2)) (cf' := cX E b M26) C hm (cx_I (L_u0 8 _ rfl)) hi25 dX1_finishRead_110 rfl (by rw [eM26]; exact cu_I (L_u0 8 _ rfl)) (by rw [eM26]; exact cX_o) (fun H locs hm => ?_)
    refine lv_iload hx hb dX1_finishRead_111 (lv_at hl 0 rfl) ?_
    cases hf
    exact x_iret C hm trivial dX1_finishRead_113
  have hf := xif_f hc24 hf
  refine lv_aload_n hx hb dX1_finishRead_85 rfl (lv_at hl 3 rfl) ?_
  refine x_get C hm inX1 rfl 0 (by decide) tf_RX1_9 (cx_Heap (L_u0 0 _ rfl)) rfl dX1_finishRead_86 ?_
  refine lv_iload_n hx hb dX1_finishRead_89 rfl (lv_at hl 2 rfl) ?_
  obtain ⟨hi27, hf⟩ := xif_s hf
  refine x_iald (j := (Int32.toNatClampNeg v8)) C hm (cx_I (L_u0 1 _ rfl)) hi27 dX1_finishRead_90 rfl ?_
  refine lv_iload hx hb dX1_finishRead_91 (lv_at hl 1 rfl) ?_
  refine lv_icmp_ne (tgt := 103) hx hb dX1_finishRead_93 (by decide) (fun hc28 => ?_) (fun hc28 => ?_)
  · have hf := xif_f hc28 hf
    refine lv_aload_n hx hb dX1_finishRead_103 rfl (lv_at hl 3 rfl) ?_
    refine x_get C hm inX1 rfl 7 (by decide) tf_RX1_33 (cx_Heap (L_u0 0 _ rfl)) rfl dX1_finishRead_104 ?_
    refine lv_iload_n hx hb dX1_finishRead_107 rfl (lv_at hl 5 rfl) ?_
    refine lv_iload hx hb dX1_finishRead_108 (lv_at hl 0 rfl) ?_
    obtain ⟨hi29, hf⟩ := xif_s hf
    obtain ⟨M30, eM30, hf⟩ := xlet_x hf
    refine x_iast (j := (Int32.toNatClampNeg a2)) (cf' := cX E b M30) C hm (cx_I (L_u0 8 _ rfl)) hi29 dX1_finishRead_110 rfl (by rw [eM30]; exact cu_I (L_u0 8 _ rfl)) (by rw [eM30]; exact cX_o) (fun H locs hm => ?_)
    refine lv_iload hx hb dX1_finishRead_111 (lv_at hl 0 rfl) ?_
    cases hf
    exact x_iret C hm trivial dX1_finishRead_113
  have hf := xif_t hc28 hf
  refine lv_aload_n hx hb dX1_finishRead_96 rfl (lv_at hl 3 rfl) ?_
  refine lv_iload_n hx hb dX1_finishRead_97 rfl (lv_at hl 2 rfl) ?_
  refine lv_iload hx hb dX1_finishRead_98 (lv_at hl 0 rfl) ?_
  obtain ⟨M32, hq31, hf⟩ := xb1_e hf
  refine x_callVv (As := [.int v8, .int v20]) (rest := []) C hm (c_X1_writeMended l E b L_u0 M21 v8 v20 hq31) rfl (cx_Heap (L_u0 0 _ rfl)) tc_X1_writeMended tm_RX1_153 ti_X1_writeMended ts_X1_writeMended tn_RX1 td_X1_writeMended rfl rfl ⟨Nat.le_of_ble_eq_true rfl, Nat.le_of_ble_eq_true rfl⟩ rfl hl.1 rfl (Nat.le_of_ble_eq_true rfl) ⟨Nat.zero_le _, Nat.zero_le _⟩ dX1_finishRead_100 (fun H locs hP33 hm => ?_)
  refine lv_aload_n hx hb dX1_finishRead_103 rfl (lv_at hl 3 rfl) ?_
  refine x_get C hm inX1 rfl 7 (by decide) tf_RX1_33 (cx_Heap (L_u0 0 _ rfl)) rfl dX1_finishRead_104 ?_
  refine lv_iload_n hx hb dX1_finishRead_107 rfl (lv_at hl 5 rfl) ?_
  refine lv_iload hx hb dX1_finishRead_108 (lv_at hl 0 rfl) ?_
  obtain ⟨hi34, hf⟩ := xif_s hf
  obtain ⟨M35, eM35, hf⟩ := xlet_x hf
  refine x_iast (j := (Int32.toNatClampNeg a2)) (cf' := cX E b M35) C hm (cx_I (L_u0 8 _ rfl)) hi34 dX1_finishRead_110 rfl (by rw [eM35]; exact cu_I (L_u0 8 _ rfl)) (by rw [eM35]; exact cX_o) (fun H locs hm => ?_)
  refine lv_iload hx hb dX1_finishRead_111 (lv_at hl 0 rfl) ?_
  cases hf
  exact x_iret C hm trivial dX1_finishRead_113
/-! ColouredHeap$Heap.freePages()I -/
theorem dX1_freePages_0 : decode cX1_freePages 0 = .ok (.iconst 0, 1) := by decide +kernel
theorem dX1_freePages_1 : decode cX1_freePages 1 = .ok (.istore_n 1, 1) := by decide +kernel
theorem dX1_freePages_2 : decode cX1_freePages 2 = .ok (.iconst 0, 1) := by decide +kernel
theorem dX1_freePages_3 : decode cX1_freePages 3 = .ok (.istore_n 2, 1) := by decide +kernel
theorem dX1_freePages_4 : decode cX1_freePages 4 = .ok (.iload_n 2, 1) := by decide +kernel
theorem dX1_freePages_5 : decode cX1_freePages 5 = .ok (.bipush 8, 2) := by decide +kernel
theorem dX1_freePages_7 : decode cX1_freePages 7 = .ok (.if_icmp .ge 24, 3) := by decide +kernel
theorem dX1_freePages_10 : decode cX1_freePages 10 = .ok (.aload_n 0, 1) := by decide +kernel
theorem dX1_freePages_11 : decode cX1_freePages 11 = .ok (.getfield 30, 3) := by decide +kernel
theorem dX1_freePages_14 : decode cX1_freePages 14 = .ok (.iload_n 2, 1) := by decide +kernel
theorem dX1_freePages_15 : decode cX1_freePages 15 = .ok (.iaload, 1) := by decide +kernel
theorem dX1_freePages_16 : decode cX1_freePages 16 = .ok (.ifCond .ne 9, 3) := by decide +kernel
theorem dX1_freePages_19 : decode cX1_freePages 19 = .ok (.iload_n 1, 1) := by decide +kernel
theorem dX1_freePages_20 : decode cX1_freePages 20 = .ok (.iconst 1, 1) := by decide +kernel
theorem dX1_freePages_21 : decode cX1_freePages 21 = .ok (.iload_n 2, 1) := by decide +kernel
theorem dX1_freePages_22 : decode cX1_freePages 22 = .ok (.ishl, 1) := by decide +kernel
theorem dX1_freePages_23 : decode cX1_freePages 23 = .ok (.ior, 1) := by decide +kernel
theorem dX1_freePages_24 : decode cX1_freePages 24 = .ok (.istore_n 1, 1) := by decide +kernel
theorem dX1_freePages_25 : decode cX1_freePages 25 = .ok (.iinc 2 1, 3) := by decide +kernel
theorem dX1_freePages_28 : decode cX1_freePages 28 = .ok (.goto (-24), 3) := by decide +kernel
theorem dX1_freePages_31 : decode cX1_freePages 31 = .ok (.iload_n 1, 1) := by decide +kernel
theorem dX1_freePages_32 : decode cX1_freePages 32 = .ok (.ireturn, 1) := by decide +kernel
def g_X1_freePages_4 (o1 : Nat) (M : xm) : Nat → Int32 → Int32 → Option ((Int32))
  | 0, _, _ => none
  | n + 1, x2, x3 => (if (8 : Int32) ≤ x3 then some (x2) else if xin x3 8 = true then (if (M (o1 + 7) (Int32.toNatClampNeg x3)) = 0 then xlet (x2 ||| ((1 : Int32) <<< (x3 &&& 31))) (fun v9 => xlet (x3 + (1 : Int32)) (fun v10 => g_X1_freePages_4 o1 M n v9 v10)) else xlet (x3 + (1 : Int32)) (fun v8 => g_X1_freePages_4 o1 M n x2 v8)) else none)
def f_X1_freePages (u0 : Nat) (M : xm) : Option (Int32) := xb1 (g_X1_freePages_4 u0 M xfuel (0 : Int32) (0 : Int32)) (fun v11 => some v11)
set_option maxHeartbeats 4000000 in
set_option maxRecDepth 20000 in
theorem j_X1_freePages_4 {p : Program} {l : Launch} {e : Env} {s : State} {m : MethodId} {args : Array Value} {below : List Frame} {meth : Method} {c : Code} {Q : State → Prop} {E : xE} {b : Nat} (C : xC p s m args meth c cX1_freePages 3 RX1 (some .int) E b) {o1 : Nat} (L_o1 : lat o1 pHeap) (M : xm) {y4 : Int32}
    (kx0 : ∀ (H : Heap) (locs : List Loc) (ls : Array Slot), xM E b NX (cX E b M) s.heap H locs → lv_has ls 3 [(1, .int y4)] → W p l e (xR 1) s m args below meth c H locs 0 0 Q (F0 m 31 ls [])) :
    ∀ (n : Nat) (x2 : Int32) (x3 : Int32) (H : Heap) (locs : List Loc) (ls : Array Slot), g_X1_freePages_4 o1 M n x2 x3 = some y4 → xM E b NX (cX E b M) s.heap H locs → lv_has ls 3 [(0, .ref (b + o1)), (1, .int x2), (2, .int x3)] → W p l e (xR 1) s m args below meth c H locs 0 0 Q (F0 m 4 ls []) := by
  have hx := C.1.1
  have hb := C.1.2.1
  intro n
  induction n with
  | zero =>
    intro x2 x3 H locs ls hf hm hl
    rw [g_X1_freePages_4] at hf
    cases hf
  | succ n ih =>
    intro x2 x3 H locs ls hf hm hl
    rw [g_X1_freePages_4] at hf
    refine lv_iload_n hx hb dX1_freePages_4 rfl (lv_at hl 2 rfl) ?_
    refine lv_bipush (v := (8 : Int32)) hx hb dX1_freePages_5 (by decide) ?_
    refine lv_icmp_ge (tgt := 31) hx hb dX1_freePages_7 (by decide) (fun hc5 => ?_) (fun hc5 => ?_)
    · have hf := xif_t hc5 hf
      cases hf
      exact kx0 H locs ls hm (lv_sub hl [1] rfl)
    have hf := xif_f hc5 hf
    refine lv_aload_n hx hb dX1_freePages_10 rfl (lv_at hl 0 rfl) ?_
    refine x_get C hm inX1 rfl 6 (by decide) tf_RX1_30 (cx_Heap (L_o1 0 _ rfl)) rfl dX1_freePages_11 ?_
    refine lv_iload_n hx hb dX1_freePages_14 rfl (lv_at hl 2 rfl) ?_
    obtain ⟨hi6, hf⟩ := xif_s hf
    refine x_iald (j := (Int32.toNatClampNeg x3)) C hm (cx_I (L_o1 7 _ rfl)) hi6 dX1_freePages_15 rfl ?_
    refine lv_if_ne (tgt := 25) hx hb dX1_freePages_16 (by decide) (fun hc7 => ?_) (fun hc7 => ?_)
    · have hf := xif_f hc7 hf
      obtain ⟨v8, ev8, hf⟩ := xlet_x hf
      refine lv_iinc (v := v8) (lv' := [(2, .int v8), (0, .ref (b + o1)), (1, .int x2)]) hx hb dX1_freePages_25 hl (k := 2) rfl (by rw [ev8]; rfl) (by decide) rfl (fun ls hl => ?_)
      refine lv_goto (tgt := 4) hx hb dX1_freePages_28 (by decide) ?_
      exact ih x2 v8 H locs ls hf hm (lv_sub hl [1, 2, 0] rfl)
    have hf := xif_t hc7 hf
    refine lv_iload_n hx hb dX1_freePages_19 rfl (lv_at hl 1 rfl) ?_
    refine lv_iconst (v := (1 : Int32)) hx hb dX1_freePages_20 (by decide) ?_
    refine lv_iload_n hx hb dX1_freePages_21 rfl (lv_at hl 2 rfl) ?_
    refine lv_ishl hx hb dX1_freePages_22 ?_
    refine lv_ior hx hb dX1_freePages_23 ?_
    refine lv_topi (fun v9 ev9 => ?_)
    have hf := xlet_e ev9 hf
    refine lv_istore_n (lv' := [(1, .int v9), (0, .ref (b + o1)), (2, .int x3)]) hx hb dX1_freePages_24 rfl hl (by decide) rfl (fun ls hl => ?_)
    obtain ⟨v10, ev10, hf⟩ := xlet_x hf
    refine lv_iinc (v := v10) (lv' := [(2, .int v10), (1, .int v9), (0, .ref (b + o1))]) hx hb dX1_freePages_25 hl (k := 2) rfl (by rw [ev10]; rfl) (by decide) rfl (fun ls hl => ?_)
    refine lv_goto (tgt := 4) hx hb dX1_freePages_28 (by decide) ?_
    exact ih v9 v10 H locs ls hf hm (lv_sub hl [2, 1, 0] rfl)
set_option maxHeartbeats 4000000 in
set_option maxRecDepth 20000 in
theorem c_X1_freePages (l : Launch) (E : xE) (b : Nat) {u0 : Nat} (L_u0 : lat u0 pHeap) (M : xm) {r : Int32} (hf : f_X1_freePages u0 M = some r) :
    xMet l E b NX yX1_freePages cX1_freePages 3 (some .int) (xR 1) [.ref (b + u0)] (cX E b M) (some (.int r)) True (cX E b M) := by
  refine xMet.ofW (own := RX1) (by decide) rfl (Nat.le_of_ble_eq_true rfl) ?_
  intro p e s m below meth c H locs ls C hm hl
  have hx := C.1.1
  have hb := C.1.2.1
  have hl : lv_has ls 3 [(0, .ref (b + u0))] := hl
  unfold f_X1_freePages at hf
  refine lv_iconst (v := (0 : Int32)) hx hb dX1_freePages_0 (by decide) ?_
  refine lv_istore_n (lv' := [(1, .int (0 : Int32)), (0, .ref (b + u0))]) hx hb dX1_freePages_1 rfl hl (by decide) rfl (fun ls hl => ?_)
  refine lv_iconst (v := (0 : Int32)) hx hb dX1_freePages_2 (by decide) ?_
  refine lv_istore_n (lv' := [(2, .int (0 : Int32)), (1, .int (0 : Int32)), (0, .ref (b + u0))]) hx hb dX1_freePages_3 rfl hl (by decide) rfl (fun ls hl => ?_)
  obtain ⟨v11, hq, hf⟩ := xb1_e hf
  refine j_X1_freePages_4 C L_u0 M (fun H locs ls hm hl => ?_) xfuel (0 : Int32) (0 : Int32) H locs ls hq hm (lv_sub hl [2, 1, 0] rfl)
  refine lv_iload_n hx hb dX1_freePages_31 rfl (lv_at hl 0 rfl) ?_
  cases hf
  exact x_iret C hm trivial dX1_freePages_32
/-! ColouredHeap$Heap.mayBeEmptied(I)Z -/
theorem dX1_mayBeEmptied_0 : decode cX1_mayBeEmptied 0 = .ok (.iload_n 1, 1) := by decide +kernel
theorem dX1_mayBeEmptied_1 : decode cX1_mayBeEmptied 1 = .ok (.invokestatic 108, 3) := by decide +kernel
theorem dX1_mayBeEmptied_4 : decode cX1_mayBeEmptied 4 = .ok (.ifCond .eq 37, 3) := by decide +kernel
theorem dX1_mayBeEmptied_7 : decode cX1_mayBeEmptied 7 = .ok (.aload_n 0, 1) := by decide +kernel
theorem dX1_mayBeEmptied_8 : decode cX1_mayBeEmptied 8 = .ok (.getfield 30, 3) := by decide +kernel
theorem dX1_mayBeEmptied_11 : decode cX1_mayBeEmptied 11 = .ok (.iload_n 1, 1) := by decide +kernel
theorem dX1_mayBeEmptied_12 : decode cX1_mayBeEmptied 12 = .ok (.iaload, 1) := by decide +kernel
theorem dX1_mayBeEmptied_13 : decode cX1_mayBeEmptied 13 = .ok (.iconst 1, 1) := by decide +kernel
theorem dX1_mayBeEmptied_14 : decode cX1_mayBeEmptied 14 = .ok (.if_icmp .ne 27, 3) := by decide +kernel
theorem dX1_mayBeEmptied_17 : decode cX1_mayBeEmptied 17 = .ok (.iload_n 1, 1) := by decide +kernel
theorem dX1_mayBeEmptied_18 : decode cX1_mayBeEmptied 18 = .ok (.aload_n 0, 1) := by decide +kernel
theorem dX1_mayBeEmptied_19 : decode cX1_mayBeEmptied 19 = .ok (.getfield 36, 3) := by decide +kernel
theorem dX1_mayBeEmptied_22 : decode cX1_mayBeEmptied 22 = .ok (.iconst 0, 1) := by decide +kernel
theorem dX1_mayBeEmptied_23 : decode cX1_mayBeEmptied 23 = .ok (.iaload, 1) := by decide +kernel
theorem dX1_mayBeEmptied_24 : decode cX1_mayBeEmptied 24 = .ok (.if_icmp .eq 17, 3) := by decide +kernel
theorem dX1_mayBeEmptied_27 : decode cX1_mayBeEmptied 27 = .ok (.iload_n 1, 1) := by decide +kernel
theorem dX1_mayBeEmptied_28 : decode cX1_mayBeEmptied 28 = .ok (.aload_n 0, 1) := by decide +kernel
theorem dX1_mayBeEmptied_29 : decode cX1_mayBeEmptied 29 = .ok (.getfield 36, 3) := by decide +kernel
theorem dX1_mayBeEmptied_32 : decode cX1_mayBeEmptied 32 = .ok (.iconst 1, 1) := by decide +kernel
theorem dX1_mayBeEmptied_33 : decode cX1_mayBeEmptied 33 = .ok (.iaload, 1) := by decide +kernel
theorem dX1_mayBeEmptied_34 : decode cX1_mayBeEmptied 34 = .ok (.if_icmp .eq 7, 3) := by decide +kernel
theorem dX1_mayBeEmptied_37 : decode cX1_mayBeEmptied 37 = .ok (.iconst 1, 1) := by decide +kernel
theorem dX1_mayBeEmptied_38 : decode cX1_mayBeEmptied 38 = .ok (.goto 4, 3) := by decide +kernel
theorem dX1_mayBeEmptied_41 : decode cX1_mayBeEmptied 41 = .ok (.iconst 0, 1) := by decide +kernel
theorem dX1_mayBeEmptied_42 : decode cX1_mayBeEmptied 42 = .ok (.ireturn, 1) := by decide +kernel
def f_X1_mayBeEmptied (u0 : Nat) (M : xm) (a1 : Int32) : Option (Int32) := (if (f_X9_isPage a1) = 0 then some (0 : Int32) else if xin a1 8 = true then (if (M (u0 + 7) (Int32.toNatClampNeg a1)) = (1 : Int32) then (if a1 = (M (u0 + 9) 0) then some (0 : Int32) else (if a1 = (M (u0 + 9) 1) then some (0 : Int32) else some (1 : Int32))) else some (0 : Int32)) else none)
set_option maxHeartbeats 4000000 in
set_option maxRecDepth 20000 in
theorem c_X1_mayBeEmptied (l : Launch) (E : xE) (b : Nat) {u0 : Nat} (L_u0 : lat u0 pHeap) (M : xm) (a1 : Int32) {r : Int32} (hf : f_X1_mayBeEmptied u0 M a1 = some r) :
    xMet l E b NX yX1_mayBeEmptied cX1_mayBeEmptied 2 (some .boolean) (xR 2) [.ref (b + u0), .int a1] (cX E b M) (some (.int r)) (xbo r = true) (cX E b M) := by
  refine xMet.ofW (own := RX1) (by decide) rfl (Nat.le_of_ble_eq_true rfl) ?_
  intro p e s m below meth c H locs ls C hm hl
  have hx := C.1.1
  have hb := C.1.2.1
  have hl : lv_has ls 2 [(0, .ref (b + u0)), (1, .int a1)] := hl
  unfold f_X1_mayBeEmptied at hf
  refine lv_iload_n hx hb dX1_mayBeEmptied_0 rfl (lv_at hl 1 rfl) ?_
  refine x_callSNi (As := [.int a1]) (rest := []) C hm (c_X9_isPage l E b M a1 rfl) tc_X9_isPage (by decide +kernel : (RX1, 108, yX9_isPage, "ColouredHeap") ∈ xNest) tz_X9_isPage tn_RX9 td_X9_isPage rfl rfl ⟨Nat.le_of_ble_eq_true rfl, Nat.le_of_ble_eq_true rfl⟩ rfl hl.1 rfl (Nat.le_of_ble_eq_true rfl) ⟨Nat.zero_le _, Nat.zero_le _⟩ dX1_mayBeEmptied_1 (fun H locs hP1 hm => ?_)
  refine lv_if_eq (tgt := 41) hx hb dX1_mayBeEmptied_4 (by decide) (fun hc2 => ?_) (fun hc2 => ?_)
  · have hf := xif_t hc2 hf
    refine lv_iconst (v := (0 : Int32)) hx hb dX1_mayBeEmptied_41 (by decide) ?_
    cases hf
    exact x_zret C hm (by decide) (by decide) dX1_mayBeEmptied_42
  have hf := xif_f hc2 hf
  refine lv_aload_n hx hb dX1_mayBeEmptied_7 rfl (lv_at hl 0 rfl) ?_
  refine x_get C hm inX1 rfl 6 (by decide) tf_RX1_30 (cx_Heap (L_u0 0 _ rfl)) rfl dX1_mayBeEmptied_8 ?_
  refine lv_iload_n hx hb dX1_mayBeEmptied_11 rfl (lv_at hl 1 rfl) ?_
  obtain ⟨hi3, hf⟩ := xif_s hf
  refine x_iald (j := (Int32.toNatClampNeg a1)) C hm (cx_I (L_u0 7 _ rfl)) hi3 dX1_mayBeEmptied_12 rfl ?_
  refine lv_iconst (v := (1 : Int32)) hx hb dX1_mayBeEmptied_13 (by decide) ?_
  refine lv_icmp_ne (tgt := 41) hx hb dX1_mayBeEmptied_14 (by decide) (fun hc4 => ?_) (fun hc4 => ?_)
  · have hf := xif_f hc4 hf
    refine lv_iconst (v := (0 : Int32)) hx hb dX1_mayBeEmptied_41 (by decide) ?_
    cases hf
    exact x_zret C hm (by decide) (by decide) dX1_mayBeEmptied_42
  have hf := xif_t hc4 hf
  refine lv_iload_n hx hb dX1_mayBeEmptied_17 rfl (lv_at hl 1 rfl) ?_
  refine lv_aload_n hx hb dX1_mayBeEmptied_18 rfl (lv_at hl 0 rfl) ?_
  refine x_get C hm inX1 rfl 8 (by decide) tf_RX1_36 (cx_Heap (L_u0 0 _ rfl)) rfl dX1_mayBeEmptied_19 ?_
  refine lv_iconst (v := (0 : Int32)) hx hb dX1_mayBeEmptied_22 (by decide) ?_
  refine x_iald (j := 0) C hm (cx_I (L_u0 9 _ rfl)) (by decide) dX1_mayBeEmptied_23 (by decide) ?_
  refine lv_icmp_eq (tgt := 41) hx hb dX1_mayBeEmptied_24 (by decide) (fun hc5 => ?_) (fun hc5 => ?_)
  · have hf := xif_t hc5 hf
    refine lv_iconst (v := (0 : Int32)) hx hb dX1_mayBeEmptied_41 (by decide) ?_
    cases hf
    exact x_zret C hm (by decide) (by decide) dX1_mayBeEmptied_42
  have hf := xif_f hc5 hf
  refine lv_iload_n hx hb dX1_mayBeEmptied_27 rfl (lv_at hl 1 rfl) ?_
  refine lv_aload_n hx hb dX1_mayBeEmptied_28 rfl (lv_at hl 0 rfl) ?_
  refine x_get C hm inX1 rfl 8 (by decide) tf_RX1_36 (cx_Heap (L_u0 0 _ rfl)) rfl dX1_mayBeEmptied_29 ?_
  refine lv_iconst (v := (1 : Int32)) hx hb dX1_mayBeEmptied_32 (by decide) ?_
  refine x_iald (j := 1) C hm (cx_I (L_u0 9 _ rfl)) (by decide) dX1_mayBeEmptied_33 (by decide) ?_
  refine lv_icmp_eq (tgt := 41) hx hb dX1_mayBeEmptied_34 (by decide) (fun hc6 => ?_) (fun hc6 => ?_)
  · have hf := xif_t hc6 hf
    refine lv_iconst (v := (0 : Int32)) hx hb dX1_mayBeEmptied_41 (by decide) ?_
    cases hf
    exact x_zret C hm (by decide) (by decide) dX1_mayBeEmptied_42
  have hf := xif_f hc6 hf
  refine lv_iconst (v := (1 : Int32)) hx hb dX1_mayBeEmptied_37 (by decide) ?_
  refine lv_goto (tgt := 42) hx hb dX1_mayBeEmptied_38 (by decide) ?_
  cases hf
  exact x_zret C hm (by decide) (by decide) dX1_mayBeEmptied_42
/-! ColouredHeap$Heap.freePagesWithoutLife()V -/
theorem dX1_freePagesWithoutLife_0 : decode cX1_freePagesWithoutLife 0 = .ok (.iconst 0, 1) := by decide +kernel
theorem dX1_freePagesWithoutLife_1 : decode cX1_freePagesWithoutLife 1 = .ok (.istore_n 1, 1) := by decide +kernel
theorem dX1_freePagesWithoutLife_2 : decode cX1_freePagesWithoutLife 2 = .ok (.iload_n 1, 1) := by decide +kernel
theorem dX1_freePagesWithoutLife_3 : decode cX1_freePagesWithoutLife 3 = .ok (.bipush 8, 2) := by decide +kernel
theorem dX1_freePagesWithoutLife_5 : decode cX1_freePagesWithoutLife 5 = .ok (.if_icmp .ge 31, 3) := by decide +kernel
theorem dX1_freePagesWithoutLife_8 : decode cX1_freePagesWithoutLife 8 = .ok (.aload_n 0, 1) := by decide +kernel
theorem dX1_freePagesWithoutLife_9 : decode cX1_freePagesWithoutLife 9 = .ok (.iload_n 1, 1) := by decide +kernel
theorem dX1_freePagesWithoutLife_10 : decode cX1_freePagesWithoutLife 10 = .ok (.invokevirtual 174, 3) := by decide +kernel
theorem dX1_freePagesWithoutLife_13 : decode cX1_freePagesWithoutLife 13 = .ok (.ifCond .eq 17, 3) := by decide +kernel
theorem dX1_freePagesWithoutLife_16 : decode cX1_freePagesWithoutLife 16 = .ok (.aload_n 0, 1) := by decide +kernel
theorem dX1_freePagesWithoutLife_17 : decode cX1_freePagesWithoutLife 17 = .ok (.getfield 24, 3) := by decide +kernel
theorem dX1_freePagesWithoutLife_20 : decode cX1_freePagesWithoutLife 20 = .ok (.iload_n 1, 1) := by decide +kernel
theorem dX1_freePagesWithoutLife_21 : decode cX1_freePagesWithoutLife 21 = .ok (.iaload, 1) := by decide +kernel
theorem dX1_freePagesWithoutLife_22 : decode cX1_freePagesWithoutLife 22 = .ok (.ifCond .ne 8, 3) := by decide +kernel
theorem dX1_freePagesWithoutLife_25 : decode cX1_freePagesWithoutLife 25 = .ok (.aload_n 0, 1) := by decide +kernel
theorem dX1_freePagesWithoutLife_26 : decode cX1_freePagesWithoutLife 26 = .ok (.iload_n 1, 1) := by decide +kernel
theorem dX1_freePagesWithoutLife_27 : decode cX1_freePagesWithoutLife 27 = .ok (.invokevirtual 177, 3) := by decide +kernel
theorem dX1_freePagesWithoutLife_30 : decode cX1_freePagesWithoutLife 30 = .ok (.iinc 1 1, 3) := by decide +kernel
theorem dX1_freePagesWithoutLife_33 : decode cX1_freePagesWithoutLife 33 = .ok (.goto (-31), 3) := by decide +kernel
theorem dX1_freePagesWithoutLife_36 : decode cX1_freePagesWithoutLife 36 = .ok (.return_, 1) := by decide +kernel
def g_X1_freePagesWithoutLife_2 (o1 : Nat) : Nat → xm → Int32 → Option ((xm))
  | 0, _, _ => none
  | n + 1, M3, x2 => (if (8 : Int32) ≤ x2 then some (M3) else xb1 (f_X1_mayBeEmptied o1 M3 x2) (fun v7 => (if v7 = 0 then xlet (x2 + (1 : Int32)) (fun v10 => g_X1_freePagesWithoutLife_2 o1 n M3 v10) else if xin x2 8 = true then (if (M3 (o1 + 5) (Int32.toNatClampNeg x2)) = 0 then xb1 (f_X1_freePage o1 M3 x2) (fun M15 => xlet (x2 + (1 : Int32)) (fun v17 => g_X1_freePagesWithoutLife_2 o1 n M15 v17)) else xlet (x2 + (1 : Int32)) (fun v13 => g_X1_freePagesWithoutLife_2 o1 n M3 v13)) else none)))
def f_X1_freePagesWithoutLife (u0 : Nat) (M : xm) : Option (xm) := xb1 (g_X1_freePagesWithoutLife_2 u0 xfuel M (0 : Int32)) (fun M18 => some M18)
set_option maxHeartbeats 4000000 in
set_option maxRecDepth 20000 in
theorem j_X1_freePagesWithoutLife_2 {p : Program} {l : Launch} {e : Env} {s : State} {m : MethodId} {args : Array Value} {below : List Frame} {meth : Method} {c : Code} {Q : State → Prop} {E : xE} {b : Nat} (C : xC p s m args meth c cX1_freePagesWithoutLife 2 RX1 none E b) {o1 : Nat} (L_o1 : lat o1 pHeap) {y4 : xm}
    (kx0 : ∀ (H : Heap) (locs : List Loc) (ls : Array Slot), xM E b NX (cX E b y4) s.heap H locs → lv_has ls 2 [] → W p l e (xR 4) s m args below meth c H locs 0 0 Q (F0 m 36 ls [])) :
    ∀ (n : Nat) (M3 : xm) (x2 : Int32) (H : Heap) (locs : List Loc) (ls : Array Slot), g_X1_freePagesWithoutLife_2 o1 n M3 x2 = some y4 → xM E b NX (cX E b M3) s.heap H locs → lv_has ls 2 [(0, .ref (b + o1)), (1, .int x2)] → W p l e (xR 4) s m args below meth c H locs 0 0 Q (F0 m 2 ls []) := by
  have hx := C.1.1
  have hb := C.1.2.1
  intro n
  induction n with
  | zero =>
    intro M3 x2 H locs ls hf hm hl
    rw [g_X1_freePagesWithoutLife_2] at hf
    cases hf
  | succ n ih =>
    intro M3 x2 H locs ls hf hm hl
    rw [g_X1_freePagesWithoutLife_2] at hf
    refine lv_iload_n hx hb dX1_freePagesWithoutLife_2 rfl (lv_at hl 1 rfl) ?_
    refine lv_bipush (v := (8 : Int32)) hx hb dX1_freePagesWithoutLife_3 (by decide) ?_
    refine lv_icmp_ge (tgt := 36) hx hb dX1_freePagesWithoutLife_5 (by decide) (fun hc5 => ?_) (fun hc5 => ?_)
    · have hf := xif_t hc5 hf
      cases hf
      exact kx0 H locs ls hm (lv_sub hl [] rfl)
    have hf := xif_f hc5 hf
    refine lv_aload_n hx hb dX1_freePagesWithoutLife_8 rfl (lv_at hl 0 rfl) ?_
    refine lv_iload_n hx hb dX1_freePagesWithoutLife_9 rfl (lv_at hl 1 rfl) ?_
    obtain ⟨v7, hq6, hf⟩ := xb1_e hf
    refine x_callVi (As := [.int x2]) (rest := []) C hm (c_X1_mayBeEmptied l E b L_o1 M3 x2 hq6) rfl (cx_Heap (L_o1 0 _ rfl)) tc_X1_mayBeEmptied tm_RX1_174 ti_X1_mayBeEmptied ts_X1_mayBeEmptied tn_RX1 td_X1_mayBeEmptied rfl rfl ⟨Nat.le_of_ble_eq_true rfl, Nat.le_of_ble_eq_true rfl⟩ rfl hl.1 rfl (Nat.le_of_ble_eq_true rfl) ⟨Nat.zero_le _, Nat.zero_le _⟩ dX1_freePagesWithoutLife_10 (fun H locs hP8 hm => ?_)
    refine lv_if_eq (tgt := 30) hx hb dX1_freePagesWithoutLife_13 (by decide) (fun hc9 => ?_) (fun hc9 => ?_)
    · have hf := xif_t hc9 hf
      obtain ⟨v10, ev10, hf⟩ := xlet_x hf
      refine lv_iinc (v := v10) (lv' := [(1, .int v10), (0, .ref (b + o1))]) hx hb dX1_freePagesWithoutLife_30 hl (k := 1) rfl (by rw [ev10]; rfl) (by decide) rfl (fun ls hl => ?_)
      refine lv_goto (tgt := 2) hx hb dX1_freePagesWithoutLife_33 (by decide) ?_
      exact ih M3 v10 H locs ls hf hm (lv_sub hl [1, 0] rfl)
    have hf := xif_f hc9 hf
    refine lv_aload_n hx hb dX1_freePagesWithoutLife_16 rfl (lv_at hl 0 rfl) ?_
    refine x_get C hm inX1 rfl 4 (by decide) tf_RX1_24 (cx_Heap (L_o1 0 _ rfl)) rfl dX1_freePagesWithoutLife_17 ?_
    refine lv_iload_n hx hb dX1_freePagesWithoutLife_20 rfl (lv_at hl 1 rfl) ?_
    obtain ⟨hi11, hf⟩ := xif_s hf
    refine x_iald (j := (Int32.toNatClampNeg x2)) C hm (cx_I (L_o1 5 _ rfl)) hi11 dX1_freePagesWithoutLife_21 rfl ?_
    refine lv_if_ne (tgt := 30) hx hb dX1_freePagesWithoutLife_22 (by decide) (fun hc12 => ?_) (fun hc12 => ?_)
    · have hf := xif_f hc12 hf
      obtain ⟨v13, ev13, hf⟩ := xlet_x hf
      refine lv_iinc (v := v13) (lv' := [(1, .int v13), (0, .ref (b + o1))]) hx hb dX1_freePagesWithoutLife_30 hl (k := 1) rfl (by rw [ev13]; rfl) (by decide) rfl (fun ls hl => ?_)
      refine lv_goto (tgt := 2) hx hb dX1_freePagesWithoutLife_33 (by decide) ?_
      exact ih M3 v13 H locs ls hf hm (lv_sub hl [1, 0] rfl)
    have hf := xif_t hc12 hf
    refine lv_aload_n hx hb dX1_freePagesWithoutLife_25 rfl (lv_at hl 0 rfl) ?_
    refine lv_iload_n hx hb dX1_freePagesWithoutLife_26 rfl (lv_at hl 1 rfl) ?_
    obtain ⟨M15, hq14, hf⟩ := xb1_e hf
    refine x_callVv (As := [.int x2]) (rest := []) C hm (c_X1_freePage l E b L_o1 M3 x2 hq14) rfl (cx_Heap (L_o1 0 _ rfl)) tc_X1_freePage tm_RX1_177 ti_X1_freePage ts_X1_freePage tn_RX1 td_X1_freePage rfl rfl ⟨Nat.le_of_ble_eq_true rfl, Nat.le_of_ble_eq_true rfl⟩ rfl hl.1 rfl (Nat.le_of_ble_eq_true rfl) ⟨Nat.zero_le _, Nat.zero_le _⟩ dX1_freePagesWithoutLife_27 (fun H locs hP16 hm => ?_)
    obtain ⟨v17, ev17, hf⟩ := xlet_x hf
    refine lv_iinc (v := v17) (lv' := [(1, .int v17), (0, .ref (b + o1))]) hx hb dX1_freePagesWithoutLife_30 hl (k := 1) rfl (by rw [ev17]; rfl) (by decide) rfl (fun ls hl => ?_)
    refine lv_goto (tgt := 2) hx hb dX1_freePagesWithoutLife_33 (by decide) ?_
    exact ih M15 v17 H locs ls hf hm (lv_sub hl [1, 0] rfl)
set_option maxHeartbeats 4000000 in
set_option maxRecDepth 20000 in
theorem c_X1_freePagesWithoutLife (l : Launch) (E : xE) (b : Nat) {u0 : Nat} (L_u0 : lat u0 pHeap) (M : xm) {M' : xm} (hf : f_X1_freePagesWithoutLife u0 M = some M') :
    xMet l E b NX yX1_freePagesWithoutLife cX1_freePagesWithoutLife 2 none (xR 4) [.ref (b + u0)] (cX E b M) none True (cX E b M') := by
  refine xMet.ofW (own := RX1) (by decide) rfl (Nat.le_of_ble_eq_true rfl) ?_
  intro p e s m below meth c H locs ls C hm hl
  have hx := C.1.1
  have hb := C.1.2.1
  have hl : lv_has ls 2 [(0, .ref (b + u0))] := hl
  unfold f_X1_freePagesWithoutLife at hf
  refine lv_iconst (v := (0 : Int32)) hx hb dX1_freePagesWithoutLife_0 (by decide) ?_
  refine lv_istore_n (lv' := [(1, .int (0 : Int32)), (0, .ref (b + u0))]) hx hb dX1_freePagesWithoutLife_1 rfl hl (by decide) rfl (fun ls hl => ?_)
  obtain ⟨M18, hq, hf⟩ := xb1_e hf
  refine j_X1_freePagesWithoutLife_2 C L_u0 (fun H locs ls hm hl => ?_) xfuel M (0 : Int32) H locs ls hq hm (lv_sub hl [1, 0] rfl)
  cases hf
  exact x_vret C hm trivial dX1_freePagesWithoutLife_36
/-! ColouredHeap$Heap.loadField(III)I -/
theorem dX1_loadField_0 : decode cX1_loadField 0 = .ok (.aload_n 0, 1) := by decide +kernel
theorem dX1_loadField_1 : decode cX1_loadField 1 = .ok (.iload_n 2, 1) := by decide +kernel
theorem dX1_loadField_2 : decode cX1_loadField 2 = .ok (.iload_n 3, 1) := by decide +kernel
theorem dX1_loadField_3 : decode cX1_loadField 3 = .ok (.invokevirtual 150, 3) := by decide +kernel
theorem dX1_loadField_6 : decode cX1_loadField 6 = .ok (.istore 4, 2) := by decide +kernel
theorem dX1_loadField_8 : decode cX1_loadField 8 = .ok (.iload_n 1, 1) := by decide +kernel
theorem dX1_loadField_9 : decode cX1_loadField 9 = .ok (.invokestatic 98, 3) := by decide +kernel
theorem dX1_loadField_12 : decode cX1_loadField 12 = .ok (.ifCond .eq 11, 3) := by decide +kernel
theorem dX1_loadField_15 : decode cX1_loadField 15 = .ok (.iload 4, 2) := by decide +kernel
theorem dX1_loadField_17 : decode cX1_loadField 17 = .ok (.invokestatic 90, 3) := by decide +kernel
theorem dX1_loadField_20 : decode cX1_loadField 20 = .ok (.ifCond .ne 6, 3) := by decide +kernel
theorem dX1_loadField_23 : decode cX1_loadField 23 = .ok (.bipush (-2), 2) := by decide +kernel
theorem dX1_loadField_25 : decode cX1_loadField 25 = .ok (.ireturn, 1) := by decide +kernel
theorem dX1_loadField_26 : decode cX1_loadField 26 = .ok (.aload_n 0, 1) := by decide +kernel
theorem dX1_loadField_27 : decode cX1_loadField 27 = .ok (.aload_n 0, 1) := by decide +kernel
theorem dX1_loadField_28 : decode cX1_loadField 28 = .ok (.getfield 9, 3) := by decide +kernel
theorem dX1_loadField_31 : decode cX1_loadField 31 = .ok (.iload 4, 2) := by decide +kernel
theorem dX1_loadField_33 : decode cX1_loadField 33 = .ok (.iaload, 1) := by decide +kernel
theorem dX1_loadField_34 : decode cX1_loadField 34 = .ok (.invokevirtual 147, 3) := by decide +kernel
theorem dX1_loadField_37 : decode cX1_loadField 37 = .ok (.istore 5, 2) := by decide +kernel
theorem dX1_loadField_39 : decode cX1_loadField 39 = .ok (.aload_n 0, 1) := by decide +kernel
theorem dX1_loadField_40 : decode cX1_loadField 40 = .ok (.iload 4, 2) := by decide +kernel
theorem dX1_loadField_42 : decode cX1_loadField 42 = .ok (.iload 5, 2) := by decide +kernel
theorem dX1_loadField_44 : decode cX1_loadField 44 = .ok (.invokevirtual 153, 3) := by decide +kernel
theorem dX1_loadField_47 : decode cX1_loadField 47 = .ok (.iload 5, 2) := by decide +kernel
theorem dX1_loadField_49 : decode cX1_loadField 49 = .ok (.bipush (-2), 2) := by decide +kernel
theorem dX1_loadField_51 : decode cX1_loadField 51 = .ok (.if_icmp .eq 11, 3) := by decide +kernel
theorem dX1_loadField_54 : decode cX1_loadField 54 = .ok (.aload_n 0, 1) := by decide +kernel
theorem dX1_loadField_55 : decode cX1_loadField 55 = .ok (.getfield 33, 3) := by decide +kernel
theorem dX1_loadField_58 : decode cX1_loadField 58 = .ok (.iload_n 1, 1) := by decide +kernel
theorem dX1_loadField_59 : decode cX1_loadField 59 = .ok (.iload 5, 2) := by decide +kernel
theorem dX1_loadField_61 : decode cX1_loadField 61 = .ok (.iastore, 1) := by decide +kernel
theorem dX1_loadField_62 : decode cX1_loadField 62 = .ok (.iload 5, 2) := by decide +kernel
theorem dX1_loadField_64 : decode cX1_loadField 64 = .ok (.ireturn, 1) := by decide +kernel
def f_X1_loadField (u0 : Nat) (M : xm) (a1 : Int32) (a2 : Int32) (a3 : Int32) : Option (Int32 × xm) := xb1 (f_X1_fieldWord u0 M a2 a3) (fun v2 => (if (f_X9_isRoot a1) = 0 then some ((-2 : Int32), M) else (if (f_X9_isAddress v2) = 0 then some ((-2 : Int32), M) else if xin v2 64 = true then xb2 (f_X1_mend u0 M (M (u0 + 1) (Int32.toNatClampNeg v2))) (fun v10 M11 => xb1 (f_X1_writeMended u0 M11 v2 v10) (fun M14 => (if v10 = (-2 : Int32) then some (v10, M14) else if xin a1 6 = true then xlet (up2 M14 (u0 + 8) (Int32.toNatClampNeg a1) v10) (fun M18 => some (v10, M18)) else none))) else none)))
set_option maxHeartbeats 4000000 in
set_option maxRecDepth 20000 in
theorem c_X1_loadField (l : Launch) (E : xE) (b : Nat) {u0 : Nat} (L_u0 : lat u0 pHeap) (M : xm) (a1 : Int32) (a2 : Int32) (a3 : Int32) {r : Int32} {M' : xm} (hf : f_X1_loadField u0 M a1 a2 a3 = some (r, M')) :
    xMet l E b NX yX1_loadField cX1_loadField 6 (some .int) (xR 5) [.ref (b + u0), .int a1, .int a2, .int a3] (cX E b M) (some (.int r)) True (cX E b M') := by
  refine xMet.ofW (own := RX1) (by decide) rfl (Nat.le_of_ble_eq_true rfl) ?_
  intro p e s m below meth c H locs ls C hm hl
  have hx := C.1.1
  have hb := C.1.2.1
  have hl : lv_has ls 6 [(0, .ref (b + u0)), (1, .int a1), (2, .int a2), (3, .int a3)] := hl
  unfold f_X1_loadField at hf
  refine lv_aload_n hx hb dX1_loadField_0 rfl (lv_at hl 0 rfl) ?_
  refine lv_iload_n hx hb dX1_loadField_1 rfl (lv_at hl 2 rfl) ?_
  refine lv_iload_n hx hb dX1_loadField_2 rfl (lv_at hl 3 rfl) ?_
  obtain ⟨v2, hq1, hf⟩ := xb1_e hf
  refine x_callVi (As := [.int a2, .int a3]) (rest := []) C hm (c_X1_fieldWord l E b L_u0 M a2 a3 hq1) rfl (cx_Heap (L_u0 0 _ rfl)) tc_X1_fieldWord tm_RX1_150 ti_X1_fieldWord ts_X1_fieldWord tn_RX1 td_X1_fieldWord rfl rfl ⟨Nat.le_of_ble_eq_true rfl, Nat.le_of_ble_eq_true rfl⟩ rfl hl.1 rfl (Nat.le_of_ble_eq_true rfl) ⟨Nat.zero_le _, Nat.zero_le _⟩ dX1_loadField_3 (fun H locs hP3 hm => ?_)
  refine lv_istore (lv' := [(4, .int v2), (0, .ref (b + u0)), (1, .int a1), (2, .int a2), (3, .int a3)]) hx hb dX1_loadField_6 hl (by decide) rfl (fun ls hl => ?_)
  refine lv_iload_n hx hb dX1_loadField_8 rfl (lv_at hl 2 rfl) ?_
  refine x_callSNi (As := [.int a1]) (rest := []) C hm (c_X9_isRoot l E b M a1 rfl) tc_X9_isRoot (by decide +kernel : (RX1, 98, yX9_isRoot, "ColouredHeap") ∈ xNest) tz_X9_isRoot tn_RX9 td_X9_isRoot rfl rfl ⟨Nat.le_of_ble_eq_true rfl, Nat.le_of_ble_eq_true rfl⟩ rfl hl.1 rfl (Nat.le_of_ble_eq_true rfl) ⟨Nat.zero_le _, Nat.zero_le _⟩ dX1_loadField_9 (fun H locs hP4 hm => ?_)
  refine lv_if_eq (tgt := 23) hx hb dX1_loadField_12 (by decide) (fun hc5 => ?_) (fun hc5 => ?_)
  · have hf := xif_t hc5 hf
    refine lv_bipush (v := (-2 : Int32)) hx hb dX1_loadField_23 (by decide) ?_
    cases hf
    exact x_iret C hm trivial dX1_loadField_25
  have hf := xif_f hc5 hf
  refine lv_iload hx hb dX1_loadField_15 (lv_at hl 0 rfl) ?_
  refine x_callSNi (As := [.int v2]) (rest := []) C hm (c_X9_isAddress l E b M v2 rfl) tc_X9_isAddress (by decide +kernel : (RX1, 90, yX9_isAddress, "ColouredHeap") ∈ xNest) tz_X9_isAddress tn_RX9 td_X9_isAddress rfl rfl ⟨Nat.le_of_ble_eq_true rfl, Nat.le_of_ble_eq_true rfl⟩ rfl hl.1 rfl (Nat.le_of_ble_eq_true rfl) ⟨Nat.zero_le _, Nat.zero_le _⟩ dX1_loadField_17 (fun H locs hP6 hm => ?_)
  refine lv_if_ne (tgt := 26) hx hb dX1_loadField_20 (by decide) (fun hc7 => ?_) (fun hc7 => ?_)
  rotate_left
  · have hf := xif_t hc7 hf
    refine lv_bipush (v := (-2 : Int32)) hx hb dX1_loadField_23 (by decide) ?_
    cases hf
    exact x_iret C hm trivial dX1_loadField_25
  have hf := xif_f hc7 hf
  refine lv_aload_n hx hb dX1_loadField_26 rfl (lv_at hl 1 rfl) ?_
  refine lv_aload_n hx hb dX1_loadField_27 rfl (lv_at hl 1 rfl) ?_
  refine x_get C hm inX1 rfl 0 (by decide) tf_RX1_9 (cx_Heap (L_u0 0 _ rfl)) rfl dX1_loadField_28 ?_
  refine lv_iload hx hb dX1_loadField_31 (lv_at hl 0 rfl) ?_
  obtain ⟨hi8, hf⟩ := xif_s hf
  refine x_iald (j := (Int32.toNatClampNeg v2)) C hm (cx_I (L_u0 1 _ rfl)) hi8 dX1_loadField_33 rfl ?_
  obtain ⟨v10, M11, hq9, hf⟩ := xb2_e hf
  refine x_callVi (As := [.int (M (u0 + 1) (Int32.toNatClampNeg v2))]) (rest := []) C hm (c_X1_mend l E b L_u0 M (M (u0 + 1) (Int32.toNatClampNeg v2)) hq9) rfl (cx_Heap (L_u0 0 _ rfl)) tc_X1_mend tm_RX1_147 ti_X1_mend ts_X1_mend tn_RX1 td_X1_mend rfl rfl ⟨Nat.le_of_ble_eq_true rfl, Nat.le_of_ble_eq_true rfl⟩ rfl hl.1 rfl (Nat.le_of_ble_eq_true rfl) ⟨Nat.zero_le _, Nat.zero_le _⟩ dX1_loadField_34 (fun H locs hP12 hm => ?_)
  refine lv_istore (lv' := [(5, .int v10), (4, .int v2), (0, .ref (b + u0)), (1, .int a1), (2, .int a2), (3, .int a3)]) hx hb dX1_loadField_37 hl (by decide) rfl (fun ls hl => ?_)
  refine lv_aload_n hx hb dX1_loadField_39 rfl (lv_at hl 2 rfl) ?_
  refine lv_iload hx hb dX1_loadField_40 (lv_at hl 1 rfl) ?_
  refine lv_iload hx hb dX1_loadField_42 (lv_at hl 0 rfl) ?_
  obtain ⟨M14, hq13, hf⟩ := xb1_e hf
  refine x_callVv (As := [.int v2, .int v10]) (rest := []) C hm (c_X1_writeMended l E b L_u0 M11 v2 v10 hq13) rfl (cx_Heap (L_u0 0 _ rfl)) tc_X1_writeMended tm_RX1_153 ti_X1_writeMended ts_X1_writeMended tn_RX1 td_X1_writeMended rfl rfl ⟨Nat.le_of_ble_eq_true rfl, Nat.le_of_ble_eq_true rfl⟩ rfl hl.1 rfl (Nat.le_of_ble_eq_true rfl) ⟨Nat.zero_le _, Nat.zero_le _⟩ dX1_loadField_44 (fun H locs hP15 hm => ?_)
  refine lv_iload hx hb dX1_loadField_47 (lv_at hl 0 rfl) ?_
  refine lv_bipush (v := (-2 : Int32)) hx hb dX1_loadField_49 (by decide) ?_
  refine lv_icmp_eq (tgt := 62) hx hb dX1_loadField_51 (by decide) (fun hc16 => ?_) (fun hc16 => ?_)
  · have hf := xif_t hc16 hf
    refine lv_iload hx hb dX1_loadField_62 (lv_at hl 0 rfl) ?_
    cases hf
    exact x_iret C hm trivial dX1_loadField_64
  have hf := xif_f hc16 hf
  refine lv_aload_n hx hb dX1_loadField_54 rfl (lv_at hl 2 rfl) ?_
  refine x_get C hm inX1 rfl 7 (by decide) tf_RX1_33 (cx_Heap (L_u0 0 _ rfl)) rfl dX1_loadField_55 ?_
  refine lv_iload_n hx hb dX1_loadField_58 rfl (lv_at hl 3 rfl) ?_
  refine lv_iload hx hb dX1_loadField_59 (lv_at hl 0 rfl) ?_
  obtain ⟨hi17, hf⟩ := xif_s hf
  obtain ⟨M18, eM18, hf⟩ := xlet_x hf
  refine x_iast (j := (Int32.toNatClampNeg a1)) (cf' := cX E b M18) C hm (cx_I (L_u0 8 _ rfl)) hi17 dX1_loadField_61 rfl (by rw [eM18]; exact cu_I (L_u0 8 _ rfl)) (by rw [eM18]; exact cX_o) (fun H locs hm => ?_)
  refine lv_iload hx hb dX1_loadField_62 (lv_at hl 0 rfl) ?_
  cases hf
  exact x_iret C hm trivial dX1_loadField_64
/-! ColouredHeap$Heap.makeObject(II)I -/
theorem dX1_makeObject_0 : decode cX1_makeObject 0 = .ok (.iload_n 1, 1) := by decide +kernel
theorem dX1_makeObject_1 : decode cX1_makeObject 1 = .ok (.invokestatic 98, 3) := by decide +kernel
theorem dX1_makeObject_4 : decode cX1_makeObject 4 = .ok (.ifCond .eq 12, 3) := by decide +kernel
theorem dX1_makeObject_7 : decode cX1_makeObject 7 = .ok (.iload_n 2, 1) := by decide +kernel
theorem dX1_makeObject_8 : decode cX1_makeObject 8 = .ok (.ifCond .lt 8, 3) := by decide +kernel
theorem dX1_makeObject_11 : decode cX1_makeObject 11 = .ok (.iload_n 2, 1) := by decide +kernel
theorem dX1_makeObject_12 : decode cX1_makeObject 12 = .ok (.iconst 3, 1) := by decide +kernel
theorem dX1_makeObject_13 : decode cX1_makeObject 13 = .ok (.if_icmp .le 5, 3) := by decide +kernel
theorem dX1_makeObject_16 : decode cX1_makeObject 16 = .ok (.iconst (-1), 1) := by decide +kernel
theorem dX1_makeObject_17 : decode cX1_makeObject 17 = .ok (.ireturn, 1) := by decide +kernel
theorem dX1_makeObject_18 : decode cX1_makeObject 18 = .ok (.aload_n 0, 1) := by decide +kernel
theorem dX1_makeObject_19 : decode cX1_makeObject 19 = .ok (.iconst 0, 1) := by decide +kernel
theorem dX1_makeObject_20 : decode cX1_makeObject 20 = .ok (.iload_n 2, 1) := by decide +kernel
theorem dX1_makeObject_21 : decode cX1_makeObject 21 = .ok (.iconst 1, 1) := by decide +kernel
theorem dX1_makeObject_22 : decode cX1_makeObject 22 = .ok (.iadd, 1) := by decide +kernel
theorem dX1_makeObject_23 : decode cX1_makeObject 23 = .ok (.invokevirtual 125, 3) := by decide +kernel
theorem dX1_makeObject_26 : decode cX1_makeObject 26 = .ok (.istore_n 3, 1) := by decide +kernel
theorem dX1_makeObject_27 : decode cX1_makeObject 27 = .ok (.iload_n 3, 1) := by decide +kernel
theorem dX1_makeObject_28 : decode cX1_makeObject 28 = .ok (.invokestatic 90, 3) := by decide +kernel
theorem dX1_makeObject_31 : decode cX1_makeObject 31 = .ok (.ifCond .ne 5, 3) := by decide +kernel
theorem dX1_makeObject_34 : decode cX1_makeObject 34 = .ok (.iconst (-1), 1) := by decide +kernel
theorem dX1_makeObject_35 : decode cX1_makeObject 35 = .ok (.ireturn, 1) := by decide +kernel
theorem dX1_makeObject_36 : decode cX1_makeObject 36 = .ok (.aload_n 0, 1) := by decide +kernel
theorem dX1_makeObject_37 : decode cX1_makeObject 37 = .ok (.getfield 9, 3) := by decide +kernel
theorem dX1_makeObject_40 : decode cX1_makeObject 40 = .ok (.iload_n 3, 1) := by decide +kernel
theorem dX1_makeObject_41 : decode cX1_makeObject 41 = .ok (.sipush 1000, 3) := by decide +kernel
theorem dX1_makeObject_44 : decode cX1_makeObject 44 = .ok (.iload_n 2, 1) := by decide +kernel
theorem dX1_makeObject_45 : decode cX1_makeObject 45 = .ok (.iadd, 1) := by decide +kernel
theorem dX1_makeObject_46 : decode cX1_makeObject 46 = .ok (.iastore, 1) := by decide +kernel
theorem dX1_makeObject_47 : decode cX1_makeObject 47 = .ok (.iload_n 3, 1) := by decide +kernel
theorem dX1_makeObject_48 : decode cX1_makeObject 48 = .ok (.iconst 1, 1) := by decide +kernel
theorem dX1_makeObject_49 : decode cX1_makeObject 49 = .ok (.iadd, 1) := by decide +kernel
theorem dX1_makeObject_50 : decode cX1_makeObject 50 = .ok (.istore 4, 2) := by decide +kernel
theorem dX1_makeObject_52 : decode cX1_makeObject 52 = .ok (.iload 4, 2) := by decide +kernel
theorem dX1_makeObject_54 : decode cX1_makeObject 54 = .ok (.iload_n 3, 1) := by decide +kernel
theorem dX1_makeObject_55 : decode cX1_makeObject 55 = .ok (.iload_n 2, 1) := by decide +kernel
theorem dX1_makeObject_56 : decode cX1_makeObject 56 = .ok (.iadd, 1) := by decide +kernel
theorem dX1_makeObject_57 : decode cX1_makeObject 57 = .ok (.if_icmp .gt 24, 3) := by decide +kernel
theorem dX1_makeObject_60 : decode cX1_makeObject 60 = .ok (.iload 4, 2) := by decide +kernel
theorem dX1_makeObject_62 : decode cX1_makeObject 62 = .ok (.bipush 64, 2) := by decide +kernel
theorem dX1_makeObject_64 : decode cX1_makeObject 64 = .ok (.if_icmp .ge 17, 3) := by decide +kernel
theorem dX1_makeObject_67 : decode cX1_makeObject 67 = .ok (.aload_n 0, 1) := by decide +kernel
theorem dX1_makeObject_68 : decode cX1_makeObject 68 = .ok (.getfield 9, 3) := by decide +kernel
theorem dX1_makeObject_71 : decode cX1_makeObject 71 = .ok (.iload 4, 2) := by decide +kernel
theorem dX1_makeObject_73 : decode cX1_makeObject 73 = .ok (.iconst (-1), 1) := by decide +kernel
theorem dX1_makeObject_74 : decode cX1_makeObject 74 = .ok (.iastore, 1) := by decide +kernel
theorem dX1_makeObject_75 : decode cX1_makeObject 75 = .ok (.iinc 4 1, 3) := by decide +kernel
theorem dX1_makeObject_78 : decode cX1_makeObject 78 = .ok (.goto (-26), 3) := by decide +kernel
theorem dX1_makeObject_81 : decode cX1_makeObject 81 = .ok (.aload_n 0, 1) := by decide +kernel
theorem dX1_makeObject_82 : decode cX1_makeObject 82 = .ok (.getfield 33, 3) := by decide +kernel
theorem dX1_makeObject_85 : decode cX1_makeObject 85 = .ok (.iload_n 1, 1) := by decide +kernel
theorem dX1_makeObject_86 : decode cX1_makeObject 86 = .ok (.aload_n 0, 1) := by decide +kernel
theorem dX1_makeObject_87 : decode cX1_makeObject 87 = .ok (.getfield 62, 3) := by decide +kernel
theorem dX1_makeObject_90 : decode cX1_makeObject 90 = .ok (.bipush 64, 2) := by decide +kernel
theorem dX1_makeObject_92 : decode cX1_makeObject 92 = .ok (.imul, 1) := by decide +kernel
theorem dX1_makeObject_93 : decode cX1_makeObject 93 = .ok (.iload_n 3, 1) := by decide +kernel
theorem dX1_makeObject_94 : decode cX1_makeObject 94 = .ok (.iadd, 1) := by decide +kernel
theorem dX1_makeObject_95 : decode cX1_makeObject 95 = .ok (.iastore, 1) := by decide +kernel
theorem dX1_makeObject_96 : decode cX1_makeObject 96 = .ok (.aload_n 0, 1) := by decide +kernel
theorem dX1_makeObject_97 : decode cX1_makeObject 97 = .ok (.getfield 59, 3) := by decide +kernel
theorem dX1_makeObject_100 : decode cX1_makeObject 100 = .ok (.ifCond .eq 8, 3) := by decide +kernel
theorem dX1_makeObject_103 : decode cX1_makeObject 103 = .ok (.aload_n 0, 1) := by decide +kernel
theorem dX1_makeObject_104 : decode cX1_makeObject 104 = .ok (.iload_n 3, 1) := by decide +kernel
theorem dX1_makeObject_105 : decode cX1_makeObject 105 = .ok (.invokevirtual 117, 3) := by decide +kernel
theorem dX1_makeObject_108 : decode cX1_makeObject 108 = .ok (.aload_n 0, 1) := by decide +kernel
theorem dX1_makeObject_109 : decode cX1_makeObject 109 = .ok (.getfield 51, 3) := by decide +kernel
theorem dX1_makeObject_112 : decode cX1_makeObject 112 = .ok (.aload_n 0, 1) := by decide +kernel
theorem dX1_makeObject_113 : decode cX1_makeObject 113 = .ok (.getfield 68, 3) := by decide +kernel
theorem dX1_makeObject_116 : decode cX1_makeObject 116 = .ok (.iconst 0, 1) := by decide +kernel
theorem dX1_makeObject_117 : decode cX1_makeObject 117 = .ok (.iload_n 3, 1) := by decide +kernel
theorem dX1_makeObject_118 : decode cX1_makeObject 118 = .ok (.invokevirtual 121, 3) := by decide +kernel
theorem dX1_makeObject_121 : decode cX1_makeObject 121 = .ok (.iload_n 3, 1) := by decide +kernel
theorem dX1_makeObject_122 : decode cX1_makeObject 122 = .ok (.ireturn, 1) := by decide +kernel
def g_X1_makeObject_52 (o14 : Nat) (x15 : Int32) (x16 : Int32) (x17 : Int32) : Nat → xm → Int32 → Option ((xm))
  | 0, _, _ => none
  | n + 1, M19, x18 => (if (x17 + x16) < x18 then some (M19) else (if (64 : Int32) ≤ x18 then some (M19) else if xin x18 64 = true then xlet (up2 M19 (o14 + 1) (Int32.toNatClampNeg x18) (-1 : Int32)) (fun M24 => xlet (x18 + (1 : Int32)) (fun v25 => g_X1_makeObject_52 o14 x15 x16 x17 n M24 v25)) else none))
def f_X1_makeObject (u0 : Nat) (M : xm) (a1 : Int32) (a2 : Int32) : Option (Int32 × xm) := (if (f_X9_isRoot a1) = 0 then some ((-1 : Int32), M) else (if a2 < 0 then some ((-1 : Int32), M) else (if a2 ≤ (3 : Int32) then xb2 (f_X1_giveOut u0 M (0 : Int32) (a2 + (1 : Int32))) (fun v6 M7 => (if (f_X9_isAddress v6) = 0 then some ((-1 : Int32), M7) else if xin v6 64 = true then xlet (up2 M7 (u0 + 1) (Int32.toNatClampNeg v6) ((1000 : Int32) + a2)) (fun M12 => xlet (v6 + (1 : Int32)) (fun v13 => xb1 (g_X1_makeObject_52 u0 a1 a2 v6 xfuel M12 v13) (fun M26 => if xin a1 6 = true then xlet (up2 M26 (u0 + 8) (Int32.toNatClampNeg a1) (((M26 u0 15) * (64 : Int32)) + v6)) (fun M28 => xlet (fun (M29 : xm) => xb1 (f_X0_write (u0 + 13) M29 (M29 u0 17) (0 : Int32) v6) (fun M32 => some (v6, M32))) (fun k30 => (if (M28 u0 14) = 0 then (k30 M28) else xb1 (f_X1_mark u0 M28 v6) (fun M36 => (k30 M36))))) else none))) else none)) else some ((-1 : Int32), M))))
set_option maxHeartbeats 4000000 in
set_option maxRecDepth 20000 in
theorem j_X1_makeObject_52 {p : Program} {l : Launch} {e : Env} {s : State} {m : MethodId} {args : Array Value} {below : List Frame} {meth : Method} {c : Code} {Q : State → Prop} {E : xE} {b : Nat} (C : xC p s m args meth c cX1_makeObject 5 RX1 (some .int) E b) {o14 : Nat} (L_o14 : lat o14 pHeap) (x15 : Int32) (x16 : Int32) (x17 : Int32) {y20 : xm}
    (kx0 : ∀ (H : Heap) (locs : List Loc) (ls : Array Slot), xM E b NX (cX E b y20) s.heap H locs → lv_has ls 5 [(0, .ref (b + o14)), (1, .int x15), (3, .int x17)] → W p l e (xR 3) s m args below meth c H locs 0 0 Q (F0 m 81 ls [])) :
    ∀ (n : Nat) (M19 : xm) (x18 : Int32) (H : Heap) (locs : List Loc) (ls : Array Slot), g_X1_makeObject_52 o14 x15 x16 x17 n M19 x18 = some y20 → xM E b NX (cX E b M19) s.heap H locs → lv_has ls 5 [(0, .ref (b + o14)), (1, .int x15), (2, .int x16), (3, .int x17), (4, .int x18)] → W p l e (xR 3) s m args below meth c H locs 0 0 Q (F0 m 52 ls []) := by
  have hx := C.1.1
  have hb := C.1.2.1
  intro n
  induction n with
  | zero =>
    intro M19 x18 H locs ls hf hm hl
    rw [g_X1_makeObject_52] at hf
    cases hf
  | succ n ih =>
    intro M19 x18 H locs ls hf hm hl
    rw [g_X1_makeObject_52] at hf
    refine lv_iload hx hb dX1_makeObject_52 (lv_at hl 4 rfl) ?_
    refine lv_iload_n hx hb dX1_makeObject_54 rfl (lv_at hl 3 rfl) ?_
    refine lv_iload_n hx hb dX1_makeObject_55 rfl (lv_at hl 2 rfl) ?_
    refine lv_iadd hx hb dX1_makeObject_56 ?_
    refine lv_icmp_gt (tgt := 81) hx hb dX1_makeObject_57 (by decide) (fun hc21 => ?_) (fun hc21 => ?_)
    · have hf := xif_t hc21 hf
      cases hf
      exact kx0 H locs ls hm (lv_sub hl [0, 1, 3] rfl)
    have hf := xif_f hc21 hf
    refine lv_iload hx hb dX1_makeObject_60 (lv_at hl 4 rfl) ?_
    refine lv_bipush (v := (64 : Int32)) hx hb dX1_makeObject_62 (by decide) ?_
    refine lv_icmp_ge (tgt := 81) hx hb dX1_makeObject_64 (by decide) (fun hc22 => ?_) (fun hc22 => ?_)
    · have hf := xif_t hc22 hf
      cases hf
      exact kx0 H locs ls hm (lv_sub hl [0, 1, 3] rfl)
    have hf := xif_f hc22 hf
    refine lv_aload_n hx hb dX1_makeObject_67 rfl (lv_at hl 0 rfl) ?_
    refine x_get C hm inX1 rfl 0 (by decide) tf_RX1_9 (cx_Heap (L_o14 0 _ rfl)) rfl dX1_makeObject_68 ?_
    refine lv_iload hx hb dX1_makeObject_71 (lv_at hl 4 rfl) ?_
    refine lv_iconst (v := (-1 : Int32)) hx hb dX1_makeObject_73 (by decide) ?_
    obtain ⟨hi23, hf⟩ := xif_s hf
    obtain ⟨M24, eM24, hf⟩ := xlet_x hf
    refine x_iast (j := (Int32.toNatClampNeg x18)) (cf' := cX E b M24) C hm (cx_I (L_o14 1 _ rfl)) hi23 dX1_makeObject_74 rfl (by rw [eM24]; exact cu_I (L_o14 1 _ rfl)) (by rw [eM24]; exact cX_o) (fun H locs hm => ?_)
    obtain ⟨v25, ev25, hf⟩ := xlet_x hf
    refine lv_iinc (v := v25) (lv' := [(4, .int v25), (0, .ref (b + o14)), (1, .int x15), (2, .int x16), (3, .int x17)]) hx hb dX1_makeObject_75 hl (k := 4) rfl (by rw [ev25]; rfl) (by decide) rfl (fun ls hl => ?_)
    refine lv_goto (tgt := 52) hx hb dX1_makeObject_78 (by decide) ?_
    exact ih M24 v25 H locs ls hf hm (lv_sub hl [1, 2, 3, 4, 0] rfl)
set_option maxHeartbeats 4000000 in
set_option maxRecDepth 20000 in
theorem c_X1_makeObject (l : Launch) (E : xE) (b : Nat) {u0 : Nat} (L_u0 : lat u0 pHeap) (M : xm) (a1 : Int32) (a2 : Int32) {r : Int32} {M' : xm} (hf : f_X1_makeObject u0 M a1 a2 = some (r, M')) :
    xMet l E b NX yX1_makeObject cX1_makeObject 5 (some .int) (xR 3) [.ref (b + u0), .int a1, .int a2] (cX E b M) (some (.int r)) True (cX E b M') := by
  refine xMet.ofW (own := RX1) (by decide) rfl (Nat.le_of_ble_eq_true rfl) ?_
  intro p e s m below meth c H locs ls C hm hl
  have hx := C.1.1
  have hb := C.1.2.1
  have hl : lv_has ls 5 [(0, .ref (b + u0)), (1, .int a1), (2, .int a2)] := hl
  unfold f_X1_makeObject at hf
  refine lv_iload_n hx hb dX1_makeObject_0 rfl (lv_at hl 1 rfl) ?_
  refine x_callSNi (As := [.int a1]) (rest := []) C hm (c_X9_isRoot l E b M a1 rfl) tc_X9_isRoot (by decide +kernel : (RX1, 98, yX9_isRoot, "ColouredHeap") ∈ xNest) tz_X9_isRoot tn_RX9 td_X9_isRoot rfl rfl ⟨Nat.le_of_ble_eq_true rfl, Nat.le_of_ble_eq_true rfl⟩ rfl hl.1 rfl (Nat.le_of_ble_eq_true rfl) ⟨Nat.zero_le _, Nat.zero_le _⟩ dX1_makeObject_1 (fun H locs hP1 hm => ?_)
  refine lv_if_eq (tgt := 16) hx hb dX1_makeObject_4 (by decide) (fun hc2 => ?_) (fun hc2 => ?_)
  · have hf := xif_t hc2 hf
    refine lv_iconst (v := (-1 : Int32)) hx hb dX1_makeObject_16 (by decide) ?_
    cases hf
    exact x_iret C hm trivial dX1_makeObject_17
  have hf := xif_f hc2 hf
  refine lv_iload_n hx hb dX1_makeObject_7 rfl (lv_at hl 2 rfl) ?_
  refine lv_if_lt (tgt := 16) hx hb dX1_makeObject_8 (by decide) (fun hc3 => ?_) (fun hc3 => ?_)
  · have hf := xif_t hc3 hf
    refine lv_iconst (v := (-1 : Int32)) hx hb dX1_makeObject_16 (by decide) ?_
    cases hf
    exact x_iret C hm trivial dX1_makeObject_17
  have hf := xif_f hc3 hf
  refine lv_iload_n hx hb dX1_makeObject_11 rfl (lv_at hl 2 rfl) ?_
  refine lv_iconst (v := (3 : Int32)) hx hb dX1_makeObject_12 (by decide) ?_
  refine lv_icmp_le (tgt := 18) hx hb dX1_makeObject_13 (by decide) (fun hc4 => ?_) (fun hc4 => ?_)
  rotate_left
  · have hf := xif_f hc4 hf
    refine lv_iconst (v := (-1 : Int32)) hx hb dX1_makeObject_16 (by decide) ?_
    cases hf
    exact x_iret C hm trivial dX1_makeObject_17
  have hf := xif_t hc4 hf
  refine lv_aload_n hx hb dX1_makeObject_18 rfl (lv_at hl 0 rfl) ?_
  refine lv_iconst (v := (0 : Int32)) hx hb dX1_makeObject_19 (by decide) ?_
  refine lv_iload_n hx hb dX1_makeObject_20 rfl (lv_at hl 2 rfl) ?_
  refine lv_iconst (v := (1 : Int32)) hx hb dX1_makeObject_21 (by decide) ?_
  refine lv_iadd hx hb dX1_makeObject_22 ?_
  obtain ⟨v6, M7, hq5, hf⟩ := xb2_e hf
  refine x_callVi (As := [.int (0 : Int32), .int (a2 + (1 : Int32))]) (rest := []) C hm (c_X1_giveOut l E b L_u0 M (0 : Int32) (a2 + (1 : Int32)) hq5) rfl (cx_Heap (L_u0 0 _ rfl)) tc_X1_giveOut tm_RX1_125 ti_X1_giveOut ts_X1_giveOut tn_RX1 td_X1_giveOut rfl rfl ⟨Nat.le_of_ble_eq_true rfl, Nat.le_of_ble_eq_true rfl⟩ rfl hl.1 rfl (Nat.le_of_ble_eq_true rfl) ⟨Nat.zero_le _, Nat.zero_le _⟩ dX1_makeObject_23 (fun H locs hP8 hm => ?_)
  refine lv_istore_n (lv' := [(3, .int v6), (0, .ref (b + u0)), (1, .int a1), (2, .int a2)]) hx hb dX1_makeObject_26 rfl hl (by decide) rfl (fun ls hl => ?_)
  refine lv_iload_n hx hb dX1_makeObject_27 rfl (lv_at hl 0 rfl) ?_
  refine x_callSNi (As := [.int v6]) (rest := []) C hm (c_X9_isAddress l E b M7 v6 rfl) tc_X9_isAddress (by decide +kernel : (RX1, 90, yX9_isAddress, "ColouredHeap") ∈ xNest) tz_X9_isAddress tn_RX9 td_X9_isAddress rfl rfl ⟨Nat.le_of_ble_eq_true rfl, Nat.le_of_ble_eq_true rfl⟩ rfl hl.1 rfl (Nat.le_of_ble_eq_true rfl) ⟨Nat.zero_le _, Nat.zero_le _⟩ dX1_makeObject_28 (fun H locs hP9 hm => ?_)
  refine lv_if_ne (tgt := 36) hx hb dX1_makeObject_31 (by decide) (fun hc10 => ?_) (fun hc10 => ?_)
  rotate_left
  · have hf := xif_t hc10 hf
    refine lv_iconst (v := (-1 : Int32)) hx hb dX1_makeObject_34 (by decide) ?_
    cases hf
    exact x_iret C hm trivial dX1_makeObject_35
  have hf := xif_f hc10 hf
  refine lv_aload_n hx hb dX1_makeObject_36 rfl (lv_at hl 1 rfl) ?_
  refine x_get C hm inX1 rfl 0 (by decide) tf_RX1_9 (cx_Heap (L_u0 0 _ rfl)) rfl dX1_makeObject_37 ?_
  refine lv_iload_n hx hb dX1_makeObject_40 rfl (lv_at hl 0 rfl) ?_
  refine lv_sipush (v := (1000 : Int32)) hx hb dX1_makeObject_41 (by decide) ?_
  refine lv_iload_n hx hb dX1_makeObject_44 rfl (lv_at hl 3 rfl) ?_
  refine lv_iadd hx hb dX1_makeObject_45 ?_
  obtain ⟨hi11, hf⟩ := xif_s hf
  obtain ⟨M12, eM12, hf⟩ := xlet_x hf
  refine x_iast (j := (Int32.toNatClampNeg v6)) (cf' := cX E b M12) C hm (cx_I (L_u0 1 _ rfl)) hi11 dX1_makeObject_46 rfl (by rw [eM12]; exact cu_I (L_u0 1 _ rfl)) (by rw [eM12]; exact cX_o) (fun H locs hm => ?_)
  refine lv_iload_n hx hb dX1_makeObject_47 rfl (lv_at hl 0 rfl) ?_
  refine lv_iconst (v := (1 : Int32)) hx hb dX1_makeObject_48 (by decide) ?_
  refine lv_iadd hx hb dX1_makeObject_49 ?_
  refine lv_topi (fun v13 ev13 => ?_)
  have hf := xlet_e ev13 hf
  refine lv_istore (lv' := [(4, .int v13), (3, .int v6), (0, .ref (b + u0)), (1, .int a1), (2, .int a2)]) hx hb dX1_makeObject_50 hl (by decide) rfl (fun ls hl => ?_)
  obtain ⟨M26, hq, hf⟩ := xb1_e hf
  refine j_X1_makeObject_52 C L_u0 a1 a2 v6 (fun H locs ls hm hl => ?_) xfuel M12 v13 H locs ls hq hm (lv_sub hl [2, 3, 4, 1, 0] rfl)
  refine lv_aload_n hx hb dX1_makeObject_81 rfl (lv_at hl 0 rfl) ?_
  refine x_get C hm inX1 rfl 7 (by decide) tf_RX1_33 (cx_Heap (L_u0 0 _ rfl)) rfl dX1_makeObject_82 ?_
  refine lv_iload_n hx hb dX1_makeObject_85 rfl (lv_at hl 1 rfl) ?_
  refine lv_aload_n hx hb dX1_makeObject_86 rfl (lv_at hl 0 rfl) ?_
  refine x_get C hm inX1 rfl 15 (by decide) tf_RX1_62 (cx_Heap (L_u0 0 _ rfl)) rfl dX1_makeObject_87 ?_
  refine lv_bipush (v := (64 : Int32)) hx hb dX1_makeObject_90 (by decide) ?_
  refine lv_imul hx hb dX1_makeObject_92 ?_
  refine lv_iload_n hx hb dX1_makeObject_93 rfl (lv_at hl 2 rfl) ?_
  refine lv_iadd hx hb dX1_makeObject_94 ?_
  obtain ⟨hi27, hf⟩ := xif_s hf
  obtain ⟨M28, eM28, hf⟩ := xlet_x hf
  refine x_iast (j := (Int32.toNatClampNeg a1)) (cf' := cX E b M28) C hm (cx_I (L_u0 8 _ rfl)) hi27 dX1_makeObject_95 rfl (by rw [eM28]; exact cu_I (L_u0 8 _ rfl)) (by rw [eM28]; exact cX_o) (fun H locs hm => ?_)
  refine lv_aload_n hx hb dX1_makeObject_96 rfl (lv_at hl 0 rfl) ?_
  refine x_get C hm inX1 rfl 14 (by decide) tf_RX1_59 (cx_Heap (L_u0 0 _ rfl)) rfl dX1_makeObject_97 ?_
  obtain ⟨k30, ek30, hf⟩ := xlet_x hf
  have jk30 : ∀ (M29 : xm) (H : Heap) (locs : List Loc) (ls : Array Slot), k30 M29 = some (r, M') → xM E b NX (cX E b M29) s.heap H locs → lv_has ls 5 [(0, .ref (b + u0)), (3, .int v6)] → W p l e (xR 3) s m ([.ref (b + u0), .int a1, .int a2] : List Value).toArray below meth c H locs 0 0 (MQ below (xQ E b NX (some (.int r)) True (cX E b M')) ([.ref (b + u0), .int a1, .int a2] : List Value).toArray s 0 0 (xA b NX)) (F0 m 108 ls []) := by
    intro M29 H locs ls hf hm hl
    have hf := xap1 ek30 hf
    refine lv_aload_n hx hb dX1_makeObject_108 rfl (lv_at hl 0 rfl) ?_
    refine x_get C hm inX1 rfl 12 (by decide) tf_RX1_51 (cx_Heap (L_u0 0 _ rfl)) rfl dX1_makeObject_109 ?_
    refine lv_aload_n hx hb dX1_makeObject_112 rfl (lv_at hl 0 rfl) ?_
    refine x_get C hm inX1 rfl 17 (by decide) tf_RX1_68 (cx_Heap (L_u0 0 _ rfl)) rfl dX1_makeObject_113 ?_
    refine lv_iconst (v := (0 : Int32)) hx hb dX1_makeObject_116 (by decide) ?_
    refine lv_iload_n hx hb dX1_makeObject_117 rfl (lv_at hl 1 rfl) ?_
    obtain ⟨M32, hq31, hf⟩ := xb1_e hf
    refine x_callVv (As := [.int (M29 u0 17), .int (0 : Int32), .int v6]) (rest := []) C hm (c_X0_write l E b (lat_book L_u0) M29 (M29 u0 17) (0 : Int32) v6 hq31) rfl (cx_Book ((lat_book L_u0) 0 _ rfl)) tc_X0_write tm_RX1_121 ti_X0_write ts_X0_write tn_RX0 td_X0_write rfl rfl ⟨Nat.le_of_ble_eq_true rfl, Nat.le_of_ble_eq_true rfl⟩ rfl hl.1 rfl (Nat.le_of_ble_eq_true rfl) ⟨Nat.zero_le _, Nat.zero_le _⟩ dX1_makeObject_118 (fun H locs hP33 hm => ?_)
    refine lv_iload_n hx hb dX1_makeObject_121 rfl (lv_at hl 1 rfl) ?_
    cases hf
    exact x_iret C hm trivial dX1_makeObject_122
  refine lv_if_eq (tgt := 108) hx hb dX1_makeObject_100 (by decide) (fun hc34 => ?_) (fun hc34 => ?_)
  · have hf := xif_t hc34 hf
    exact jk30 M28 H locs ls  hf hm (lv_sub hl [0, 2] rfl)
  have hf := xif_f hc34 hf
  refine lv_aload_n hx hb dX1_makeObject_103 rfl (lv_at hl 0 rfl) ?_
  refine lv_iload_n hx hb dX1_makeObject_104 rfl (lv_at hl 2 rfl) ?_
  obtain ⟨M36, hq35, hf⟩ := xb1_e hf
  refine x_callVv (As := [.int v6]) (rest := []) C hm (c_X1_mark l E b L_u0 M28 v6 hq35) rfl (cx_Heap (L_u0 0 _ rfl)) tc_X1_mark tm_RX1_117 ti_X1_mark ts_X1_mark tn_RX1 td_X1_mark rfl rfl ⟨Nat.le_of_ble_eq_true rfl, Nat.le_of_ble_eq_true rfl⟩ rfl hl.1 rfl (Nat.le_of_ble_eq_true rfl) ⟨Nat.zero_le _, Nat.zero_le _⟩ dX1_makeObject_105 (fun H locs hP37 hm => ?_)
  exact jk30 M36 H locs ls  hf hm (lv_sub hl [0, 2] rfl)
/-! ColouredHeap$Heap.markOne()V -/
theorem dX1_markOne_0 : decode cX1_markOne 0 = .ok (.aload_n 0, 1) := by decide +kernel
theorem dX1_markOne_1 : decode cX1_markOne 1 = .ok (.getfield 55, 3) := by decide +kernel
theorem dX1_markOne_4 : decode cX1_markOne 4 = .ok (.iconst 1, 1) := by decide +kernel
theorem dX1_markOne_5 : decode cX1_markOne 5 = .ok (.if_icmp .lt 12, 3) := by decide +kernel
theorem dX1_markOne_8 : decode cX1_markOne 8 = .ok (.aload_n 0, 1) := by decide +kernel
theorem dX1_markOne_9 : decode cX1_markOne 9 = .ok (.getfield 55, 3) := by decide +kernel
theorem dX1_markOne_12 : decode cX1_markOne 12 = .ok (.bipush 64, 2) := by decide +kernel
theorem dX1_markOne_14 : decode cX1_markOne 14 = .ok (.if_icmp .le 4, 3) := by decide +kernel
theorem dX1_markOne_17 : decode cX1_markOne 17 = .ok (.return_, 1) := by decide +kernel
theorem dX1_markOne_18 : decode cX1_markOne 18 = .ok (.aload_n 0, 1) := by decide +kernel
theorem dX1_markOne_19 : decode cX1_markOne 19 = .ok (.dup, 1) := by decide +kernel
theorem dX1_markOne_20 : decode cX1_markOne 20 = .ok (.getfield 55, 3) := by decide +kernel
theorem dX1_markOne_23 : decode cX1_markOne 23 = .ok (.iconst 1, 1) := by decide +kernel
theorem dX1_markOne_24 : decode cX1_markOne 24 = .ok (.isub, 1) := by decide +kernel
theorem dX1_markOne_25 : decode cX1_markOne 25 = .ok (.putfield 55, 3) := by decide +kernel
theorem dX1_markOne_28 : decode cX1_markOne 28 = .ok (.aload_n 0, 1) := by decide +kernel
theorem dX1_markOne_29 : decode cX1_markOne 29 = .ok (.getfield 21, 3) := by decide +kernel
theorem dX1_markOne_32 : decode cX1_markOne 32 = .ok (.aload_n 0, 1) := by decide +kernel
theorem dX1_markOne_33 : decode cX1_markOne 33 = .ok (.getfield 55, 3) := by decide +kernel
theorem dX1_markOne_36 : decode cX1_markOne 36 = .ok (.iaload, 1) := by decide +kernel
theorem dX1_markOne_37 : decode cX1_markOne 37 = .ok (.istore_n 1, 1) := by decide +kernel
theorem dX1_markOne_38 : decode cX1_markOne 38 = .ok (.iload_n 1, 1) := by decide +kernel
theorem dX1_markOne_39 : decode cX1_markOne 39 = .ok (.aload_n 0, 1) := by decide +kernel
theorem dX1_markOne_40 : decode cX1_markOne 40 = .ok (.iload_n 1, 1) := by decide +kernel
theorem dX1_markOne_41 : decode cX1_markOne 41 = .ok (.invokevirtual 94, 3) := by decide +kernel
theorem dX1_markOne_44 : decode cX1_markOne 44 = .ok (.iadd, 1) := by decide +kernel
theorem dX1_markOne_45 : decode cX1_markOne 45 = .ok (.iconst 1, 1) := by decide +kernel
theorem dX1_markOne_46 : decode cX1_markOne 46 = .ok (.isub, 1) := by decide +kernel
theorem dX1_markOne_47 : decode cX1_markOne 47 = .ok (.istore_n 2, 1) := by decide +kernel
theorem dX1_markOne_48 : decode cX1_markOne 48 = .ok (.iload_n 1, 1) := by decide +kernel
theorem dX1_markOne_49 : decode cX1_markOne 49 = .ok (.iconst 1, 1) := by decide +kernel
theorem dX1_markOne_50 : decode cX1_markOne 50 = .ok (.iadd, 1) := by decide +kernel
theorem dX1_markOne_51 : decode cX1_markOne 51 = .ok (.istore_n 3, 1) := by decide +kernel
theorem dX1_markOne_52 : decode cX1_markOne 52 = .ok (.iload_n 3, 1) := by decide +kernel
theorem dX1_markOne_53 : decode cX1_markOne 53 = .ok (.ifCond .lt 35, 3) := by decide +kernel
theorem dX1_markOne_56 : decode cX1_markOne 56 = .ok (.iload_n 3, 1) := by decide +kernel
theorem dX1_markOne_57 : decode cX1_markOne 57 = .ok (.iload_n 2, 1) := by decide +kernel
theorem dX1_markOne_58 : decode cX1_markOne 58 = .ok (.if_icmp .gt 30, 3) := by decide +kernel
theorem dX1_markOne_61 : decode cX1_markOne 61 = .ok (.iload_n 3, 1) := by decide +kernel
theorem dX1_markOne_62 : decode cX1_markOne 62 = .ok (.bipush 64, 2) := by decide +kernel
theorem dX1_markOne_64 : decode cX1_markOne 64 = .ok (.if_icmp .ge 24, 3) := by decide +kernel
theorem dX1_markOne_67 : decode cX1_markOne 67 = .ok (.aload_n 0, 1) := by decide +kernel
theorem dX1_markOne_68 : decode cX1_markOne 68 = .ok (.iload_n 3, 1) := by decide +kernel
theorem dX1_markOne_69 : decode cX1_markOne 69 = .ok (.aload_n 0, 1) := by decide +kernel
theorem dX1_markOne_70 : decode cX1_markOne 70 = .ok (.aload_n 0, 1) := by decide +kernel
theorem dX1_markOne_71 : decode cX1_markOne 71 = .ok (.getfield 9, 3) := by decide +kernel
theorem dX1_markOne_74 : decode cX1_markOne 74 = .ok (.iload_n 3, 1) := by decide +kernel
theorem dX1_markOne_75 : decode cX1_markOne 75 = .ok (.iaload, 1) := by decide +kernel
theorem dX1_markOne_76 : decode cX1_markOne 76 = .ok (.invokevirtual 147, 3) := by decide +kernel
theorem dX1_markOne_79 : decode cX1_markOne 79 = .ok (.invokevirtual 153, 3) := by decide +kernel
theorem dX1_markOne_82 : decode cX1_markOne 82 = .ok (.iinc 3 1, 3) := by decide +kernel
theorem dX1_markOne_85 : decode cX1_markOne 85 = .ok (.goto (-33), 3) := by decide +kernel
theorem dX1_markOne_88 : decode cX1_markOne 88 = .ok (.return_, 1) := by decide +kernel
def g_X1_markOne_52 (o11 : Nat) (x12 : Int32) : Nat → xm → Int32 → Option ((xm))
  | 0, _, _ => none
  | n + 1, M14, x13 => (if x13 < 0 then some (M14) else (if x12 < x13 then some (M14) else (if (64 : Int32) ≤ x13 then some (M14) else if xin x13 64 = true then xb2 (f_X1_mend o11 M14 (M14 (o11 + 1) (Int32.toNatClampNeg x13))) (fun v21 M22 => xb1 (f_X1_writeMended o11 M22 x13 v21) (fun M25 => xlet (x13 + (1 : Int32)) (fun v27 => g_X1_markOne_52 o11 x12 n M25 v27))) else none)))
def f_X1_markOne (u0 : Nat) (M : xm) : Option (xm) := (if (M u0 13) < (1 : Int32) then some M else (if (M u0 13) ≤ (64 : Int32) then xlet (up2 M u0 13 ((M u0 13) - (1 : Int32))) (fun M3 => if xin (M3 u0 13) 64 = true then xlet (M3 (u0 + 4) (Int32.toNatClampNeg (M3 u0 13))) (fun v5 => xb1 (f_X1_sizeAt u0 M3 v5) (fun v7 => xlet ((v5 + v7) - (1 : Int32)) (fun v9 => xlet (v5 + (1 : Int32)) (fun v10 => xb1 (g_X1_markOne_52 u0 v9 xfuel M3 v10) (fun M28 => some M28))))) else none) else some M))
set_option maxHeartbeats 4000000 in
set_option maxRecDepth 20000 in
theorem j_X1_markOne_52 {p : Program} {l : Launch} {e : Env} {s : State} {m : MethodId} {args : Array Value} {below : List Frame} {meth : Method} {c : Code} {Q : State → Prop} {E : xE} {b : Nat} (C : xC p s m args meth c cX1_markOne 4 RX1 none E b) {o11 : Nat} (L_o11 : lat o11 pHeap) (x12 : Int32) {y15 : xm}
    (kx0 : ∀ (H : Heap) (locs : List Loc) (ls : Array Slot), xM E b NX (cX E b y15) s.heap H locs → lv_has ls 4 [] → W p l e (xR 5) s m args below meth c H locs 0 0 Q (F0 m 88 ls [])) :
    ∀ (n : Nat) (M14 : xm) (x13 : Int32) (H : Heap) (locs : List Loc) (ls : Array Slot), g_X1_markOne_52 o11 x12 n M14 x13 = some y15 → xM E b NX (cX E b M14) s.heap H locs → lv_has ls 4 [(0, .ref (b + o11)), (2, .int x12), (3, .int x13)] → W p l e (xR 5) s m args below meth c H locs 0 0 Q (F0 m 52 ls []) := by
  have hx := C.1.1
  have hb := C.1.2.1
  intro n
  induction n with
  | zero =>
    intro M14 x13 H locs ls hf hm hl
    rw [g_X1_markOne_52] at hf
    cases hf
  | succ n ih =>
    intro M14 x13 H locs ls hf hm hl
    rw [g_X1_markOne_52] at hf
    refine lv_iload_n hx hb dX1_markOne_52 rfl (lv_at hl 2 rfl) ?_
    refine lv_if_lt (tgt := 88) hx hb dX1_markOne_53 (by decide) (fun hc16 => ?_) (fun hc16 => ?_)
    · have hf := xif_t hc16 hf
      cases hf
      exact kx0 H locs ls hm (lv_sub hl [] rfl)
    have hf := xif_f hc16 hf
    refine lv_iload_n hx hb dX1_markOne_56 rfl (lv_at hl 2 rfl) ?_
    refine lv_iload_n hx hb dX1_markOne_57 rfl (lv_at hl 1 rfl) ?_
    refine lv_icmp_gt (tgt := 88) hx hb dX1_markOne_58 (by decide) (fun hc17 => ?_) (fun hc17 => ?_)
    · have hf := xif_t hc17 hf
      cases hf
      exact kx0 H locs ls hm (lv_sub hl [] rfl)
    have hf := xif_f hc17 hf
    refine lv_iload_n hx hb dX1_markOne_61 rfl (lv_at hl 2 rfl) ?_
    refine lv_bipush (v := (64 : Int32)) hx hb dX1_markOne_62 (by decide) ?_
    refine lv_icmp_ge (tgt := 88) hx hb dX1_markOne_64 (by decide) (fun hc18 => ?_) (fun hc18 => ?_)
    · have hf := xif_t hc18 hf
      cases hf
      exact kx0 H locs ls hm (lv_sub hl [] rfl)
    have hf := xif_f hc18 hf
    refine lv_aload_n hx hb dX1_markOne_67 rfl (lv_at hl 0 rfl) ?_
    refine lv_iload_n hx hb dX1_markOne_68 rfl (lv_at hl 2 rfl) ?_
    refine lv_aload_n hx hb dX1_markOne_69 rfl (lv_at hl 0 rfl) ?_
    refine lv_aload_n hx hb dX1_markOne_70 rfl (lv_at hl 0 rfl) ?_
    refine x_get C hm inX1 rfl 0 (by decide) tf_RX1_9 (cx_Heap (L_o11 0 _ rfl)) rfl dX1_markOne_71 ?_
    refine lv_iload_n hx hb dX1_markOne_74 rfl (lv_at hl 2 rfl) ?_
    obtain ⟨hi19, hf⟩ := xif_s hf
    refine x_iald (j := (Int32.toNatClampNeg x13)) C hm (cx_I (L_o11 1 _ rfl)) hi19 dX1_markOne_75 rfl ?_
    obtain ⟨v21, M22, hq20, hf⟩ := xb2_e hf
    refine x_callVi (As := [.int (M14 (o11 + 1) (Int32.toNatClampNeg x13))]) (rest := [.int x13, .ref (b + o11)]) C hm (c_X1_mend l E b L_o11 M14 (M14 (o11 + 1) (Int32.toNatClampNeg x13)) hq20) rfl (cx_Heap (L_o11 0 _ rfl)) tc_X1_mend tm_RX1_147 ti_X1_mend ts_X1_mend tn_RX1 td_X1_mend rfl rfl ⟨Nat.le_of_ble_eq_true rfl, Nat.le_of_ble_eq_true rfl⟩ rfl hl.1 rfl (Nat.le_of_ble_eq_true rfl) ⟨Nat.zero_le _, Nat.zero_le _⟩ dX1_markOne_76 (fun H locs hP23 hm => ?_)
    obtain ⟨M25, hq24, hf⟩ := xb1_e hf
    refine x_callVv (As := [.int x13, .int v21]) (rest := []) C hm (c_X1_writeMended l E b L_o11 M22 x13 v21 hq24) rfl (cx_Heap (L_o11 0 _ rfl)) tc_X1_writeMended tm_RX1_153 ti_X1_writeMended ts_X1_writeMended tn_RX1 td_X1_writeMended rfl rfl ⟨Nat.le_of_ble_eq_true rfl, Nat.le_of_ble_eq_true rfl⟩ rfl hl.1 rfl (Nat.le_of_ble_eq_true rfl) ⟨Nat.zero_le _, Nat.zero_le _⟩ dX1_markOne_79 (fun H locs hP26 hm => ?_)
    obtain ⟨v27, ev27, hf⟩ := xlet_x hf
    refine lv_iinc (v := v27) (lv' := [(3, .int v27), (0, .ref (b + o11)), (2, .int x12)]) hx hb dX1_markOne_82 hl (k := 2) rfl (by rw [ev27]; rfl) (by decide) rfl (fun ls hl => ?_)
    refine lv_goto (tgt := 52) hx hb dX1_markOne_85 (by decide) ?_
    exact ih M25 v27 H locs ls hf hm (lv_sub hl [1, 2, 0] rfl)
set_option maxHeartbeats 4000000 in
set_option maxRecDepth 20000 in
theorem c_X1_markOne (l : Launch) (E : xE) (b : Nat) {u0 : Nat} (L_u0 : lat u0 pHeap) (M : xm) {M' : xm} (hf : f_X1_markOne u0 M = some M') :
    xMet l E b NX yX1_markOne cX1_markOne 4 none (xR 5) [.ref (b + u0)] (cX E b M) none True (cX E b M') := by
  refine xMet.ofW (own := RX1) (by decide) rfl (Nat.le_of_ble_eq_true rfl) ?_
  intro p e s m below meth c H locs ls C hm hl
  have hx := C.1.1
  have hb := C.1.2.1
  have hl : lv_has ls 4 [(0, .ref (b + u0))] := hl
  unfold f_X1_markOne at hf
  refine lv_aload_n hx hb dX1_markOne_0 rfl (lv_at hl 0 rfl) ?_
  refine x_get C hm inX1 rfl 13 (by decide) tf_RX1_55 (cx_Heap (L_u0 0 _ rfl)) rfl dX1_markOne_1 ?_
  refine lv_iconst (v := (1 : Int32)) hx hb dX1_markOne_4 (by decide) ?_
  refine lv_icmp_lt (tgt := 17) hx hb dX1_markOne_5 (by decide) (fun hc1 => ?_) (fun hc1 => ?_)
  · have hf := xif_t hc1 hf
    cases hf
    exact x_vret C hm trivial dX1_markOne_17
  have hf := xif_f hc1 hf
  refine lv_aload_n hx hb dX1_markOne_8 rfl (lv_at hl 0 rfl) ?_
  refine x_get C hm inX1 rfl 13 (by decide) tf_RX1_55 (cx_Heap (L_u0 0 _ rfl)) rfl dX1_markOne_9 ?_
  refine lv_bipush (v := (64 : Int32)) hx hb dX1_markOne_12 (by decide) ?_
  refine lv_icmp_le (tgt := 18) hx hb dX1_markOne_14 (by decide) (fun hc2 => ?_) (fun hc2 => ?_)
  rotate_left
  · have hf := xif_f hc2 hf
    cases hf
    exact x_vret C hm trivial dX1_markOne_17
  have hf := xif_t hc2 hf
  refine lv_aload_n hx hb dX1_markOne_18 rfl (lv_at hl 0 rfl) ?_
  refine lv_dup hx hb dX1_markOne_19 rfl ?_
  refine x_get C hm inX1 rfl 13 (by decide) tf_RX1_55 (cx_Heap (L_u0 0 _ rfl)) rfl dX1_markOne_20 ?_
  refine lv_iconst (v := (1 : Int32)) hx hb dX1_markOne_23 (by decide) ?_
  refine lv_isub hx hb dX1_markOne_24 ?_
  obtain ⟨M3, eM3, hf⟩ := xlet_x hf
  refine x_put (cf' := cX E b M3) C hm inX1 tyX1 tyX1_ok nmX1 rfl 13 (by decide) tf_RX1_55 rfl rfl rfl (cx_Heap (L_u0 0 _ rfl)) (Nat.le_of_ble_eq_true rfl) (by rw [eM3]; exact cu_Heap_13 (L_u0 0 _ rfl)) (by rw [eM3]; exact cX_o) dX1_markOne_25 (fun H locs hm => ?_)
  refine lv_aload_n hx hb dX1_markOne_28 rfl (lv_at hl 0 rfl) ?_
  refine x_get C hm inX1 rfl 3 (by decide) tf_RX1_21 (cx_Heap (L_u0 0 _ rfl)) rfl dX1_markOne_29 ?_
  refine lv_aload_n hx hb dX1_markOne_32 rfl (lv_at hl 0 rfl) ?_
  refine x_get C hm inX1 rfl 13 (by decide) tf_RX1_55 (cx_Heap (L_u0 0 _ rfl)) rfl dX1_markOne_33 ?_
  obtain ⟨hi4, hf⟩ := xif_s hf
  refine x_iald (j := (Int32.toNatClampNeg (M3 u0 13))) C hm (cx_I (L_u0 4 _ rfl)) hi4 dX1_markOne_36 rfl ?_
  refine lv_topi (fun v5 ev5 => ?_)
  have hf := xlet_e ev5 hf
  refine lv_istore_n (lv' := [(1, .int v5), (0, .ref (b + u0))]) hx hb dX1_markOne_37 rfl hl (by decide) rfl (fun ls hl => ?_)
  refine lv_iload_n hx hb dX1_markOne_38 rfl (lv_at hl 0 rfl) ?_
  refine lv_aload_n hx hb dX1_markOne_39 rfl (lv_at hl 1 rfl) ?_
  refine lv_iload_n hx hb dX1_markOne_40 rfl (lv_at hl 0 rfl) ?_
  obtain ⟨v7, hq6, hf⟩ := xb1_e hf
  refine x_callVi (As := [.int v5]) (rest := [.int v5]) C hm (c_X1_sizeAt l E b L_u0 M3 v5 hq6) rfl (cx_Heap (L_u0 0 _ rfl)) tc_X1_sizeAt tm_RX1_94 ti_X1_sizeAt ts_X1_sizeAt tn_RX1 td_X1_sizeAt rfl rfl ⟨Nat.le_of_ble_eq_true rfl, Nat.le_of_ble_eq_true rfl⟩ rfl hl.1 rfl (Nat.le_of_ble_eq_true rfl) ⟨Nat.zero_le _, Nat.zero_le _⟩ dX1_markOne_41 (fun H locs hP8 hm => ?_)
  refine lv_iadd hx hb dX1_markOne_44 ?_
  refine lv_iconst (v := (1 : Int32)) hx hb dX1_markOne_45 (by decide) ?_
  refine lv_isub hx hb dX1_markOne_46 ?_
  refine lv_topi (fun v9 ev9 => ?_)
  have hf := xlet_e ev9 hf
  refine lv_istore_n (lv' := [(2, .int v9), (1, .int v5), (0, .ref (b + u0))]) hx hb dX1_markOne_47 rfl hl (by decide) rfl (fun ls hl => ?_)
  refine lv_iload_n hx hb dX1_markOne_48 rfl (lv_at hl 1 rfl) ?_
  refine lv_iconst (v := (1 : Int32)) hx hb dX1_markOne_49 (by decide) ?_
  refine lv_iadd hx hb dX1_markOne_50 ?_
  refine lv_topi (fun v10 ev10 => ?_)
  have hf := xlet_e ev10 hf
  refine lv_istore_n (lv' := [(3, .int v10), (2, .int v9), (1, .int v5), (0, .ref (b + u0))]) hx hb dX1_markOne_51 rfl hl (by decide) rfl (fun ls hl => ?_)
  obtain ⟨M28, hq, hf⟩ := xb1_e hf
  refine j_X1_markOne_52 C L_u0 v9 (fun H locs ls hm hl => ?_) xfuel M3 v10 H locs ls hq hm (lv_sub hl [3, 1, 0] rfl)
  cases hf
  exact x_vret C hm trivial dX1_markOne_88
/-! ColouredHeap$Heap.mendRoots()V -/
theorem dX1_mendRoots_0 : decode cX1_mendRoots 0 = .ok (.iconst 0, 1) := by decide +kernel
theorem dX1_mendRoots_1 : decode cX1_mendRoots 1 = .ok (.istore_n 1, 1) := by decide +kernel
theorem dX1_mendRoots_2 : decode cX1_mendRoots 2 = .ok (.iload_n 1, 1) := by decide +kernel
theorem dX1_mendRoots_3 : decode cX1_mendRoots 3 = .ok (.bipush 6, 2) := by decide +kernel
theorem dX1_mendRoots_5 : decode cX1_mendRoots 5 = .ok (.if_icmp .ge 33, 3) := by decide +kernel
theorem dX1_mendRoots_8 : decode cX1_mendRoots 8 = .ok (.aload_n 0, 1) := by decide +kernel
theorem dX1_mendRoots_9 : decode cX1_mendRoots 9 = .ok (.aload_n 0, 1) := by decide +kernel
theorem dX1_mendRoots_10 : decode cX1_mendRoots 10 = .ok (.getfield 33, 3) := by decide +kernel
theorem dX1_mendRoots_13 : decode cX1_mendRoots 13 = .ok (.iload_n 1, 1) := by decide +kernel
theorem dX1_mendRoots_14 : decode cX1_mendRoots 14 = .ok (.iaload, 1) := by decide +kernel
theorem dX1_mendRoots_15 : decode cX1_mendRoots 15 = .ok (.invokevirtual 147, 3) := by decide +kernel
theorem dX1_mendRoots_18 : decode cX1_mendRoots 18 = .ok (.istore_n 2, 1) := by decide +kernel
theorem dX1_mendRoots_19 : decode cX1_mendRoots 19 = .ok (.iload_n 2, 1) := by decide +kernel
theorem dX1_mendRoots_20 : decode cX1_mendRoots 20 = .ok (.bipush (-2), 2) := by decide +kernel
theorem dX1_mendRoots_22 : decode cX1_mendRoots 22 = .ok (.if_icmp .eq 10, 3) := by decide +kernel
theorem dX1_mendRoots_25 : decode cX1_mendRoots 25 = .ok (.aload_n 0, 1) := by decide +kernel
theorem dX1_mendRoots_26 : decode cX1_mendRoots 26 = .ok (.getfield 33, 3) := by decide +kernel
theorem dX1_mendRoots_29 : decode cX1_mendRoots 29 = .ok (.iload_n 1, 1) := by decide +kernel
theorem dX1_mendRoots_30 : decode cX1_mendRoots 30 = .ok (.iload_n 2, 1) := by decide +kernel
theorem dX1_mendRoots_31 : decode cX1_mendRoots 31 = .ok (.iastore, 1) := by decide +kernel
theorem dX1_mendRoots_32 : decode cX1_mendRoots 32 = .ok (.iinc 1 1, 3) := by decide +kernel
theorem dX1_mendRoots_35 : decode cX1_mendRoots 35 = .ok (.goto (-33), 3) := by decide +kernel
theorem dX1_mendRoots_38 : decode cX1_mendRoots 38 = .ok (.return_, 1) := by decide +kernel
def g_X1_mendRoots_2 (o1 : Nat) : Nat → xm → Int32 → Option ((xm))
  | 0, _, _ => none
  | n + 1, M3, x2 => (if (6 : Int32) ≤ x2 then some (M3) else if xin x2 6 = true then xb2 (f_X1_mend o1 M3 (M3 (o1 + 8) (Int32.toNatClampNeg x2))) (fun v8 M9 => (if v8 = (-2 : Int32) then xlet (x2 + (1 : Int32)) (fun v12 => g_X1_mendRoots_2 o1 n M9 v12) else xlet (up2 M9 (o1 + 8) (Int32.toNatClampNeg x2) v8) (fun M13 => xlet (x2 + (1 : Int32)) (fun v14 => g_X1_mendRoots_2 o1 n M13 v14)))) else none)
def f_X1_mendRoots (u0 : Nat) (M : xm) : Option (xm) := xb1 (g_X1_mendRoots_2 u0 xfuel M (0 : Int32)) (fun M15 => some M15)
set_option maxHeartbeats 4000000 in
set_option maxRecDepth 20000 in
theorem j_X1_mendRoots_2 {p : Program} {l : Launch} {e : Env} {s : State} {m : MethodId} {args : Array Value} {below : List Frame} {meth : Method} {c : Code} {Q : State → Prop} {E : xE} {b : Nat} (C : xC p s m args meth c cX1_mendRoots 3 RX1 none E b) {o1 : Nat} (L_o1 : lat o1 pHeap) {y4 : xm}
    (kx0 : ∀ (H : Heap) (locs : List Loc) (ls : Array Slot), xM E b NX (cX E b y4) s.heap H locs → lv_has ls 3 [] → W p l e (xR 5) s m args below meth c H locs 0 0 Q (F0 m 38 ls [])) :
    ∀ (n : Nat) (M3 : xm) (x2 : Int32) (H : Heap) (locs : List Loc) (ls : Array Slot), g_X1_mendRoots_2 o1 n M3 x2 = some y4 → xM E b NX (cX E b M3) s.heap H locs → lv_has ls 3 [(0, .ref (b + o1)), (1, .int x2)] → W p l e (xR 5) s m args below meth c H locs 0 0 Q (F0 m 2 ls []) := by
  have hx := C.1.1
  have hb := C.1.2.1
  intro n
  induction n with
  | zero =>
    intro M3 x2 H locs ls hf hm hl
    rw [g_X1_mendRoots_2] at hf
    cases hf
  | succ n ih =>
    intro M3 x2 H locs ls hf hm hl
    rw [g_X1_mendRoots_2] at hf
    refine lv_iload_n hx hb dX1_mendRoots_2 rfl (lv_at hl 1 rfl) ?_
    refine lv_bipush (v := (6 : Int32)) hx hb dX1_mendRoots_3 (by decide) ?_
    refine lv_icmp_ge (tgt := 38) hx hb dX1_mendRoots_5 (by decide) (fun hc5 => ?_) (fun hc5 => ?_)
    · have hf := xif_t hc5 hf
      cases hf
      exact kx0 H locs ls hm (lv_sub hl [] rfl)
    have hf := xif_f hc5 hf
    refine lv_aload_n hx hb dX1_mendRoots_8 rfl (lv_at hl 0 rfl) ?_
    refine lv_aload_n hx hb dX1_mendRoots_9 rfl (lv_at hl 0 rfl) ?_
    refine x_get C hm inX1 rfl 7 (by decide) tf_RX1_33 (cx_Heap (L_o1 0 _ rfl)) rfl dX1_mendRoots_10 ?_
    refine lv_iload_n hx hb dX1_mendRoots_13 rfl (lv_at hl 1 rfl) ?_
    obtain ⟨hi6, hf⟩ := xif_s hf
    refine x_iald (j := (Int32.toNatClampNeg x2)) C hm (cx_I (L_o1 8 _ rfl)) hi6 dX1_mendRoots_14 rfl ?_
    obtain ⟨v8, M9, hq7, hf⟩ := xb2_e hf
    refine x_callVi (As := [.int (M3 (o1 + 8) (Int32.toNatClampNeg x2))]) (rest := []) C hm (c_X1_mend l E b L_o1 M3 (M3 (o1 + 8) (Int32.toNatClampNeg x2)) hq7) rfl (cx_Heap (L_o1 0 _ rfl)) tc_X1_mend tm_RX1_147 ti_X1_mend ts_X1_mend tn_RX1 td_X1_mend rfl rfl ⟨Nat.le_of_ble_eq_true rfl, Nat.le_of_ble_eq_true rfl⟩ rfl hl.1 rfl (Nat.le_of_ble_eq_true rfl) ⟨Nat.zero_le _, Nat.zero_le _⟩ dX1_mendRoots_15 (fun H locs hP10 hm => ?_)
    refine lv_istore_n (lv' := [(2, .int v8), (0, .ref (b + o1)), (1, .int x2)]) hx hb dX1_mendRoots_18 rfl hl (by decide) rfl (fun ls hl => ?_)
    refine lv_iload_n hx hb dX1_mendRoots_19 rfl (lv_at hl 0 rfl) ?_
    refine lv_bipush (v := (-2 : Int32)) hx hb dX1_mendRoots_20 (by decide) ?_
    refine lv_icmp_eq (tgt := 32) hx hb dX1_mendRoots_22 (by decide) (fun hc11 => ?_) (fun hc11 => ?_)
    · have hf := xif_t hc11 hf
      obtain ⟨v12, ev12, hf⟩ := xlet_x hf
      refine lv_iinc (v := v12) (lv' := [(1, .int v12), (2, .int v8), (0, .ref (b + o1))]) hx hb dX1_mendRoots_32 hl (k := 2) rfl (by rw [ev12]; rfl) (by decide) rfl (fun ls hl => ?_)
      refine lv_goto (tgt := 2) hx hb dX1_mendRoots_35 (by decide) ?_
      exact ih M9 v12 H locs ls hf hm (lv_sub hl [2, 0] rfl)
    have hf := xif_f hc11 hf
    refine lv_aload_n hx hb dX1_mendRoots_25 rfl (lv_at hl 1 rfl) ?_
    refine x_get C hm inX1 rfl 7 (by decide) tf_RX1_33 (cx_Heap (L_o1 0 _ rfl)) rfl dX1_mendRoots_26 ?_
    refine lv_iload_n hx hb dX1_mendRoots_29 rfl (lv_at hl 2 rfl) ?_
    refine lv_iload_n hx hb dX1_mendRoots_30 rfl (lv_at hl 0 rfl) ?_
    obtain ⟨M13, eM13, hf⟩ := xlet_x hf
    refine x_iast (j := (Int32.toNatClampNeg x2)) (cf' := cX E b M13) C hm (cx_I (L_o1 8 _ rfl)) hi6 dX1_mendRoots_31 rfl (by rw [eM13]; exact cu_I (L_o1 8 _ rfl)) (by rw [eM13]; exact cX_o) (fun H locs hm => ?_)
    obtain ⟨v14, ev14, hf⟩ := xlet_x hf
    refine lv_iinc (v := v14) (lv' := [(1, .int v14), (2, .int v8), (0, .ref (b + o1))]) hx hb dX1_mendRoots_32 hl (k := 2) rfl (by rw [ev14]; rfl) (by decide) rfl (fun ls hl => ?_)
    refine lv_goto (tgt := 2) hx hb dX1_mendRoots_35 (by decide) ?_
    exact ih M13 v14 H locs ls hf hm (lv_sub hl [2, 0] rfl)
set_option maxHeartbeats 4000000 in
set_option maxRecDepth 20000 in
theorem c_X1_mendRoots (l : Launch) (E : xE) (b : Nat) {u0 : Nat} (L_u0 : lat u0 pHeap) (M : xm) {M' : xm} (hf : f_X1_mendRoots u0 M = some M') :
    xMet l E b NX yX1_mendRoots cX1_mendRoots 3 none (xR 5) [.ref (b + u0)] (cX E b M) none True (cX E b M') := by
  refine xMet.ofW (own := RX1) (by decide) rfl (Nat.le_of_ble_eq_true rfl) ?_
  intro p e s m below meth c H locs ls C hm hl
  have hx := C.1.1
  have hb := C.1.2.1
  have hl : lv_has ls 3 [(0, .ref (b + u0))] := hl
  unfold f_X1_mendRoots at hf
  refine lv_iconst (v := (0 : Int32)) hx hb dX1_mendRoots_0 (by decide) ?_
  refine lv_istore_n (lv' := [(1, .int (0 : Int32)), (0, .ref (b + u0))]) hx hb dX1_mendRoots_1 rfl hl (by decide) rfl (fun ls hl => ?_)
  obtain ⟨M15, hq, hf⟩ := xb1_e hf
  refine j_X1_mendRoots_2 C L_u0 (fun H locs ls hm hl => ?_) xfuel M (0 : Int32) H locs ls hq hm (lv_sub hl [1, 0] rfl)
  cases hf
  exact x_vret C hm trivial dX1_mendRoots_38
/-! ColouredHeap$Heap.moveOne()V -/
theorem dX1_moveOne_0 : decode cX1_moveOne 0 = .ok (.iconst 0, 1) := by decide +kernel
theorem dX1_moveOne_1 : decode cX1_moveOne 1 = .ok (.istore_n 1, 1) := by decide +kernel
theorem dX1_moveOne_2 : decode cX1_moveOne 2 = .ok (.iload_n 1, 1) := by decide +kernel
theorem dX1_moveOne_3 : decode cX1_moveOne 3 = .ok (.bipush 64, 2) := by decide +kernel
theorem dX1_moveOne_5 : decode cX1_moveOne 5 = .ok (.if_icmp .ge 34, 3) := by decide +kernel
theorem dX1_moveOne_8 : decode cX1_moveOne 8 = .ok (.aload_n 0, 1) := by decide +kernel
theorem dX1_moveOne_9 : decode cX1_moveOne 9 = .ok (.getfield 18, 3) := by decide +kernel
theorem dX1_moveOne_12 : decode cX1_moveOne 12 = .ok (.iload_n 1, 1) := by decide +kernel
theorem dX1_moveOne_13 : decode cX1_moveOne 13 = .ok (.iaload, 1) := by decide +kernel
theorem dX1_moveOne_14 : decode cX1_moveOne 14 = .ok (.iconst 1, 1) := by decide +kernel
theorem dX1_moveOne_15 : decode cX1_moveOne 15 = .ok (.if_icmp .ne 18, 3) := by decide +kernel
theorem dX1_moveOne_18 : decode cX1_moveOne 18 = .ok (.aload_n 0, 1) := by decide +kernel
theorem dX1_moveOne_19 : decode cX1_moveOne 19 = .ok (.iload_n 1, 1) := by decide +kernel
theorem dX1_moveOne_20 : decode cX1_moveOne 20 = .ok (.invokevirtual 141, 3) := by decide +kernel
theorem dX1_moveOne_23 : decode cX1_moveOne 23 = .ok (.ifCond .eq 10, 3) := by decide +kernel
theorem dX1_moveOne_26 : decode cX1_moveOne 26 = .ok (.aload_n 0, 1) := by decide +kernel
theorem dX1_moveOne_27 : decode cX1_moveOne 27 = .ok (.iload_n 1, 1) := by decide +kernel
theorem dX1_moveOne_28 : decode cX1_moveOne 28 = .ok (.invokevirtual 144, 3) := by decide +kernel
theorem dX1_moveOne_31 : decode cX1_moveOne 31 = .ok (.pop, 1) := by decide +kernel
theorem dX1_moveOne_32 : decode cX1_moveOne 32 = .ok (.return_, 1) := by decide +kernel
theorem dX1_moveOne_33 : decode cX1_moveOne 33 = .ok (.iinc 1 1, 3) := by decide +kernel
theorem dX1_moveOne_36 : decode cX1_moveOne 36 = .ok (.goto (-34), 3) := by decide +kernel
theorem dX1_moveOne_39 : decode cX1_moveOne 39 = .ok (.aload_n 0, 1) := by decide +kernel
theorem dX1_moveOne_40 : decode cX1_moveOne 40 = .ok (.invokevirtual 104, 3) := by decide +kernel
theorem dX1_moveOne_43 : decode cX1_moveOne 43 = .ok (.ifCond .ne 7, 3) := by decide +kernel
theorem dX1_moveOne_46 : decode cX1_moveOne 46 = .ok (.aload_n 0, 1) := by decide +kernel
theorem dX1_moveOne_47 : decode cX1_moveOne 47 = .ok (.invokevirtual 189, 3) := by decide +kernel
theorem dX1_moveOne_50 : decode cX1_moveOne 50 = .ok (.return_, 1) := by decide +kernel
def g_X1_moveOne_2 (o1 : Nat) (M : xm) : Nat → Int32 → Option ((Int32) ⊕ (Unit))
  | 0, _ => none
  | n + 1, x2 => (if (64 : Int32) ≤ x2 then some (Sum.inr ()) else if xin x2 64 = true then (if (M (o1 + 3) (Int32.toNatClampNeg x2)) = (1 : Int32) then xb1 (f_X1_mustMove o1 M x2) (fun v8 => (if v8 = 0 then xlet (x2 + (1 : Int32)) (fun v11 => g_X1_moveOne_2 o1 M n v11) else some (Sum.inl x2))) else xlet (x2 + (1 : Int32)) (fun v6 => g_X1_moveOne_2 o1 M n v6)) else none)
def f_X1_moveOne (u0 : Nat) (M : xm) : Option (xm) := xs2 (g_X1_moveOne_2 u0 M xfuel (0 : Int32)) (fun q12 => xb2 (f_X1_moveObject u0 M q12) (fun v14 M15 => some M15)) (fun q12 => xb1 (f_X1_threadsBegun u0 M) (fun v18 => (if v18 = 0 then xb1 (f_X1_endMoving u0 M) (fun M22 => some M22) else some M)))
set_option maxHeartbeats 4000000 in
set_option maxRecDepth 20000 in
theorem j_X1_moveOne_2 {p : Program} {l : Launch} {e : Env} {s : State} {m : MethodId} {args : Array Value} {below : List Frame} {meth : Method} {c : Code} {Q : State → Prop} {E : xE} {b : Nat} (C : xC p s m args meth c cX1_moveOne 2 RX1 none E b) {o1 : Nat} (L_o1 : lat o1 pHeap) (M : xm) {r : (Int32) ⊕ (Unit)}
    (kx0 : ∀ q : Int32, r = Sum.inl q → ∀ (H : Heap) (locs : List Loc) (ls : Array Slot), xM E b NX (cX E b M) s.heap H locs → lv_has ls 2 [(0, .ref (b + o1)), (1, .int q)] → W p l e (xR 5) s m args below meth c H locs 0 0 Q (F0 m 26 ls []))
    (kx1 : ∀ q : Unit, r = Sum.inr q → ∀ (H : Heap) (locs : List Loc) (ls : Array Slot), xM E b NX (cX E b M) s.heap H locs → lv_has ls 2 [(0, .ref (b + o1))] → W p l e (xR 5) s m args below meth c H locs 0 0 Q (F0 m 39 ls [])) :
    ∀ (n : Nat) (x2 : Int32) (H : Heap) (locs : List Loc) (ls : Array Slot), g_X1_moveOne_2 o1 M n x2 = some r → xM E b NX (cX E b M) s.heap H locs → lv_has ls 2 [(0, .ref (b + o1)), (1, .int x2)] → W p l e (xR 5) s m args below meth c H locs 0 0 Q (F0 m 2 ls []) := by
  have hx := C.1.1
  have hb := C.1.2.1
  intro n
  induction n with
  | zero =>
    intro x2 H locs ls hf hm hl
    rw [g_X1_moveOne_2] at hf
    cases hf
  | succ n ih =>
    intro x2 H locs ls hf hm hl
    rw [g_X1_moveOne_2] at hf
    refine lv_iload_n hx hb dX1_moveOne_2 rfl (lv_at hl 1 rfl) ?_
    refine lv_bipush (v := (64 : Int32)) hx hb dX1_moveOne_3 (by decide) ?_
    refine lv_icmp_ge (tgt := 39) hx hb dX1_moveOne_5 (by decide) (fun hc3 => ?_) (fun hc3 => ?_)
    · have hf := xif_t hc3 hf
      cases hf
      exact kx1 () rfl H locs ls hm (lv_sub hl [0] rfl)
    have hf := xif_f hc3 hf
    refine lv_aload_n hx hb dX1_moveOne_8 rfl (lv_at hl 0 rfl) ?_
    refine x_get C hm inX1 rfl 2 (by decide) tf_RX1_18 (cx_Heap (L_o1 0 _ rfl)) rfl dX1_moveOne_9 ?_
    refine lv_iload_n hx hb dX1_moveOne_12 rfl (lv_at hl 1 rfl) ?_
    obtain ⟨hi4, hf⟩ := xif_s hf
    refine x_iald (j := (Int32.toNatClampNeg x2)) C hm (cx_I (L_o1 3 _ rfl)) hi4 dX1_moveOne_13 rfl ?_
    refine lv_iconst (v := (1 : Int32)) hx hb dX1_moveOne_14 (by decide) ?_
    refine lv_icmp_ne (tgt := 33) hx hb dX1_moveOne_15 (by decide) (fun hc5 => ?_) (fun hc5 => ?_)
    · have hf := xif_f hc5 hf
      obtain ⟨v6, ev6, hf⟩ := xlet_x hf
      refine lv_iinc (v := v6) (lv' := [(1, .int v6), (0, .ref (b + o1))]) hx hb dX1_moveOne_33 hl (k := 1) rfl (by rw [ev6]; rfl) (by decide) rfl (fun ls hl => ?_)
      refine lv_goto (tgt := 2) hx hb dX1_moveOne_36 (by decide) ?_
      exact ih v6 H locs ls hf hm (lv_sub hl [1, 0] rfl)
    have hf := xif_t hc5 hf
    refine lv_aload_n hx hb dX1_moveOne_18 rfl (lv_at hl 0 rfl) ?_
    refine lv_iload_n hx hb dX1_moveOne_19 rfl (lv_at hl 1 rfl) ?_
    obtain ⟨v8, hq7, hf⟩ := xb1_e hf
    refine x_callVi (As := [.int x2]) (rest := []) C hm (c_X1_mustMove l E b L_o1 M x2 hq7) rfl (cx_Heap (L_o1 0 _ rfl)) tc_X1_mustMove tm_RX1_141 ti_X1_mustMove ts_X1_mustMove tn_RX1 td_X1_mustMove rfl rfl ⟨Nat.le_of_ble_eq_true rfl, Nat.le_of_ble_eq_true rfl⟩ rfl hl.1 rfl (Nat.le_of_ble_eq_true rfl) ⟨Nat.zero_le _, Nat.zero_le _⟩ dX1_moveOne_20 (fun H locs hP9 hm => ?_)
    refine lv_if_eq (tgt := 33) hx hb dX1_moveOne_23 (by decide) (fun hc10 => ?_) (fun hc10 => ?_)
    rotate_left
    · have hf := xif_f hc10 hf
      cases hf
      exact kx0 x2 rfl H locs ls hm (lv_sub hl [0, 1] rfl)
    have hf := xif_t hc10 hf
    obtain ⟨v11, ev11, hf⟩ := xlet_x hf
    refine lv_iinc (v := v11) (lv' := [(1, .int v11), (0, .ref (b + o1))]) hx hb dX1_moveOne_33 hl (k := 1) rfl (by rw [ev11]; rfl) (by decide) rfl (fun ls hl => ?_)
    refine lv_goto (tgt := 2) hx hb dX1_moveOne_36 (by decide) ?_
    exact ih v11 H locs ls hf hm (lv_sub hl [1, 0] rfl)
set_option maxHeartbeats 4000000 in
set_option maxRecDepth 20000 in
theorem c_X1_moveOne (l : Launch) (E : xE) (b : Nat) {u0 : Nat} (L_u0 : lat u0 pHeap) (M : xm) {M' : xm} (hf : f_X1_moveOne u0 M = some M') :
    xMet l E b NX yX1_moveOne cX1_moveOne 2 none (xR 5) [.ref (b + u0)] (cX E b M) none True (cX E b M') := by
  refine xMet.ofW (own := RX1) (by decide) rfl (Nat.le_of_ble_eq_true rfl) ?_
  intro p e s m below meth c H locs ls C hm hl
  have hx := C.1.1
  have hb := C.1.2.1
  have hl : lv_has ls 2 [(0, .ref (b + u0))] := hl
  unfold f_X1_moveOne at hf
  refine lv_iconst (v := (0 : Int32)) hx hb dX1_moveOne_0 (by decide) ?_
  refine lv_istore_n (lv' := [(1, .int (0 : Int32)), (0, .ref (b + u0))]) hx hb dX1_moveOne_1 rfl hl (by decide) rfl (fun ls hl => ?_)
  rcases xs2_e hf with ⟨q12, hq, hf⟩ | ⟨q12, hq, hf⟩
  · refine j_X1_moveOne_2 C L_u0 M (r := Sum.inl q12) (fun q2 hr H locs ls hm hl => ?_) (fun q2 hr => by cases hr) xfuel (0 : Int32) H locs ls hq hm (lv_sub hl [1, 0] rfl)
    cases hr
    refine lv_aload_n hx hb dX1_moveOne_26 rfl (lv_at hl 0 rfl) ?_
    refine lv_iload_n hx hb dX1_moveOne_27 rfl (lv_at hl 1 rfl) ?_
    obtain ⟨v14, M15, hq13, hf⟩ := xb2_e hf
    refine x_callVi (As := [.int q12]) (rest := []) C hm (c_X1_moveObject l E b L_u0 M q12 hq13) rfl (cx_Heap (L_u0 0 _ rfl)) tc_X1_moveObject tm_RX1_144 ti_X1_moveObject ts_X1_moveObject tn_RX1 td_X1_moveObject rfl rfl ⟨Nat.le_of_ble_eq_true rfl, Nat.le_of_ble_eq_true rfl⟩ rfl hl.1 rfl (Nat.le_of_ble_eq_true rfl) ⟨Nat.zero_le _, Nat.zero_le _⟩ dX1_moveOne_28 (fun H locs hP16 hm => ?_)
    refine lv_pop hx hb dX1_moveOne_31 rfl ?_
    cases hf
    exact x_vret C hm trivial dX1_moveOne_32
  · refine j_X1_moveOne_2 C L_u0 M (r := Sum.inr q12) (fun q2 hr => by cases hr) (fun q2 hr H locs ls hm hl => ?_) xfuel (0 : Int32) H locs ls hq hm (lv_sub hl [1, 0] rfl)
    cases hr
    refine lv_aload_n hx hb dX1_moveOne_39 rfl (lv_at hl 0 rfl) ?_
    obtain ⟨v18, hq17, hf⟩ := xb1_e hf
    refine x_callVi (As := []) (rest := []) C hm (c_X1_threadsBegun l E b L_u0 M hq17) rfl (cx_Heap (L_u0 0 _ rfl)) tc_X1_threadsBegun tm_RX1_104 ti_X1_threadsBegun ts_X1_threadsBegun tn_RX1 td_X1_threadsBegun rfl rfl ⟨Nat.le_of_ble_eq_true rfl, Nat.le_of_ble_eq_true rfl⟩ rfl hl.1 rfl (Nat.le_of_ble_eq_true rfl) ⟨Nat.zero_le _, Nat.zero_le _⟩ dX1_moveOne_40 (fun H locs hP19 hm => ?_)
    refine lv_if_ne (tgt := 50) hx hb dX1_moveOne_43 (by decide) (fun hc20 => ?_) (fun hc20 => ?_)
    · have hf := xif_f hc20 hf
      cases hf
      exact x_vret C hm trivial dX1_moveOne_50
    have hf := xif_t hc20 hf
    refine lv_aload_n hx hb dX1_moveOne_46 rfl (lv_at hl 0 rfl) ?_
    obtain ⟨M22, hq21, hf⟩ := xb1_e hf
    refine x_callVv (As := []) (rest := []) C hm (c_X1_endMoving l E b L_u0 M hq21) rfl (cx_Heap (L_u0 0 _ rfl)) tc_X1_endMoving tm_RX1_189 ti_X1_endMoving ts_X1_endMoving tn_RX1 td_X1_endMoving rfl rfl ⟨Nat.le_of_ble_eq_true rfl, Nat.le_of_ble_eq_true rfl⟩ rfl hl.1 rfl (Nat.le_of_ble_eq_true rfl) ⟨Nat.zero_le _, Nat.zero_le _⟩ dX1_moveOne_47 (fun H locs hP23 hm => ?_)
    cases hf
    exact x_vret C hm trivial dX1_moveOne_50
/-! ColouredHeap$Law.changed(ILColouredHeap$Heap;I)I -/
theorem dX3_changed_0 : decode cX3_changed 0 = .ok (.iload_n 2, 1) := by decide +kernel
theorem dX3_changed_1 : decode cX3_changed 1 = .ok (.ifCond .lt 13, 3) := by decide +kernel
theorem dX3_changed_4 : decode cX3_changed 4 = .ok (.iload_n 2, 1) := by decide +kernel
theorem dX3_changed_5 : decode cX3_changed 5 = .ok (.bipush 8, 2) := by decide +kernel
theorem dX3_changed_7 : decode cX3_changed 7 = .ok (.if_icmp .ge 7, 3) := by decide +kernel
theorem dX3_changed_10 : decode cX3_changed 10 = .ok (.iconst 1, 1) := by decide +kernel
theorem dX3_changed_11 : decode cX3_changed 11 = .ok (.goto 4, 3) := by decide +kernel
theorem dX3_changed_14 : decode cX3_changed 14 = .ok (.iconst 0, 1) := by decide +kernel
theorem dX3_changed_15 : decode cX3_changed 15 = .ok (.istore_n 3, 1) := by decide +kernel
theorem dX3_changed_16 : decode cX3_changed 16 = .ok (.iload_n 0, 1) := by decide +kernel
theorem dX3_changed_17 : decode cX3_changed 17 = .ok (.lookupswitch 69 #[(10, 35), (11, 50), (18, 65)], 35) := by decide +kernel
theorem dX3_changed_52 : decode cX3_changed 52 = .ok (.iload_n 3, 1) := by decide +kernel
theorem dX3_changed_53 : decode cX3_changed 53 = .ok (.ifCond .eq 12, 3) := by decide +kernel
theorem dX3_changed_56 : decode cX3_changed 56 = .ok (.aload_n 1, 1) := by decide +kernel
theorem dX3_changed_57 : decode cX3_changed 57 = .ok (.getfield 30, 3) := by decide +kernel
theorem dX3_changed_60 : decode cX3_changed 60 = .ok (.iload_n 2, 1) := by decide +kernel
theorem dX3_changed_61 : decode cX3_changed 61 = .ok (.iaload, 1) := by decide +kernel
theorem dX3_changed_62 : decode cX3_changed 62 = .ok (.goto 4, 3) := by decide +kernel
theorem dX3_changed_65 : decode cX3_changed 65 = .ok (.iconst 0, 1) := by decide +kernel
theorem dX3_changed_66 : decode cX3_changed 66 = .ok (.ireturn, 1) := by decide +kernel
theorem dX3_changed_67 : decode cX3_changed 67 = .ok (.iload_n 3, 1) := by decide +kernel
theorem dX3_changed_68 : decode cX3_changed 68 = .ok (.ifCond .eq 12, 3) := by decide +kernel
theorem dX3_changed_71 : decode cX3_changed 71 = .ok (.aload_n 1, 1) := by decide +kernel
theorem dX3_changed_72 : decode cX3_changed 72 = .ok (.getfield 35, 3) := by decide +kernel
theorem dX3_changed_75 : decode cX3_changed 75 = .ok (.iload_n 2, 1) := by decide +kernel
theorem dX3_changed_76 : decode cX3_changed 76 = .ok (.iaload, 1) := by decide +kernel
theorem dX3_changed_77 : decode cX3_changed 77 = .ok (.goto 4, 3) := by decide +kernel
theorem dX3_changed_80 : decode cX3_changed 80 = .ok (.iconst 0, 1) := by decide +kernel
theorem dX3_changed_81 : decode cX3_changed 81 = .ok (.ireturn, 1) := by decide +kernel
theorem dX3_changed_82 : decode cX3_changed 82 = .ok (.iconst 1, 1) := by decide +kernel
theorem dX3_changed_83 : decode cX3_changed 83 = .ok (.iload_n 2, 1) := by decide +kernel
theorem dX3_changed_84 : decode cX3_changed 84 = .ok (.isub, 1) := by decide +kernel
theorem dX3_changed_85 : decode cX3_changed 85 = .ok (.ireturn, 1) := by decide +kernel
theorem dX3_changed_86 : decode cX3_changed 86 = .ok (.iload_n 2, 1) := by decide +kernel
theorem dX3_changed_87 : decode cX3_changed 87 = .ok (.ineg, 1) := by decide +kernel
theorem dX3_changed_88 : decode cX3_changed 88 = .ok (.ireturn, 1) := by decide +kernel
def f_X3_changed (u1 : Nat) (M : xm) (a0 : Int32) (a2 : Int32) : Option (Int32) := xlet (fun (w1 : Int32) => (if a0 = (10 : Int32) then (if w1 = 0 then some (0 : Int32) else if xin a2 8 = true then some (M (u1 + 5) (Int32.toNatClampNeg a2)) else none) else (if a0 = (11 : Int32) then (if w1 = 0 then some (0 : Int32) else if xin a2 8 = true then some (M (u1 + 6) (Int32.toNatClampNeg a2)) else none) else (if a0 = (18 : Int32) then some ((1 : Int32) - a2) else some (-a2))))) (fun k2 => xlet ((k2 (0 : Int32))) (fun k10 => (if a2 < 0 then k10 else (if (8 : Int32) ≤ a2 then k10 else (k2 (1 : Int32))))))
set_option maxHeartbeats 4000000 in
set_option maxRecDepth 20000 in
theorem c_X3_changed (l : Launch) (E : xE) (b : Nat) {u1 : Nat} (L_u1 : lat u1 pHeap) (M : xm) (a0 : Int32) (a2 : Int32) {r : Int32} (hf : f_X3_changed u1 M a0 a2 = some r) :
    xMet l E b NX yX3_changed cX3_changed 4 (some .int) (xR 1) [.int a0, .ref (b + u1), .int a2] (cX E b M) (some (.int r)) True (cX E b M) := by
  refine xMet.ofW (own := RX3) (by decide) rfl (Nat.le_of_ble_eq_true rfl) ?_
  intro p e s m below meth c H locs ls C hm hl
  have hx := C.1.1
  have hb := C.1.2.1
  have hl : lv_has ls 4 [(0, .int a0), (1, .ref (b + u1)), (2, .int a2)] := hl
  unfold f_X3_changed at hf
  refine lv_iload_n hx hb dX3_changed_0 rfl (lv_at hl 2 rfl) ?_
  obtain ⟨k2, ek2, hf⟩ := xlet_x hf
  have jk2 : ∀ (w1 : Int32) (H : Heap) (locs : List Loc) (ls : Array Slot), k2 w1 = some r → xM E b NX (cX E b M) s.heap H locs → lv_has ls 4 [(0, .int a0), (1, .ref (b + u1)), (2, .int a2)] → W p l e (xR 1) s m ([.int a0, .ref (b + u1), .int a2] : List Value).toArray below meth c H locs 0 0 (MQ below (xQ E b NX (some (.int r)) True (cX E b M)) ([.int a0, .ref (b + u1), .int a2] : List Value).toArray s 0 0 (xA b NX)) (F0 m 15 ls [.int w1]) := by
    intro w1 H locs ls hf hm hl
    have hf := xap1 ek2 hf
    refine lv_istore_n (lv' := [(3, .int w1), (0, .int a0), (1, .ref (b + u1)), (2, .int a2)]) hx hb dX3_changed_15 rfl hl (by decide) rfl (fun ls hl => ?_)
    refine lv_iload_n hx hb dX3_changed_16 rfl (lv_at hl 1 rfl) ?_
    by_cases hs3 : a0 = (10 : Int32)
    · have hf := xif_t hs3 hf
      refine x_lookIn (tgt := 52) hx hb (10 : Int32) hs3 dX3_changed_17 (by decide) rfl (by decide) ?_
      refine lv_iload_n hx hb dX3_changed_52 rfl (lv_at hl 0 rfl) ?_
      refine lv_if_eq (tgt := 65) hx hb dX3_changed_53 (by decide) (fun hc4 => ?_) (fun hc4 => ?_)
      · have hf := xif_t hc4 hf
        refine lv_iconst (v := (0 : Int32)) hx hb dX3_changed_65 (by decide) ?_
        cases hf
        exact x_iret C hm trivial dX3_changed_66
      have hf := xif_f hc4 hf
      refine lv_aload_n hx hb dX3_changed_56 rfl (lv_at hl 2 rfl) ?_
      refine x_get C hm inX1 rfl 4 (by decide) tf_RX3_30 (cx_Heap (L_u1 0 _ rfl)) rfl dX3_changed_57 ?_
      refine lv_iload_n hx hb dX3_changed_60 rfl (lv_at hl 3 rfl) ?_
      obtain ⟨hi5, hf⟩ := xif_s hf
      refine x_iald (j := (Int32.toNatClampNeg a2)) C hm (cx_I (L_u1 5 _ rfl)) hi5 dX3_changed_61 rfl ?_
      refine lv_goto (tgt := 66) hx hb dX3_changed_62 (by decide) ?_
      cases hf
      exact x_iret C hm trivial dX3_changed_66
    have hf := xif_f hs3 hf
    by_cases hs6 : a0 = (11 : Int32)
    · have hf := xif_t hs6 hf
      refine x_lookIn (tgt := 67) hx hb (11 : Int32) hs6 dX3_changed_17 (by decide) rfl (by decide) ?_
      refine lv_iload_n hx hb dX3_changed_67 rfl (lv_at hl 0 rfl) ?_
      refine lv_if_eq (tgt := 80) hx hb dX3_changed_68 (by decide) (fun hc7 => ?_) (fun hc7 => ?_)
      · have hf := xif_t hc7 hf
        refine lv_iconst (v := (0 : Int32)) hx hb dX3_changed_80 (by decide) ?_
        cases hf
        exact x_iret C hm trivial dX3_changed_81
      have hf := xif_f hc7 hf
      refine lv_aload_n hx hb dX3_changed_71 rfl (lv_at hl 2 rfl) ?_
      refine x_get C hm inX1 rfl 5 (by decide) tf_RX3_35 (cx_Heap (L_u1 0 _ rfl)) rfl dX3_changed_72 ?_
      refine lv_iload_n hx hb dX3_changed_75 rfl (lv_at hl 3 rfl) ?_
      obtain ⟨hi8, hf⟩ := xif_s hf
      refine x_iald (j := (Int32.toNatClampNeg a2)) C hm (cx_I (L_u1 6 _ rfl)) hi8 dX3_changed_76 rfl ?_
      refine lv_goto (tgt := 81) hx hb dX3_changed_77 (by decide) ?_
      cases hf
      exact x_iret C hm trivial dX3_changed_81
    have hf := xif_f hs6 hf
    by_cases hs9 : a0 = (18 : Int32)
    · have hf := xif_t hs9 hf
      refine x_lookIn (tgt := 82) hx hb (18 : Int32) hs9 dX3_changed_17 (by decide) rfl (by decide) ?_
      refine lv_iconst (v := (1 : Int32)) hx hb dX3_changed_82 (by decide) ?_
      refine lv_iload_n hx hb dX3_changed_83 rfl (lv_at hl 3 rfl) ?_
      refine lv_isub hx hb dX3_changed_84 ?_
      cases hf
      exact x_iret C hm trivial dX3_changed_85
    have hf := xif_f hs9 hf
    refine lv_lookup (tgt := 86) hx hb dX3_changed_17 (by decide) (x_lookD _ _ _ (fun q hq => by rcases List.mem_cons.mp hq with rfl | hq; exact hs3; rcases List.mem_cons.mp hq with rfl | hq; exact hs6; rcases List.mem_cons.mp hq with rfl | hq; exact hs9; cases hq)) (by decide) ?_
    refine lv_iload_n hx hb dX3_changed_86 rfl (lv_at hl 3 rfl) ?_
    refine lv_ineg hx hb dX3_changed_87 ?_
    cases hf
    exact x_iret C hm trivial dX3_changed_88
  obtain ⟨k10, ek10, hf⟩ := xlet_x hf
  have jk10 : ∀  (H : Heap) (locs : List Loc) (ls : Array Slot), k10 = some r → xM E b NX (cX E b M) s.heap H locs → lv_has ls 4 [(0, .int a0), (1, .ref (b + u1)), (2, .int a2)] → W p l e (xR 1) s m ([.int a0, .ref (b + u1), .int a2] : List Value).toArray below meth c H locs 0 0 (MQ below (xQ E b NX (some (.int r)) True (cX E b M)) ([.int a0, .ref (b + u1), .int a2] : List Value).toArray s 0 0 (xA b NX)) (F0 m 14 ls []) := by
    intro  H locs ls hf hm hl
    have hf := xap0 ek10 hf
    refine lv_iconst (v := (0 : Int32)) hx hb dX3_changed_14 (by decide) ?_
    exact jk2 (0 : Int32) H locs ls  hf hm (lv_sub hl [0, 1, 2] rfl)
  refine lv_if_lt (tgt := 14) hx hb dX3_changed_1 (by decide) (fun hc11 => ?_) (fun hc11 => ?_)
  · have hf := xif_t hc11 hf
    exact jk10  H locs ls  hf hm (lv_sub hl [0, 1, 2] rfl)
  have hf := xif_f hc11 hf
  refine lv_iload_n hx hb dX3_changed_4 rfl (lv_at hl 2 rfl) ?_
  refine lv_bipush (v := (8 : Int32)) hx hb dX3_changed_5 (by decide) ?_
  refine lv_icmp_ge (tgt := 14) hx hb dX3_changed_7 (by decide) (fun hc12 => ?_) (fun hc12 => ?_)
  · have hf := xif_t hc12 hf
    exact jk10  H locs ls  hf hm (lv_sub hl [0, 1, 2] rfl)
  have hf := xif_f hc12 hf
  refine lv_iconst (v := (1 : Int32)) hx hb dX3_changed_10 (by decide) ?_
  refine lv_goto (tgt := 15) hx hb dX3_changed_11 (by decide) ?_
  exact jk2 (1 : Int32) H locs ls  hf hm (lv_sub hl [0, 1, 2] rfl)
/-! ColouredHeap$Law.isOfOne(I)Z -/
theorem dX3_isOfOne_0 : decode cX3_isOfOne 0 = .ok (.iload_n 0, 1) := by decide +kernel
theorem dX3_isOfOne_1 : decode cX3_isOfOne 1 = .ok (.bipush 43, 2) := by decide +kernel
theorem dX3_isOfOne_3 : decode cX3_isOfOne 3 = .ok (.if_icmp .eq 21, 3) := by decide +kernel
theorem dX3_isOfOne_6 : decode cX3_isOfOne 6 = .ok (.iload_n 0, 1) := by decide +kernel
theorem dX3_isOfOne_7 : decode cX3_isOfOne 7 = .ok (.bipush 18, 2) := by decide +kernel
theorem dX3_isOfOne_9 : decode cX3_isOfOne 9 = .ok (.if_icmp .eq 15, 3) := by decide +kernel
theorem dX3_isOfOne_12 : decode cX3_isOfOne 12 = .ok (.iload_n 0, 1) := by decide +kernel
theorem dX3_isOfOne_13 : decode cX3_isOfOne 13 = .ok (.bipush 10, 2) := by decide +kernel
theorem dX3_isOfOne_15 : decode cX3_isOfOne 15 = .ok (.if_icmp .eq 9, 3) := by decide +kernel
theorem dX3_isOfOne_18 : decode cX3_isOfOne 18 = .ok (.iload_n 0, 1) := by decide +kernel
theorem dX3_isOfOne_19 : decode cX3_isOfOne 19 = .ok (.bipush 11, 2) := by decide +kernel
theorem dX3_isOfOne_21 : decode cX3_isOfOne 21 = .ok (.if_icmp .ne 7, 3) := by decide +kernel
theorem dX3_isOfOne_24 : decode cX3_isOfOne 24 = .ok (.iconst 1, 1) := by decide +kernel
theorem dX3_isOfOne_25 : decode cX3_isOfOne 25 = .ok (.goto 4, 3) := by decide +kernel
theorem dX3_isOfOne_28 : decode cX3_isOfOne 28 = .ok (.iconst 0, 1) := by decide +kernel
theorem dX3_isOfOne_29 : decode cX3_isOfOne 29 = .ok (.ireturn, 1) := by decide +kernel
def f_X3_isOfOne (a0 : Int32) : Int32 := (if a0 = (43 : Int32) then (1 : Int32) else (if a0 = (18 : Int32) then (1 : Int32) else (if a0 = (10 : Int32) then (1 : Int32) else (if a0 = (11 : Int32) then (1 : Int32) else (0 : Int32)))))
set_option maxHeartbeats 4000000 in
set_option maxRecDepth 20000 in
theorem c_X3_isOfOne (l : Launch) (E : xE) (b : Nat) (M : xm) (a0 : Int32) {r : Int32} (hf : f_X3_isOfOne a0 = r) :
    xMet l E b NX yX3_isOfOne cX3_isOfOne 1 (some .boolean) (xR 1) [.int a0] (cX E b M) (some (.int r)) (xbo r = true) (cX E b M) := by
  refine xMet.ofW (own := RX3) (by decide) rfl (Nat.le_of_ble_eq_true rfl) ?_
  intro p e s m below meth c H locs ls C hm hl
  have hx := C.1.1
  have hb := C.1.2.1
  have hl : lv_has ls 1 [(0, .int a0)] := hl
  unfold f_X3_isOfOne at hf
  refine lv_iload_n hx hb dX3_isOfOne_0 rfl (lv_at hl 0 rfl) ?_
  refine lv_bipush (v := (43 : Int32)) hx hb dX3_isOfOne_1 (by decide) ?_
  refine lv_icmp_eq (tgt := 24) hx hb dX3_isOfOne_3 (by decide) (fun hc1 => ?_) (fun hc1 => ?_)
  · have hf := xif_t hc1 hf
    refine lv_iconst (v := (1 : Int32)) hx hb dX3_isOfOne_24 (by decide) ?_
    refine lv_goto (tgt := 29) hx hb dX3_isOfOne_25 (by decide) ?_
    cases hf
    exact x_zret C hm (by decide) (by decide) dX3_isOfOne_29
  have hf := xif_f hc1 hf
  refine lv_iload_n hx hb dX3_isOfOne_6 rfl (lv_at hl 0 rfl) ?_
  refine lv_bipush (v := (18 : Int32)) hx hb dX3_isOfOne_7 (by decide) ?_
  refine lv_icmp_eq (tgt := 24) hx hb dX3_isOfOne_9 (by decide) (fun hc2 => ?_) (fun hc2 => ?_)
  · have hf := xif_t hc2 hf
    refine lv_iconst (v := (1 : Int32)) hx hb dX3_isOfOne_24 (by decide) ?_
    refine lv_goto (tgt := 29) hx hb dX3_isOfOne_25 (by decide) ?_
    cases hf
    exact x_zret C hm (by decide) (by decide) dX3_isOfOne_29
  have hf := xif_f hc2 hf
  refine lv_iload_n hx hb dX3_isOfOne_12 rfl (lv_at hl 0 rfl) ?_
  refine lv_bipush (v := (10 : Int32)) hx hb dX3_isOfOne_13 (by decide) ?_
  refine lv_icmp_eq (tgt := 24) hx hb dX3_isOfOne_15 (by decide) (fun hc3 => ?_) (fun hc3 => ?_)
  · have hf := xif_t hc3 hf
    refine lv_iconst (v := (1 : Int32)) hx hb dX3_isOfOne_24 (by decide) ?_
    refine lv_goto (tgt := 29) hx hb dX3_isOfOne_25 (by decide) ?_
    cases hf
    exact x_zret C hm (by decide) (by decide) dX3_isOfOne_29
  have hf := xif_f hc3 hf
  refine lv_iload_n hx hb dX3_isOfOne_18 rfl (lv_at hl 0 rfl) ?_
  refine lv_bipush (v := (11 : Int32)) hx hb dX3_isOfOne_19 (by decide) ?_
  refine lv_icmp_ne (tgt := 28) hx hb dX3_isOfOne_21 (by decide) (fun hc4 => ?_) (fun hc4 => ?_)
  · have hf := xif_f hc4 hf
    refine lv_iconst (v := (0 : Int32)) hx hb dX3_isOfOne_28 (by decide) ?_
    cases hf
    exact x_zret C hm (by decide) (by decide) dX3_isOfOne_29
  have hf := xif_t hc4 hf
  refine lv_iconst (v := (1 : Int32)) hx hb dX3_isOfOne_24 (by decide) ?_
  refine lv_goto (tgt := 29) hx hb dX3_isOfOne_25 (by decide) ?_
  cases hf
  exact x_zret C hm (by decide) (by decide) dX3_isOfOne_29
/-! ColouredHeap$Law.joined(III)J -/
theorem dX3_joined_0 : decode cX3_joined 0 = .ok (.iload_n 0, 1) := by decide +kernel
theorem dX3_joined_1 : decode cX3_joined 1 = .ok (.tableswitch 216 16 39 #[140, 145, 216, 216, 216, 216, 216, 216, 216, 216, 216, 150, 161, 172, 183, 111, 116, 121, 127, 216, 216, 216, 194, 205], 111) := by decide +kernel
theorem dX3_joined_112 : decode cX3_joined 112 = .ok (.iload_n 1, 1) := by decide +kernel
theorem dX3_joined_113 : decode cX3_joined 113 = .ok (.iload_n 2, 1) := by decide +kernel
theorem dX3_joined_114 : decode cX3_joined 114 = .ok (.iadd, 1) := by decide +kernel
theorem dX3_joined_115 : decode cX3_joined 115 = .ok (.i2l, 1) := by decide +kernel
theorem dX3_joined_116 : decode cX3_joined 116 = .ok (.lreturn, 1) := by decide +kernel
theorem dX3_joined_117 : decode cX3_joined 117 = .ok (.iload_n 1, 1) := by decide +kernel
theorem dX3_joined_118 : decode cX3_joined 118 = .ok (.iload_n 2, 1) := by decide +kernel
theorem dX3_joined_119 : decode cX3_joined 119 = .ok (.isub, 1) := by decide +kernel
theorem dX3_joined_120 : decode cX3_joined 120 = .ok (.i2l, 1) := by decide +kernel
theorem dX3_joined_121 : decode cX3_joined 121 = .ok (.lreturn, 1) := by decide +kernel
theorem dX3_joined_122 : decode cX3_joined 122 = .ok (.iload_n 1, 1) := by decide +kernel
theorem dX3_joined_123 : decode cX3_joined 123 = .ok (.i2l, 1) := by decide +kernel
theorem dX3_joined_124 : decode cX3_joined 124 = .ok (.iload_n 2, 1) := by decide +kernel
theorem dX3_joined_125 : decode cX3_joined 125 = .ok (.i2l, 1) := by decide +kernel
theorem dX3_joined_126 : decode cX3_joined 126 = .ok (.lmul, 1) := by decide +kernel
theorem dX3_joined_127 : decode cX3_joined 127 = .ok (.lreturn, 1) := by decide +kernel
theorem dX3_joined_128 : decode cX3_joined 128 = .ok (.iload_n 2, 1) := by decide +kernel
theorem dX3_joined_129 : decode cX3_joined 129 = .ok (.ifCond .ne 7, 3) := by decide +kernel
theorem dX3_joined_132 : decode cX3_joined 132 = .ok (.lconst 0, 1) := by decide +kernel
theorem dX3_joined_133 : decode cX3_joined 133 = .ok (.goto 7, 3) := by decide +kernel
theorem dX3_joined_136 : decode cX3_joined 136 = .ok (.iload_n 1, 1) := by decide +kernel
theorem dX3_joined_137 : decode cX3_joined 137 = .ok (.iload_n 2, 1) := by decide +kernel
theorem dX3_joined_138 : decode cX3_joined 138 = .ok (.idiv, 1) := by decide +kernel
theorem dX3_joined_139 : decode cX3_joined 139 = .ok (.i2l, 1) := by decide +kernel
theorem dX3_joined_140 : decode cX3_joined 140 = .ok (.lreturn, 1) := by decide +kernel
theorem dX3_joined_141 : decode cX3_joined 141 = .ok (.iload_n 1, 1) := by decide +kernel
theorem dX3_joined_142 : decode cX3_joined 142 = .ok (.iload_n 2, 1) := by decide +kernel
theorem dX3_joined_143 : decode cX3_joined 143 = .ok (.ior, 1) := by decide +kernel
theorem dX3_joined_144 : decode cX3_joined 144 = .ok (.i2l, 1) := by decide +kernel
theorem dX3_joined_145 : decode cX3_joined 145 = .ok (.lreturn, 1) := by decide +kernel
theorem dX3_joined_146 : decode cX3_joined 146 = .ok (.iload_n 1, 1) := by decide +kernel
theorem dX3_joined_147 : decode cX3_joined 147 = .ok (.iload_n 2, 1) := by decide +kernel
theorem dX3_joined_148 : decode cX3_joined 148 = .ok (.iand, 1) := by decide +kernel
theorem dX3_joined_149 : decode cX3_joined 149 = .ok (.i2l, 1) := by decide +kernel
theorem dX3_joined_150 : decode cX3_joined 150 = .ok (.lreturn, 1) := by decide +kernel
theorem dX3_joined_151 : decode cX3_joined 151 = .ok (.iload_n 1, 1) := by decide +kernel
theorem dX3_joined_152 : decode cX3_joined 152 = .ok (.iload_n 2, 1) := by decide +kernel
theorem dX3_joined_153 : decode cX3_joined 153 = .ok (.if_icmp .ge 7, 3) := by decide +kernel
theorem dX3_joined_156 : decode cX3_joined 156 = .ok (.lconst 1, 1) := by decide +kernel
theorem dX3_joined_157 : decode cX3_joined 157 = .ok (.goto 4, 3) := by decide +kernel
theorem dX3_joined_160 : decode cX3_joined 160 = .ok (.lconst 0, 1) := by decide +kernel
theorem dX3_joined_161 : decode cX3_joined 161 = .ok (.lreturn, 1) := by decide +kernel
theorem dX3_joined_162 : decode cX3_joined 162 = .ok (.iload_n 1, 1) := by decide +kernel
theorem dX3_joined_163 : decode cX3_joined 163 = .ok (.iload_n 2, 1) := by decide +kernel
theorem dX3_joined_164 : decode cX3_joined 164 = .ok (.if_icmp .le 7, 3) := by decide +kernel
theorem dX3_joined_167 : decode cX3_joined 167 = .ok (.lconst 1, 1) := by decide +kernel
theorem dX3_joined_168 : decode cX3_joined 168 = .ok (.goto 4, 3) := by decide +kernel
theorem dX3_joined_171 : decode cX3_joined 171 = .ok (.lconst 0, 1) := by decide +kernel
theorem dX3_joined_172 : decode cX3_joined 172 = .ok (.lreturn, 1) := by decide +kernel
theorem dX3_joined_173 : decode cX3_joined 173 = .ok (.iload_n 1, 1) := by decide +kernel
theorem dX3_joined_174 : decode cX3_joined 174 = .ok (.iload_n 2, 1) := by decide +kernel
theorem dX3_joined_175 : decode cX3_joined 175 = .ok (.if_icmp .ne 7, 3) := by decide +kernel
theorem dX3_joined_178 : decode cX3_joined 178 = .ok (.lconst 1, 1) := by decide +kernel
theorem dX3_joined_179 : decode cX3_joined 179 = .ok (.goto 4, 3) := by decide +kernel
theorem dX3_joined_182 : decode cX3_joined 182 = .ok (.lconst 0, 1) := by decide +kernel
theorem dX3_joined_183 : decode cX3_joined 183 = .ok (.lreturn, 1) := by decide +kernel
theorem dX3_joined_184 : decode cX3_joined 184 = .ok (.iload_n 1, 1) := by decide +kernel
theorem dX3_joined_185 : decode cX3_joined 185 = .ok (.iload_n 2, 1) := by decide +kernel
theorem dX3_joined_186 : decode cX3_joined 186 = .ok (.if_icmp .eq 7, 3) := by decide +kernel
theorem dX3_joined_189 : decode cX3_joined 189 = .ok (.lconst 1, 1) := by decide +kernel
theorem dX3_joined_190 : decode cX3_joined 190 = .ok (.goto 4, 3) := by decide +kernel
theorem dX3_joined_193 : decode cX3_joined 193 = .ok (.lconst 0, 1) := by decide +kernel
theorem dX3_joined_194 : decode cX3_joined 194 = .ok (.lreturn, 1) := by decide +kernel
theorem dX3_joined_195 : decode cX3_joined 195 = .ok (.iload_n 1, 1) := by decide +kernel
theorem dX3_joined_196 : decode cX3_joined 196 = .ok (.iload_n 2, 1) := by decide +kernel
theorem dX3_joined_197 : decode cX3_joined 197 = .ok (.if_icmp .gt 7, 3) := by decide +kernel
theorem dX3_joined_200 : decode cX3_joined 200 = .ok (.lconst 1, 1) := by decide +kernel
theorem dX3_joined_201 : decode cX3_joined 201 = .ok (.goto 4, 3) := by decide +kernel
theorem dX3_joined_204 : decode cX3_joined 204 = .ok (.lconst 0, 1) := by decide +kernel
theorem dX3_joined_205 : decode cX3_joined 205 = .ok (.lreturn, 1) := by decide +kernel
theorem dX3_joined_206 : decode cX3_joined 206 = .ok (.iload_n 1, 1) := by decide +kernel
theorem dX3_joined_207 : decode cX3_joined 207 = .ok (.iload_n 2, 1) := by decide +kernel
theorem dX3_joined_208 : decode cX3_joined 208 = .ok (.if_icmp .lt 7, 3) := by decide +kernel
theorem dX3_joined_211 : decode cX3_joined 211 = .ok (.lconst 1, 1) := by decide +kernel
theorem dX3_joined_212 : decode cX3_joined 212 = .ok (.goto 4, 3) := by decide +kernel
theorem dX3_joined_215 : decode cX3_joined 215 = .ok (.lconst 0, 1) := by decide +kernel
theorem dX3_joined_216 : decode cX3_joined 216 = .ok (.lreturn, 1) := by decide +kernel
theorem dX3_joined_217 : decode cX3_joined 217 = .ok (.lconst 0, 1) := by decide +kernel
theorem dX3_joined_218 : decode cX3_joined 218 = .ok (.lreturn, 1) := by decide +kernel
def f_X3_joined (a0 : Int32) (a1 : Int32) (a2 : Int32) : Option (Int64) := (if a0 = (16 : Int32) then some ((a1 ||| a2).toInt64) else (if a0 = (17 : Int32) then some ((a1 &&& a2).toInt64) else (if a0 = (18 : Int32) then some (0 : Int64) else (if a0 = (19 : Int32) then some (0 : Int64) else (if a0 = (20 : Int32) then some (0 : Int64) else (if a0 = (21 : Int32) then some (0 : Int64) else (if a0 = (22 : Int32) then some (0 : Int64) else (if a0 = (23 : Int32) then some (0 : Int64) else (if a0 = (24 : Int32) then some (0 : Int64) else (if a0 = (25 : Int32) then some (0 : Int64) else (if a0 = (26 : Int32) then some (0 : Int64) else (if a0 = (27 : Int32) then (if a2 ≤ a1 then some (0 : Int64) else some (1 : Int64)) else (if a0 = (28 : Int32) then (if a1 ≤ a2 then some (0 : Int64) else some (1 : Int64)) else (if a0 = (29 : Int32) then (if a1 = a2 then some (1 : Int64) else some (0 : Int64)) else (if a0 = (30 : Int32) then (if a1 = a2 then some (0 : Int64) else some (1 : Int64)) else (if a0 = (31 : Int32) then some ((a1 + a2).toInt64) else (if a0 = (32 : Int32) then some ((a1 - a2).toInt64) else (if a0 = (33 : Int32) then some ((a1.toInt64) * (a2.toInt64)) else (if a0 = (34 : Int32) then (if a2 = 0 then some (0 : Int64) else if ¬ a2 = 0 then some ((a1 / a2).toInt64) else none) else (if a0 = (35 : Int32) then some (0 : Int64) else (if a0 = (36 : Int32) then some (0 : Int64) else (if a0 = (37 : Int32) then some (0 : Int64) else (if a0 = (38 : Int32) then (if a2 < a1 then some (0 : Int64) else some (1 : Int64)) else (if a0 = (39 : Int32) then (if a1 < a2 then some (0 : Int64) else some (1 : Int64)) else some (0 : Int64)))))))))))))))))))))))))
set_option maxHeartbeats 4000000 in
set_option maxRecDepth 20000 in
theorem c_X3_joined (l : Launch) (E : xE) (b : Nat) (M : xm) (a0 : Int32) (a1 : Int32) (a2 : Int32) {r : Int64} (hf : f_X3_joined a0 a1 a2 = some r) :
    xMet l E b NX yX3_joined cX3_joined 3 (some .long) (xR 1) [.int a0, .int a1, .int a2] (cX E b M) (some (.long r)) True (cX E b M) := by
  refine xMet.ofW (own := RX3) (by decide) rfl (Nat.le_of_ble_eq_true rfl) ?_
  intro p e s m below meth c H locs ls C hm hl
  have hx := C.1.1
  have hb := C.1.2.1
  have hl : lv_has ls 3 [(0, .int a0), (1, .int a1), (2, .int a2)] := hl
  unfold f_X3_joined at hf
  refine lv_iload_n hx hb dX3_joined_0 rfl (lv_at hl 0 rfl) ?_
  by_cases hs1 : a0 = (16 : Int32)
  · have hf := xif_t hs1 hf
    refine x_tabIn (tgt := 141) hx hb (16 : Int32) hs1 dX3_joined_1 (by decide) (by decide) rfl (by decide) ?_
    refine lv_iload_n hx hb dX3_joined_141 rfl (lv_at hl 1 rfl) ?_
    refine lv_iload_n hx hb dX3_joined_142 rfl (lv_at hl 2 rfl) ?_
    refine lv_ior hx hb dX3_joined_143 ?_
    refine lv_i2l hx hb dX3_joined_144 rfl ?_
    cases hf
    exact x_lret C hm trivial dX3_joined_145
  have hf := xif_f hs1 hf
  by_cases hs2 : a0 = (17 : Int32)
  · have hf := xif_t hs2 hf
    refine x_tabIn (tgt := 146) hx hb (17 : Int32) hs2 dX3_joined_1 (by decide) (by decide) rfl (by decide) ?_
    refine lv_iload_n hx hb dX3_joined_146 rfl (lv_at hl 1 rfl) ?_
    refine lv_iload_n hx hb dX3_joined_147 rfl (lv_at hl 2 rfl) ?_
    refine lv_iand hx hb dX3_joined_148 ?_
    refine lv_i2l hx hb dX3_joined_149 rfl ?_
    cases hf
    exact x_lret C hm trivial dX3_joined_150
  have hf := xif_f hs2 hf
  by_cases hs3 : a0 = (18 : Int32)
  · have hf := xif_t hs3 hf
    refine x_tabIn (tgt := 217) hx hb (18 : Int32) hs3 dX3_joined_1 (by decide) (by decide) rfl (by decide) ?_
    refine lv_lconst (v := (0 : Int64)) hx hb dX3_joined_217 (by decide) ?_
    cases hf
    exact x_lret C hm trivial dX3_joined_218
  have hf := xif_f hs3 hf
  by_cases hs4 : a0 = (19 : Int32)
  · have hf := xif_t hs4 hf
    refine x_tabIn (tgt := 217) hx hb (19 : Int32) hs4 dX3_joined_1 (by decide) (by decide) rfl (by decide) ?_
    refine lv_lconst (v := (0 : Int64)) hx hb dX3_joined_217 (by decide) ?_
    cases hf
    exact x_lret C hm trivial dX3_joined_218
  have hf := xif_f hs4 hf
  by_cases hs5 : a0 = (20 : Int32)
  · have hf := xif_t hs5 hf
    refine x_tabIn (tgt := 217) hx hb (20 : Int32) hs5 dX3_joined_1 (by decide) (by decide) rfl (by decide) ?_
    refine lv_lconst (v := (0 : Int64)) hx hb dX3_joined_217 (by decide) ?_
    cases hf
    exact x_lret C hm trivial dX3_joined_218
  have hf := xif_f hs5 hf
  by_cases hs6 : a0 = (21 : Int32)
  · have hf := xif_t hs6 hf
    refine x_tabIn (tgt := 217) hx hb (21 : Int32) hs6 dX3_joined_1 (by decide) (by decide) rfl (by decide) ?_
    refine lv_lconst (v := (0 : Int64)) hx hb dX3_joined_217 (by decide) ?_
    cases hf
    exact x_lret C hm trivial dX3_joined_218
  have hf := xif_f hs6 hf
  by_cases hs7 : a0 = (22 : Int32)
  · have hf := xif_t hs7 hf
    refine x_tabIn (tgt := 217) hx hb (22 : Int32) hs7 dX3_joined_1 (by decide) (by decide) rfl (by decide) ?_
    refine lv_lconst (v := (0 : Int64)) hx hb dX3_joined_217 (by decide) ?_
    cases hf
    exact x_lret C hm trivial dX3_joined_218
  have hf := xif_f hs7 hf
  by_cases hs8 : a0 = (23 : Int32)
  · have hf := xif_t hs8 hf
    refine x_tabIn (tgt := 217) hx hb (23 : Int32) hs8 dX3_joined_1 (by decide) (by decide) rfl (by decide) ?_
    refine lv_lconst (v := (0 : Int64)) hx hb dX3_joined_217 (by decide) ?_
    cases hf
    exact x_lret C hm trivial dX3_joined_218
  have hf := xif_f hs8 hf
  by_cases hs9 : a0 = (24 : Int32)
  · have hf := xif_t hs9 hf
    refine x_tabIn (tgt := 217) hx hb (24 : Int32) hs9 dX3_joined_1 (by decide) (by decide) rfl (by decide) ?_
    refine lv_lconst (v := (0 : Int64)) hx hb dX3_joined_217 (by decide) ?_
    cases hf
    exact x_lret C hm trivial dX3_joined_218
  have hf := xif_f hs9 hf
  by_cases hs10 : a0 = (25 : Int32)
  · have hf := xif_t hs10 hf
    refine x_tabIn (tgt := 217) hx hb (25 : Int32) hs10 dX3_joined_1 (by decide) (by decide) rfl (by decide) ?_
    refine lv_lconst (v := (0 : Int64)) hx hb dX3_joined_217 (by decide) ?_
    cases hf
    exact x_lret C hm trivial dX3_joined_218
  have hf := xif_f hs10 hf
  by_cases hs11 : a0 = (26 : Int32)
  · have hf := xif_t hs11 hf
    refine x_tabIn (tgt := 217) hx hb (26 : Int32) hs11 dX3_joined_1 (by decide) (by decide) rfl (by decide) ?_
    refine lv_lconst (v := (0 : Int64)) hx hb dX3_joined_217 (by decide) ?_
    cases hf
    exact x_lret C hm trivial dX3_joined_218
  have hf := xif_f hs11 hf
  by_cases hs12 : a0 = (27 : Int32)
  · have hf := xif_t hs12 hf
    refine x_tabIn (tgt := 151) hx hb (27 : Int32) hs12 dX3_joined_1 (by decide) (by decide) rfl (by decide) ?_
    refine lv_iload_n hx hb dX3_joined_151 rfl (lv_at hl 1 rfl) ?_
    refine lv_iload_n hx hb dX3_joined_152 rfl (lv_at hl 2 rfl) ?_
    refine lv_icmp_ge (tgt := 160) hx hb dX3_joined_153 (by decide) (fun hc13 => ?_) (fun hc13 => ?_)
    · have hf := xif_t hc13 hf
      refine lv_lconst (v := (0 : Int64)) hx hb dX3_joined_160 (by decide) ?_
      cases hf
      exact x_lret C hm trivial dX3_joined_161
    have hf := xif_f hc13 hf
    refine lv_lconst (v := (1 : Int64)) hx hb dX3_joined_156 (by decide) ?_
    refine lv_goto (tgt := 161) hx hb dX3_joined_157 (by decide) ?_
    cases hf
    exact x_lret C hm trivial dX3_joined_161
  have hf := xif_f hs12 hf
  by_cases hs14 : a0 = (28 : Int32)
  · have hf := xif_t hs14 hf
    refine x_tabIn (tgt := 162) hx hb (28 : Int32) hs14 dX3_joined_1 (by decide) (by decide) rfl (by decide) ?_
    refine lv_iload_n hx hb dX3_joined_162 rfl (lv_at hl 1 rfl) ?_
    refine lv_iload_n hx hb dX3_joined_163 rfl (lv_at hl 2 rfl) ?_
    refine lv_icmp_le (tgt := 171) hx hb dX3_joined_164 (by decide) (fun hc15 => ?_) (fun hc15 => ?_)
    · have hf := xif_t hc15 hf
      refine lv_lconst (v := (0 : Int64)) hx hb dX3_joined_171 (by decide) ?_
      cases hf
      exact x_lret C hm trivial dX3_joined_172
    have hf := xif_f hc15 hf
    refine lv_lconst (v := (1 : Int64)) hx hb dX3_joined_167 (by decide) ?_
    refine lv_goto (tgt := 172) hx hb dX3_joined_168 (by decide) ?_
    cases hf
    exact x_lret C hm trivial dX3_joined_172
  have hf := xif_f hs14 hf
  by_cases hs16 : a0 = (29 : Int32)
  · have hf := xif_t hs16 hf
    refine x_tabIn (tgt := 173) hx hb (29 : Int32) hs16 dX3_joined_1 (by decide) (by decide) rfl (by decide) ?_
    refine lv_iload_n hx hb dX3_joined_173 rfl (lv_at hl 1 rfl) ?_
    refine lv_iload_n hx hb dX3_joined_174 rfl (lv_at hl 2 rfl) ?_
    refine lv_icmp_ne (tgt := 182) hx hb dX3_joined_175 (by decide) (fun hc17 => ?_) (fun hc17 => ?_)
    · have hf := xif_f hc17 hf
      refine lv_lconst (v := (0 : Int64)) hx hb dX3_joined_182 (by decide) ?_
      cases hf
      exact x_lret C hm trivial dX3_joined_183
    have hf := xif_t hc17 hf
    refine lv_lconst (v := (1 : Int64)) hx hb dX3_joined_178 (by decide) ?_
    refine lv_goto (tgt := 183) hx hb dX3_joined_179 (by decide) ?_
    cases hf
    exact x_lret C hm trivial dX3_joined_183
  have hf := xif_f hs16 hf
  by_cases hs18 : a0 = (30 : Int32)
  · have hf := xif_t hs18 hf
    refine x_tabIn (tgt := 184) hx hb (30 : Int32) hs18 dX3_joined_1 (by decide) (by decide) rfl (by decide) ?_
    refine lv_iload_n hx hb dX3_joined_184 rfl (lv_at hl 1 rfl) ?_
    refine lv_iload_n hx hb dX3_joined_185 rfl (lv_at hl 2 rfl) ?_
    refine lv_icmp_eq (tgt := 193) hx hb dX3_joined_186 (by decide) (fun hc19 => ?_) (fun hc19 => ?_)
    · have hf := xif_t hc19 hf
      refine lv_lconst (v := (0 : Int64)) hx hb dX3_joined_193 (by decide) ?_
      cases hf
      exact x_lret C hm trivial dX3_joined_194
    have hf := xif_f hc19 hf
    refine lv_lconst (v := (1 : Int64)) hx hb dX3_joined_189 (by decide) ?_
    refine lv_goto (tgt := 194) hx hb dX3_joined_190 (by decide) ?_
    cases hf
    exact x_lret C hm trivial dX3_joined_194
  have hf := xif_f hs18 hf
  by_cases hs20 : a0 = (31 : Int32)
  · have hf := xif_t hs20 hf
    refine x_tabIn (tgt := 112) hx hb (31 : Int32) hs20 dX3_joined_1 (by decide) (by decide) rfl (by decide) ?_
    refine lv_iload_n hx hb dX3_joined_112 rfl (lv_at hl 1 rfl) ?_
    refine lv_iload_n hx hb dX3_joined_113 rfl (lv_at hl 2 rfl) ?_
    refine lv_iadd hx hb dX3_joined_114 ?_
    refine lv_i2l hx hb dX3_joined_115 rfl ?_
    cases hf
    exact x_lret C hm trivial dX3_joined_116
  have hf := xif_f hs20 hf
  by_cases hs21 : a0 = (32 : Int32)
  · have hf := xif_t hs21 hf
    refine x_tabIn (tgt := 117) hx hb (32 : Int32) hs21 dX3_joined_1 (by decide) (by decide) rfl (by decide) ?_
    refine lv_iload_n hx hb dX3_joined_117 rfl (lv_at hl 1 rfl) ?_
    refine lv_iload_n hx hb dX3_joined_118 rfl (lv_at hl 2 rfl) ?_
    refine lv_isub hx hb dX3_joined_119 ?_
    refine lv_i2l hx hb dX3_joined_120 rfl ?_
    cases hf
    exact x_lret C hm trivial dX3_joined_121
  have hf := xif_f hs21 hf
  by_cases hs22 : a0 = (33 : Int32)
  · have hf := xif_t hs22 hf
    refine x_tabIn (tgt := 122) hx hb (33 : Int32) hs22 dX3_joined_1 (by decide) (by decide) rfl (by decide) ?_
    refine lv_iload_n hx hb dX3_joined_122 rfl (lv_at hl 1 rfl) ?_
    refine lv_i2l hx hb dX3_joined_123 rfl ?_
    refine lv_iload_n hx hb dX3_joined_124 rfl (lv_at hl 2 rfl) ?_
    refine lv_i2l hx hb dX3_joined_125 rfl ?_
    refine lv_lmul hx hb dX3_joined_126 ?_
    cases hf
    exact x_lret C hm trivial dX3_joined_127
  have hf := xif_f hs22 hf
  by_cases hs23 : a0 = (34 : Int32)
  · have hf := xif_t hs23 hf
    refine x_tabIn (tgt := 128) hx hb (34 : Int32) hs23 dX3_joined_1 (by decide) (by decide) rfl (by decide) ?_
    refine lv_iload_n hx hb dX3_joined_128 rfl (lv_at hl 2 rfl) ?_
    refine lv_if_ne (tgt := 136) hx hb dX3_joined_129 (by decide) (fun hc24 => ?_) (fun hc24 => ?_)
    rotate_left
    · have hf := xif_t hc24 hf
      refine lv_lconst (v := (0 : Int64)) hx hb dX3_joined_132 (by decide) ?_
      refine lv_goto (tgt := 140) hx hb dX3_joined_133 (by decide) ?_
      cases hf
      exact x_lret C hm trivial dX3_joined_140
    have hf := xif_f hc24 hf
    refine lv_iload_n hx hb dX3_joined_136 rfl (lv_at hl 1 rfl) ?_
    refine lv_iload_n hx hb dX3_joined_137 rfl (lv_at hl 2 rfl) ?_
    obtain ⟨hz25, hf⟩ := xif_s hf
    refine lv_idiv hx hb dX3_joined_138 hz25 ?_
    refine lv_i2l hx hb dX3_joined_139 rfl ?_
    cases hf
    exact x_lret C hm trivial dX3_joined_140
  have hf := xif_f hs23 hf
  by_cases hs26 : a0 = (35 : Int32)
  · have hf := xif_t hs26 hf
    refine x_tabIn (tgt := 217) hx hb (35 : Int32) hs26 dX3_joined_1 (by decide) (by decide) rfl (by decide) ?_
    refine lv_lconst (v := (0 : Int64)) hx hb dX3_joined_217 (by decide) ?_
    cases hf
    exact x_lret C hm trivial dX3_joined_218
  have hf := xif_f hs26 hf
  by_cases hs27 : a0 = (36 : Int32)
  · have hf := xif_t hs27 hf
    refine x_tabIn (tgt := 217) hx hb (36 : Int32) hs27 dX3_joined_1 (by decide) (by decide) rfl (by decide) ?_
    refine lv_lconst (v := (0 : Int64)) hx hb dX3_joined_217 (by decide) ?_
    cases hf
    exact x_lret C hm trivial dX3_joined_218
  have hf := xif_f hs27 hf
  by_cases hs28 : a0 = (37 : Int32)
  · have hf := xif_t hs28 hf
    refine x_tabIn (tgt := 217) hx hb (37 : Int32) hs28 dX3_joined_1 (by decide) (by decide) rfl (by decide) ?_
    refine lv_lconst (v := (0 : Int64)) hx hb dX3_joined_217 (by decide) ?_
    cases hf
    exact x_lret C hm trivial dX3_joined_218
  have hf := xif_f hs28 hf
  by_cases hs29 : a0 = (38 : Int32)
  · have hf := xif_t hs29 hf
    refine x_tabIn (tgt := 195) hx hb (38 : Int32) hs29 dX3_joined_1 (by decide) (by decide) rfl (by decide) ?_
    refine lv_iload_n hx hb dX3_joined_195 rfl (lv_at hl 1 rfl) ?_
    refine lv_iload_n hx hb dX3_joined_196 rfl (lv_at hl 2 rfl) ?_
    refine lv_icmp_gt (tgt := 204) hx hb dX3_joined_197 (by decide) (fun hc30 => ?_) (fun hc30 => ?_)
    · have hf := xif_t hc30 hf
      refine lv_lconst (v := (0 : Int64)) hx hb dX3_joined_204 (by decide) ?_
      cases hf
      exact x_lret C hm trivial dX3_joined_205
    have hf := xif_f hc30 hf
    refine lv_lconst (v := (1 : Int64)) hx hb dX3_joined_200 (by decide) ?_
    refine lv_goto (tgt := 205) hx hb dX3_joined_201 (by decide) ?_
    cases hf
    exact x_lret C hm trivial dX3_joined_205
  have hf := xif_f hs29 hf
  by_cases hs31 : a0 = (39 : Int32)
  · have hf := xif_t hs31 hf
    refine x_tabIn (tgt := 206) hx hb (39 : Int32) hs31 dX3_joined_1 (by decide) (by decide) rfl (by decide) ?_
    refine lv_iload_n hx hb dX3_joined_206 rfl (lv_at hl 1 rfl) ?_
    refine lv_iload_n hx hb dX3_joined_207 rfl (lv_at hl 2 rfl) ?_
    refine lv_icmp_lt (tgt := 215) hx hb dX3_joined_208 (by decide) (fun hc32 => ?_) (fun hc32 => ?_)
    · have hf := xif_t hc32 hf
      refine lv_lconst (v := (0 : Int64)) hx hb dX3_joined_215 (by decide) ?_
      cases hf
      exact x_lret C hm trivial dX3_joined_216
    have hf := xif_f hc32 hf
    refine lv_lconst (v := (1 : Int64)) hx hb dX3_joined_211 (by decide) ?_
    refine lv_goto (tgt := 216) hx hb dX3_joined_212 (by decide) ?_
    cases hf
    exact x_lret C hm trivial dX3_joined_216
  have hf := xif_f hs31 hf
  refine x_tabOut (tgt := 217) hx hb dX3_joined_1 (by decide) (fun i hi => ?_) (by decide) ?_
  · match i, hi with
    | 0, _ => exact hs1
    | 1, _ => exact hs2
    | 2, _ => exact hs3
    | 3, _ => exact hs4
    | 4, _ => exact hs5
    | 5, _ => exact hs6
    | 6, _ => exact hs7
    | 7, _ => exact hs8
    | 8, _ => exact hs9
    | 9, _ => exact hs10
    | 10, _ => exact hs11
    | 11, _ => exact hs12
    | 12, _ => exact hs14
    | 13, _ => exact hs16
    | 14, _ => exact hs18
    | 15, _ => exact hs20
    | 16, _ => exact hs21
    | 17, _ => exact hs22
    | 18, _ => exact hs23
    | 19, _ => exact hs26
    | 20, _ => exact hs27
    | 21, _ => exact hs28
    | 22, _ => exact hs29
    | 23, _ => exact hs31
    | (i + 24), hi => exact absurd hi (by omega)
  refine lv_lconst (v := (0 : Int64)) hx hb dX3_joined_217 (by decide) ?_
  cases hf
  exact x_lret C hm trivial dX3_joined_218
