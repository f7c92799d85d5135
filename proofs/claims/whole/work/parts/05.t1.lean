theorem tf_RX0_19 : Cond.fieldLink RX0 19 "ColouredHeap$Book" "count" "I" ∈ TB := tb_in 170 (by decide +kernel) rfl
theorem tf_RX0_15 : Cond.fieldLink RX0 15 "ColouredHeap$Book" "first" "I" ∈ TB := tb_in 169 (by decide +kernel) rfl
theorem tf_RX0_9 : Cond.fieldLink RX0 9 "ColouredHeap$Book" "parts" "[I" ∈ TB := tb_in 168 (by decide +kernel) rfl
theorem td_X0_part : yX0_part.cls ≠ "java/lang/invoke/MethodHandle" ∧ yX0_part.cls ≠ "java/lang/invoke/VarHandle" ∧ (parseMethodDescriptor yX0_part.desc).map (fun d => d.parameters.length) = some 2 := by decide +kernel
theorem tc_X0_part : Cond.code yX0_part cX0_part 4 (some .int) ∈ TB := tb_in 1110 (by decide +kernel) rfl
theorem tm_RX0_28 : Cond.methodLink RX0 28 yX0_part ∈ TB := tb_in 1251 (by decide +kernel) rfl
theorem ti_X0_part : Cond.instanceMethod yX0_part ∈ TB := tb_in 1108 (by decide +kernel) rfl
theorem ts_X0_part : Cond.selects RX0 yX0_part yX0_part ∈ TB := tb_in 1109 (by decide +kernel) rfl
theorem tn_RX0 : Cond.initialized RX0 ∈ TB := tb_in 131 (by decide +kernel) rfl
theorem tf_RX1_62 : Cond.fieldLink RX1 62 "ColouredHeap$Heap" "good" "I" ∈ TB := tb_in 217 (by decide +kernel) rfl
theorem tf_RX1_15 : Cond.fieldLink RX1 15 "ColouredHeap$Heap" "forwards" "[I" ∈ TB := tb_in 185 (by decide +kernel) rfl
theorem td_X9_isAddress : yX9_isAddress.cls ≠ "java/lang/invoke/MethodHandle" ∧ yX9_isAddress.cls ≠ "java/lang/invoke/VarHandle" ∧ (parseMethodDescriptor yX9_isAddress.desc).map (fun d => d.parameters.length) = some 1 := by decide +kernel
theorem tc_X9_isAddress : Cond.code yX9_isAddress cX9_isAddress 1 (some .boolean) ∈ TB := tb_in 861 (by decide +kernel) rfl
theorem tz_X9_isAddress : Cond.static yX9_isAddress ∈ TB := tb_in 860 (by decide +kernel) rfl
theorem tn_RX9 : Cond.initialized RX9 ∈ TB := tb_in 129 (by decide +kernel) rfl
theorem tf_RX1_9 : Cond.fieldLink RX1 9 "ColouredHeap$Heap" "words" "[I" ∈ TB := tb_in 183 (by decide +kernel) rfl
/-! ColouredHeap$Book.part(II)I -/
theorem dX0_part_0 : decode cX0_part 0 = .ok (.iload_n 1, 1) := by decide +kernel
theorem dX0_part_1 : decode cX0_part 1 = .ok (.ifCond .lt 20, 3) := by decide +kernel
theorem dX0_part_4 : decode cX0_part 4 = .ok (.iload_n 1, 1) := by decide +kernel
theorem dX0_part_5 : decode cX0_part 5 = .ok (.aload_n 0, 1) := by decide +kernel
theorem dX0_part_6 : decode cX0_part 6 = .ok (.getfield 19, 3) := by decide +kernel
theorem dX0_part_9 : decode cX0_part 9 = .ok (.if_icmp .ge 12, 3) := by decide +kernel
theorem dX0_part_12 : decode cX0_part 12 = .ok (.iload_n 2, 1) := by decide +kernel
theorem dX0_part_13 : decode cX0_part 13 = .ok (.ifCond .lt 8, 3) := by decide +kernel
theorem dX0_part_16 : decode cX0_part 16 = .ok (.iload_n 2, 1) := by decide +kernel
theorem dX0_part_17 : decode cX0_part 17 = .ok (.iconst 3, 1) := by decide +kernel
theorem dX0_part_18 : decode cX0_part 18 = .ok (.if_icmp .lt 6, 3) := by decide +kernel
theorem dX0_part_21 : decode cX0_part 21 = .ok (.bipush (-2), 2) := by decide +kernel
theorem dX0_part_23 : decode cX0_part 23 = .ok (.ireturn, 1) := by decide +kernel
theorem dX0_part_24 : decode cX0_part 24 = .ok (.aload_n 0, 1) := by decide +kernel
theorem dX0_part_25 : decode cX0_part 25 = .ok (.getfield 15, 3) := by decide +kernel
theorem dX0_part_28 : decode cX0_part 28 = .ok (.iload_n 1, 1) := by decide +kernel
theorem dX0_part_29 : decode cX0_part 29 = .ok (.iadd, 1) := by decide +kernel
theorem dX0_part_30 : decode cX0_part 30 = .ok (.bipush 25, 2) := by decide +kernel
theorem dX0_part_32 : decode cX0_part 32 = .ok (.irem, 1) := by decide +kernel
theorem dX0_part_33 : decode cX0_part 33 = .ok (.iconst 3, 1) := by decide +kernel
theorem dX0_part_34 : decode cX0_part 34 = .ok (.imul, 1) := by decide +kernel
theorem dX0_part_35 : decode cX0_part 35 = .ok (.iload_n 2, 1) := by decide +kernel
theorem dX0_part_36 : decode cX0_part 36 = .ok (.iadd, 1) := by decide +kernel
theorem dX0_part_37 : decode cX0_part 37 = .ok (.istore_n 3, 1) := by decide +kernel
theorem dX0_part_38 : decode cX0_part 38 = .ok (.iload_n 3, 1) := by decide +kernel
theorem dX0_part_39 : decode cX0_part 39 = .ok (.ifCond .lt 21, 3) := by decide +kernel
theorem dX0_part_42 : decode cX0_part 42 = .ok (.iload_n 3, 1) := by decide +kernel
theorem dX0_part_43 : decode cX0_part 43 = .ok (.aload_n 0, 1) := by decide +kernel
theorem dX0_part_44 : decode cX0_part 44 = .ok (.getfield 9, 3) := by decide +kernel
theorem dX0_part_47 : decode cX0_part 47 = .ok (.arraylength, 1) := by decide +kernel
theorem dX0_part_48 : decode cX0_part 48 = .ok (.if_icmp .ge 12, 3) := by decide +kernel
theorem dX0_part_51 : decode cX0_part 51 = .ok (.aload_n 0, 1) := by decide +kernel
theorem dX0_part_52 : decode cX0_part 52 = .ok (.getfield 9, 3) := by decide +kernel
theorem dX0_part_55 : decode cX0_part 55 = .ok (.iload_n 3, 1) := by decide +kernel
theorem dX0_part_56 : decode cX0_part 56 = .ok (.iaload, 1) := by decide +kernel
theorem dX0_part_57 : decode cX0_part 57 = .ok (.goto 5, 3) := by decide +kernel
theorem dX0_part_60 : decode cX0_part 60 = .ok (.bipush (-2), 2) := by decide +kernel
theorem dX0_part_62 : decode cX0_part 62 = .ok (.ireturn, 1) := by decide +kernel
def f_X0_part (o0 : Nat) (M : xm) (a1 : Int32) (a2 : Int32) : Option (Int32) := (if a1 < 0 then some (-2 : Int32) else (if (M o0 2) ≤ a1 then some (-2 : Int32) else (if a2 < 0 then some (-2 : Int32) else (if a2 < (3 : Int32) then xlet (((xrem ((M o0 1) + a1) (25 : Int32)) * (3 : Int32)) + a2) (fun v5 => (if v5 < 0 then some (-2 : Int32) else (if (75 : Int32) ≤ v5 then some (-2 : Int32) else if xin v5 75 = true then some (M (o0 + 1) (Int32.toNatClampNeg v5)) else none))) else some (-2 : Int32)))))
set_option maxHeartbeats 4000000 in
set_option maxRecDepth 20000 in
theorem c_X0_part (l : Launch) (E : xE) (b : Nat) {o0 : Nat} (L_o0 : lat o0 pBook) (M : xm) (a1 : Int32) (a2 : Int32) {r : Int32} (hf : f_X0_part o0 M a1 a2 = some r) :
    xMet l E b NX yX0_part cX0_part 4 (some .int) (xR 1) [.ref (b + o0), .int a1, .int a2] (cX E b M) (some (.int r)) True (cX E b M) := by
  refine xMet.ofW (own := RX0) (by decide) rfl (Nat.le_of_ble_eq_true rfl) ?_
  intro p e s m below meth c H locs ls C hm hl
  have hx := C.1.1
  have hb := C.1.2.1
  have hl : lv_has ls 4 [(0, .ref (b + o0)), (1, .int a1), (2, .int a2)] := hl
  unfold f_X0_part at hf
  refine lv_iload_n hx hb dX0_part_0 rfl (lv_at hl 1 rfl) ?_
  refine lv_if_lt (tgt := 21) hx hb dX0_part_1 (by decide) (fun hc1 => ?_) (fun hc1 => ?_)
  · have hf := xif_t hc1 hf
    refine lv_bipush (v := (-2 : Int32)) hx hb dX0_part_21 (by decide) ?_
    cases hf
    exact x_iret C hm trivial dX0_part_23
  have hf := xif_f hc1 hf
  refine lv_iload_n hx hb dX0_part_4 rfl (lv_at hl 1 rfl) ?_
  refine lv_aload_n hx hb dX0_part_5 rfl (lv_at hl 0 rfl) ?_
  refine x_get C hm inX0 rfl 2 (by decide) tf_RX0_19 (cx_Book (L_o0 0 _ rfl)) rfl dX0_part_6 ?_
  refine lv_icmp_ge (tgt := 21) hx hb dX0_part_9 (by decide) (fun hc2 => ?_) (fun hc2 => ?_)
  · have hf := xif_t hc2 hf
    refine lv_bipush (v := (-2 : Int32)) hx hb dX0_part_21 (by decide) ?_
    cases hf
    exact x_iret C hm trivial dX0_part_23
  have hf := xif_f hc2 hf
  refine lv_iload_n hx hb dX0_part_12 rfl (lv_at hl 2 rfl) ?_
  refine lv_if_lt (tgt := 21) hx hb dX0_part_13 (by decide) (fun hc3 => ?_) (fun hc3 => ?_)
  · have hf := xif_t hc3 hf
    refine lv_bipush (v := (-2 : Int32)) hx hb dX0_part_21 (by decide) ?_
    cases hf
    exact x_iret C hm trivial dX0_part_23
  have hf := xif_f hc3 hf
  refine lv_iload_n hx hb dX0_part_16 rfl (lv_at hl 2 rfl) ?_
  refine lv_iconst (v := (3 : Int32)) hx hb dX0_part_17 (by decide) ?_
  refine lv_icmp_lt (tgt := 24) hx hb dX0_part_18 (by decide) (fun hc4 => ?_) (fun hc4 => ?_)
  rotate_left
  · have hf := xif_f hc4 hf
    refine lv_bipush (v := (-2 : Int32)) hx hb dX0_part_21 (by decide) ?_
    cases hf
    exact x_iret C hm trivial dX0_part_23
  have hf := xif_t hc4 hf
  refine lv_aload_n hx hb dX0_part_24 rfl (lv_at hl 0 rfl) ?_
  refine x_get C hm inX0 rfl 1 (by decide) tf_RX0_15 (cx_Book (L_o0 0 _ rfl)) rfl dX0_part_25 ?_
  refine lv_iload_n hx hb dX0_part_28 rfl (lv_at hl 1 rfl) ?_
  refine lv_iadd hx hb dX0_part_29 ?_
  refine lv_bipush (v := (25 : Int32)) hx hb dX0_part_30 (by decide) ?_
  refine lv_irem hx hb dX0_part_32 (by decide) ?_
  refine lv_iconst (v := (3 : Int32)) hx hb dX0_part_33 (by decide) ?_
  refine lv_imul hx hb dX0_part_34 ?_
  refine lv_iload_n hx hb dX0_part_35 rfl (lv_at hl 2 rfl) ?_
  refine lv_iadd hx hb dX0_part_36 ?_
  refine lv_topi (fun v5 ev5 => ?_)
  have hf := xlet_e ev5 hf
  refine lv_istore_n (lv' := [(3, .int v5), (0, .ref (b + o0)), (1, .int a1), (2, .int a2)]) hx hb dX0_part_37 rfl hl (by decide) rfl (fun ls hl => ?_)
  refine lv_iload_n hx hb dX0_part_38 rfl (lv_at hl 0 rfl) ?_
  refine lv_if_lt (tgt := 60) hx hb dX0_part_39 (by decide) (fun hc6 => ?_) (fun hc6 => ?_)
  · have hf := xif_t hc6 hf
    refine lv_bipush (v := (-2 : Int32)) hx hb dX0_part_60 (by decide) ?_
    cases hf
    exact x_iret C hm trivial dX0_part_62
  have hf := xif_f hc6 hf
  refine lv_iload_n hx hb dX0_part_42 rfl (lv_at hl 0 rfl) ?_
  refine lv_aload_n hx hb dX0_part_43 rfl (lv_at hl 1 rfl) ?_
  refine x_get C hm inX0 rfl 0 (by decide) tf_RX0_9 (cx_Book (L_o0 0 _ rfl)) rfl dX0_part_44 ?_
  refine x_alen (v := (75 : Int32)) C hm (cx_I (L_o0 1 _ rfl)) (by decide) dX0_part_47 ?_
  refine lv_icmp_ge (tgt := 60) hx hb dX0_part_48 (by decide) (fun hc7 => ?_) (fun hc7 => ?_)
  · have hf := xif_t hc7 hf
    refine lv_bipush (v := (-2 : Int32)) hx hb dX0_part_60 (by decide) ?_
    cases hf
    exact x_iret C hm trivial dX0_part_62
  have hf := xif_f hc7 hf
  refine lv_aload_n hx hb dX0_part_51 rfl (lv_at hl 1 rfl) ?_
  refine x_get C hm inX0 rfl 0 (by decide) tf_RX0_9 (cx_Book (L_o0 0 _ rfl)) rfl dX0_part_52 ?_
  refine lv_iload_n hx hb dX0_part_55 rfl (lv_at hl 0 rfl) ?_
  obtain ⟨hi8, hf⟩ := xif_s hf
  refine x_iald C hm (cx_I (L_o0 1 _ rfl)) hi8 dX0_part_56 rfl ?_
  refine lv_goto (tgt := 62) hx hb dX0_part_57 (by decide) ?_
  cases hf
  exact x_iret C hm trivial dX0_part_62
/-! ColouredHeap$Book.linesOf(I)I -/
theorem dX0_linesOf_0 : decode cX0_linesOf 0 = .ok (.iconst 0, 1) := by decide +kernel
theorem dX0_linesOf_1 : decode cX0_linesOf 1 = .ok (.istore_n 2, 1) := by decide +kernel
theorem dX0_linesOf_2 : decode cX0_linesOf 2 = .ok (.iconst 0, 1) := by decide +kernel
theorem dX0_linesOf_3 : decode cX0_linesOf 3 = .ok (.istore_n 3, 1) := by decide +kernel
theorem dX0_linesOf_4 : decode cX0_linesOf 4 = .ok (.iload_n 3, 1) := by decide +kernel
theorem dX0_linesOf_5 : decode cX0_linesOf 5 = .ok (.aload_n 0, 1) := by decide +kernel
theorem dX0_linesOf_6 : decode cX0_linesOf 6 = .ok (.getfield 19, 3) := by decide +kernel
theorem dX0_linesOf_9 : decode cX0_linesOf 9 = .ok (.if_icmp .ge 22, 3) := by decide +kernel
theorem dX0_linesOf_12 : decode cX0_linesOf 12 = .ok (.aload_n 0, 1) := by decide +kernel
theorem dX0_linesOf_13 : decode cX0_linesOf 13 = .ok (.iload_n 3, 1) := by decide +kernel
theorem dX0_linesOf_14 : decode cX0_linesOf 14 = .ok (.iconst 1, 1) := by decide +kernel
theorem dX0_linesOf_15 : decode cX0_linesOf 15 = .ok (.invokevirtual 28, 3) := by decide +kernel
theorem dX0_linesOf_18 : decode cX0_linesOf 18 = .ok (.iload_n 1, 1) := by decide +kernel
theorem dX0_linesOf_19 : decode cX0_linesOf 19 = .ok (.if_icmp .ne 6, 3) := by decide +kernel
theorem dX0_linesOf_22 : decode cX0_linesOf 22 = .ok (.iinc 2 1, 3) := by decide +kernel
theorem dX0_linesOf_25 : decode cX0_linesOf 25 = .ok (.iinc 3 1, 3) := by decide +kernel
theorem dX0_linesOf_28 : decode cX0_linesOf 28 = .ok (.goto (-24), 3) := by decide +kernel
theorem dX0_linesOf_31 : decode cX0_linesOf 31 = .ok (.iload_n 2, 1) := by decide +kernel
theorem dX0_linesOf_32 : decode cX0_linesOf 32 = .ok (.ireturn, 1) := by decide +kernel
def g_X0_linesOf_4 (o1 : Nat) (M : xm) (x2 : Int32) : Nat → Int32 → Int32 → Option ((Int32))
  | 0, _, _ => none
  | n + 1, x3, x4 => (if (M o1 2) ≤ x4 then some (x3) else xb1 (f_X0_part o1 M x4 (1 : Int32)) (fun v7 => (if v7 = x2 then xlet (x3 + (1 : Int32)) (fun v12 => xlet (x4 + (1 : Int32)) (fun v13 => g_X0_linesOf_4 o1 M x2 n v12 v13)) else xlet (x4 + (1 : Int32)) (fun v11 => g_X0_linesOf_4 o1 M x2 n x3 v11))))
def f_X0_linesOf (o0 : Nat) (M : xm) (a1 : Int32) : Option (Int32) := xb1 (g_X0_linesOf_4 o0 M a1 xfuel (0 : Int32) (0 : Int32)) (fun v14 => some v14)
set_option maxHeartbeats 4000000 in
set_option maxRecDepth 20000 in
theorem j_X0_linesOf_4 {p : Program} {l : Launch} {e : Env} {s : State} {m : MethodId} {args : Array Value} {below : List Frame} {meth : Method} {c : Code} {Q : State → Prop} {E : xE} {b : Nat} (C : xC p s m args meth c cX0_linesOf 4 RX0 (some .int) E) {o1 : Nat} (L_o1 : lat o1 pBook) (M : xm) (x2 : Int32) {y5 : Int32}
    (kx0 : ∀ (H : Heap) (locs : List Loc) (ls : Array Slot), xM E b NX (cX E b M) s.heap H locs → lv_has ls 4 [(2, .int y5)] → W p l e (xR 2) s m args below meth c H locs 0 0 Q (F0 m 31 ls [])) :
    ∀ (n : Nat) (x3 : Int32) (x4 : Int32) (H : Heap) (locs : List Loc) (ls : Array Slot), g_X0_linesOf_4 o1 M x2 n x3 x4 = some y5 → xM E b NX (cX E b M) s.heap H locs → lv_has ls 4 [(0, .ref (b + o1)), (1, .int x2), (2, .int x3), (3, .int x4)] → W p l e (xR 2) s m args below meth c H locs 0 0 Q (F0 m 4 ls []) := by
  have hx := C.1.1
  have hb := C.1.2.1
  intro n
  induction n with
  | zero =>
    intro x3 x4 H locs ls hf hm hl
    rw [g_X0_linesOf_4] at hf
    cases hf
  | succ n ih =>
    intro x3 x4 H locs ls hf hm hl
    rw [g_X0_linesOf_4] at hf
    refine lv_iload_n hx hb dX0_linesOf_4 rfl (lv_at hl 3 rfl) ?_
    refine lv_aload_n hx hb dX0_linesOf_5 rfl (lv_at hl 0 rfl) ?_
    refine x_get C hm inX0 rfl 2 (by decide) tf_RX0_19 (cx_Book (L_o1 0 _ rfl)) rfl dX0_linesOf_6 ?_
    refine lv_icmp_ge (tgt := 31) hx hb dX0_linesOf_9 (by decide) (fun hc6 => ?_) (fun hc6 => ?_)
    · have hf := xif_t hc6 hf
      cases hf
      exact kx0 H locs ls hm (lv_sub hl [2] rfl)
    have hf := xif_f hc6 hf
    refine lv_aload_n hx hb dX0_linesOf_12 rfl (lv_at hl 0 rfl) ?_
    refine lv_iload_n hx hb dX0_linesOf_13 rfl (lv_at hl 3 rfl) ?_
    refine lv_iconst (v := (1 : Int32)) hx hb dX0_linesOf_14 (by decide) ?_
    obtain ⟨v7, hq8, hf⟩ := xb1_e hf
    refine x_callVi (As := [.int x4, .int (1 : Int32)]) (rest := []) C hm (c_X0_part l E b L_o1 M x4 (1 : Int32) hq8) rfl (cx_Book (L_o1 0 _ rfl)) tc_X0_part tm_RX0_28 ti_X0_part ts_X0_part tn_RX0 td_X0_part rfl rfl ⟨Nat.le_of_ble_eq_true rfl, Nat.le_of_ble_eq_true rfl⟩ rfl hl.1 rfl (Nat.le_of_ble_eq_true rfl) dX0_linesOf_15 (fun H locs hP9 hm => ?_)
    refine lv_iload_n hx hb dX0_linesOf_18 rfl (lv_at hl 1 rfl) ?_
    refine lv_icmp_ne (tgt := 25) hx hb dX0_linesOf_19 (by decide) (fun hc10 => ?_) (fun hc10 => ?_)
    · have hf := xif_f hc10 hf
      obtain ⟨v11, ev11, hf⟩ := xlet_x hf
      refine lv_iinc (v := v11) (lv' := [(3, .int v11), (0, .ref (b + o1)), (1, .int x2), (2, .int x3)]) hx hb dX0_linesOf_25 hl (k := 3) rfl (by rw [ev11]; rfl) (by decide) rfl (fun ls hl => ?_)
      refine lv_goto (tgt := 4) hx hb dX0_linesOf_28 (by decide) ?_
      exact ih x3 v11 H locs ls hf hm (lv_sub hl [1, 2, 3, 0] rfl)
    have hf := xif_t hc10 hf
    obtain ⟨v12, ev12, hf⟩ := xlet_x hf
    refine lv_iinc (v := v12) (lv' := [(2, .int v12), (0, .ref (b + o1)), (1, .int x2), (3, .int x4)]) hx hb dX0_linesOf_22 hl (k := 2) rfl (by rw [ev12]; rfl) (by decide) rfl (fun ls hl => ?_)
    obtain ⟨v13, ev13, hf⟩ := xlet_x hf
    refine lv_iinc (v := v13) (lv' := [(3, .int v13), (2, .int v12), (0, .ref (b + o1)), (1, .int x2)]) hx hb dX0_linesOf_25 hl (k := 3) rfl (by rw [ev13]; rfl) (by decide) rfl (fun ls hl => ?_)
    refine lv_goto (tgt := 4) hx hb dX0_linesOf_28 (by decide) ?_
    exact ih v12 v13 H locs ls hf hm (lv_sub hl [2, 3, 1, 0] rfl)
set_option maxHeartbeats 4000000 in
set_option maxRecDepth 20000 in
theorem c_X0_linesOf (l : Launch) (E : xE) (b : Nat) {o0 : Nat} (L_o0 : lat o0 pBook) (M : xm) (a1 : Int32) {r : Int32} (hf : f_X0_linesOf o0 M a1 = some r) :
    xMet l E b NX yX0_linesOf cX0_linesOf 4 (some .int) (xR 2) [.ref (b + o0), .int a1] (cX E b M) (some (.int r)) True (cX E b M) := by
  refine xMet.ofW (own := RX0) (by decide) rfl (Nat.le_of_ble_eq_true rfl) ?_
  intro p e s m below meth c H locs ls C hm hl
  have hx := C.1.1
  have hb := C.1.2.1
  have hl : lv_has ls 4 [(0, .ref (b + o0)), (1, .int a1)] := hl
  unfold f_X0_linesOf at hf
  refine lv_iconst (v := (0 : Int32)) hx hb dX0_linesOf_0 (by decide) ?_
  refine lv_istore_n (lv' := [(2, .int (0 : Int32)), (0, .ref (b + o0)), (1, .int a1)]) hx hb dX0_linesOf_1 rfl hl (by decide) rfl (fun ls hl => ?_)
  refine lv_iconst (v := (0 : Int32)) hx hb dX0_linesOf_2 (by decide) ?_
  refine lv_istore_n (lv' := [(3, .int (0 : Int32)), (2, .int (0 : Int32)), (0, .ref (b + o0)), (1, .int a1)]) hx hb dX0_linesOf_3 rfl hl (by decide) rfl (fun ls hl => ?_)
  obtain ⟨v14, hq, hf⟩ := xb1_e hf
  refine j_X0_linesOf_4 C L_o0 M a1 (fun H locs ls hm hl => ?_) xfuel (0 : Int32) (0 : Int32) H locs ls hq hm (lv_sub hl [2, 3, 1, 0] rfl)
  refine lv_iload_n hx hb dX0_linesOf_31 rfl (lv_at hl 0 rfl) ?_
  cases hf
  exact x_iret C hm trivial dX0_linesOf_32
/-! ColouredHeap$Book.write(III)V -/
theorem dX0_write_0 : decode cX0_write 0 = .ok (.aload_n 0, 1) := by decide +kernel
theorem dX0_write_1 : decode cX0_write 1 = .ok (.getfield 15, 3) := by decide +kernel
theorem dX0_write_4 : decode cX0_write 4 = .ok (.aload_n 0, 1) := by decide +kernel
theorem dX0_write_5 : decode cX0_write 5 = .ok (.getfield 19, 3) := by decide +kernel
theorem dX0_write_8 : decode cX0_write 8 = .ok (.iadd, 1) := by decide +kernel
theorem dX0_write_9 : decode cX0_write 9 = .ok (.bipush 25, 2) := by decide +kernel
theorem dX0_write_11 : decode cX0_write 11 = .ok (.irem, 1) := by decide +kernel
theorem dX0_write_12 : decode cX0_write 12 = .ok (.iconst 3, 1) := by decide +kernel
theorem dX0_write_13 : decode cX0_write 13 = .ok (.imul, 1) := by decide +kernel
theorem dX0_write_14 : decode cX0_write 14 = .ok (.istore 4, 2) := by decide +kernel
theorem dX0_write_16 : decode cX0_write 16 = .ok (.iload 4, 2) := by decide +kernel
theorem dX0_write_18 : decode cX0_write 18 = .ok (.ifCond .lt 15, 3) := by decide +kernel
theorem dX0_write_21 : decode cX0_write 21 = .ok (.iload 4, 2) := by decide +kernel
theorem dX0_write_23 : decode cX0_write 23 = .ok (.iconst 2, 1) := by decide +kernel
theorem dX0_write_24 : decode cX0_write 24 = .ok (.iadd, 1) := by decide +kernel
theorem dX0_write_25 : decode cX0_write 25 = .ok (.aload_n 0, 1) := by decide +kernel
theorem dX0_write_26 : decode cX0_write 26 = .ok (.getfield 9, 3) := by decide +kernel
theorem dX0_write_29 : decode cX0_write 29 = .ok (.arraylength, 1) := by decide +kernel
theorem dX0_write_30 : decode cX0_write 30 = .ok (.if_icmp .lt 4, 3) := by decide +kernel
theorem dX0_write_33 : decode cX0_write 33 = .ok (.return_, 1) := by decide +kernel
theorem dX0_write_34 : decode cX0_write 34 = .ok (.aload_n 0, 1) := by decide +kernel
theorem dX0_write_35 : decode cX0_write 35 = .ok (.getfield 9, 3) := by decide +kernel
theorem dX0_write_38 : decode cX0_write 38 = .ok (.iload 4, 2) := by decide +kernel
theorem dX0_write_40 : decode cX0_write 40 = .ok (.iload_n 1, 1) := by decide +kernel
theorem dX0_write_41 : decode cX0_write 41 = .ok (.iastore, 1) := by decide +kernel
theorem dX0_write_42 : decode cX0_write 42 = .ok (.aload_n 0, 1) := by decide +kernel
theorem dX0_write_43 : decode cX0_write 43 = .ok (.getfield 9, 3) := by decide +kernel
theorem dX0_write_46 : decode cX0_write 46 = .ok (.iload 4, 2) := by decide +kernel
theorem dX0_write_48 : decode cX0_write 48 = .ok (.iconst 1, 1) := by decide +kernel
theorem dX0_write_49 : decode cX0_write 49 = .ok (.iadd, 1) := by decide +kernel
theorem dX0_write_50 : decode cX0_write 50 = .ok (.iload_n 2, 1) := by decide +kernel
theorem dX0_write_51 : decode cX0_write 51 = .ok (.iastore, 1) := by decide +kernel
theorem dX0_write_52 : decode cX0_write 52 = .ok (.aload_n 0, 1) := by decide +kernel
theorem dX0_write_53 : decode cX0_write 53 = .ok (.getfield 9, 3) := by decide +kernel
theorem dX0_write_56 : decode cX0_write 56 = .ok (.iload 4, 2) := by decide +kernel
theorem dX0_write_58 : decode cX0_write 58 = .ok (.iconst 2, 1) := by decide +kernel
theorem dX0_write_59 : decode cX0_write 59 = .ok (.iadd, 1) := by decide +kernel
theorem dX0_write_60 : decode cX0_write 60 = .ok (.iload_n 3, 1) := by decide +kernel
theorem dX0_write_61 : decode cX0_write 61 = .ok (.iastore, 1) := by decide +kernel
theorem dX0_write_62 : decode cX0_write 62 = .ok (.aload_n 0, 1) := by decide +kernel
theorem dX0_write_63 : decode cX0_write 63 = .ok (.getfield 19, 3) := by decide +kernel
theorem dX0_write_66 : decode cX0_write 66 = .ok (.bipush 25, 2) := by decide +kernel
theorem dX0_write_68 : decode cX0_write 68 = .ok (.if_icmp .ge 16, 3) := by decide +kernel
theorem dX0_write_71 : decode cX0_write 71 = .ok (.aload_n 0, 1) := by decide +kernel
theorem dX0_write_72 : decode cX0_write 72 = .ok (.dup, 1) := by decide +kernel
theorem dX0_write_73 : decode cX0_write 73 = .ok (.getfield 19, 3) := by decide +kernel
theorem dX0_write_76 : decode cX0_write 76 = .ok (.iconst 1, 1) := by decide +kernel
theorem dX0_write_77 : decode cX0_write 77 = .ok (.iadd, 1) := by decide +kernel
theorem dX0_write_78 : decode cX0_write 78 = .ok (.putfield 19, 3) := by decide +kernel
theorem dX0_write_81 : decode cX0_write 81 = .ok (.goto 16, 3) := by decide +kernel
theorem dX0_write_84 : decode cX0_write 84 = .ok (.aload_n 0, 1) := by decide +kernel
theorem dX0_write_85 : decode cX0_write 85 = .ok (.aload_n 0, 1) := by decide +kernel
theorem dX0_write_86 : decode cX0_write 86 = .ok (.getfield 15, 3) := by decide +kernel
theorem dX0_write_89 : decode cX0_write 89 = .ok (.iconst 1, 1) := by decide +kernel
theorem dX0_write_90 : decode cX0_write 90 = .ok (.iadd, 1) := by decide +kernel
theorem dX0_write_91 : decode cX0_write 91 = .ok (.bipush 25, 2) := by decide +kernel
theorem dX0_write_93 : decode cX0_write 93 = .ok (.irem, 1) := by decide +kernel
theorem dX0_write_94 : decode cX0_write 94 = .ok (.putfield 15, 3) := by decide +kernel
theorem dX0_write_97 : decode cX0_write 97 = .ok (.return_, 1) := by decide +kernel
def f_X0_write (o0 : Nat) (M : xm) (a1 : Int32) (a2 : Int32) (a3 : Int32) : Option (xm) := xlet ((xrem ((M o0 1) + (M o0 2)) (25 : Int32)) * (3 : Int32)) (fun v1 => (if v1 < 0 then some M else (if (v1 + (2 : Int32)) < (75 : Int32) then if xin v1 75 = true then xlet (up2 M (o0 + 1) (Int32.toNatClampNeg v1) a1) (fun M5 => if xin (v1 + (1 : Int32)) 75 = true then xlet (up2 M5 (o0 + 1) (Int32.toNatClampNeg (v1 + (1 : Int32))) a2) (fun M7 => if xin (v1 + (2 : Int32)) 75 = true then xlet (up2 M7 (o0 + 1) (Int32.toNatClampNeg (v1 + (2 : Int32))) a3) (fun M9 => (if (25 : Int32) ≤ (M9 o0 2) then xlet (up2 M9 o0 1 (xrem ((M9 o0 1) + (1 : Int32)) (25 : Int32))) (fun M11 => some M11) else xlet (up2 M9 o0 2 ((M9 o0 2) + (1 : Int32))) (fun M12 => some M12))) else none) else none) else none else some M)))
set_option maxHeartbeats 4000000 in
set_option maxRecDepth 20000 in
theorem c_X0_write (l : Launch) (E : xE) (b : Nat) {o0 : Nat} (L_o0 : lat o0 pBook) (M : xm) (a1 : Int32) (a2 : Int32) (a3 : Int32) {M' : xm} (hf : f_X0_write o0 M a1 a2 a3 = some M') :
    xMet l E b NX yX0_write cX0_write 5 none (xR 1) [.ref (b + o0), .int a1, .int a2, .int a3] (cX E b M) none True (cX E b M') := by
  refine xMet.ofW (own := RX0) (by decide) rfl (Nat.le_of_ble_eq_true rfl) ?_
  intro p e s m below meth c H locs ls C hm hl
  have hx := C.1.1
  have hb := C.1.2.1
  have hl : lv_has ls 5 [(0, .ref (b + o0)), (1, .int a1), (2, .int a2), (3, .int a3)] := hl
  unfold f_X0_write at hf
  refine lv_aload_n hx hb dX0_write_0 rfl (lv_at hl 0 rfl) ?_
  refine x_get C hm inX0 rfl 1 (by decide) tf_RX0_15 (cx_Book (L_o0 0 _ rfl)) rfl dX0_write_1 ?_
  refine lv_aload_n hx hb dX0_write_4 rfl (lv_at hl 0 rfl) ?_
  refine x_get C hm inX0 rfl 2 (by decide) tf_RX0_19 (cx_Book (L_o0 0 _ rfl)) rfl dX0_write_5 ?_
  refine lv_iadd hx hb dX0_write_8 ?_
  refine lv_bipush (v := (25 : Int32)) hx hb dX0_write_9 (by decide) ?_
  refine lv_irem hx hb dX0_write_11 (by decide) ?_
  refine lv_iconst (v := (3 : Int32)) hx hb dX0_write_12 (by decide) ?_
  refine lv_imul hx hb dX0_write_13 ?_
  refine lv_topi (fun v1 ev1 => ?_)
  have hf := xlet_e ev1 hf
  refine lv_istore (lv' := [(4, .int v1), (0, .ref (b + o0)), (1, .int a1), (2, .int a2), (3, .int a3)]) hx hb dX0_write_14 hl (by decide) rfl (fun ls hl => ?_)
  refine lv_iload hx hb dX0_write_16 (lv_at hl 0 rfl) ?_
  refine lv_if_lt (tgt := 33) hx hb dX0_write_18 (by decide) (fun hc2 => ?_) (fun hc2 => ?_)
  · have hf := xif_t hc2 hf
    cases hf
    exact x_vret C hm trivial dX0_write_33
  have hf := xif_f hc2 hf
  refine lv_iload hx hb dX0_write_21 (lv_at hl 0 rfl) ?_
  refine lv_iconst (v := (2 : Int32)) hx hb dX0_write_23 (by decide) ?_
  refine lv_iadd hx hb dX0_write_24 ?_
  refine lv_aload_n hx hb dX0_write_25 rfl (lv_at hl 1 rfl) ?_
  refine x_get C hm inX0 rfl 0 (by decide) tf_RX0_9 (cx_Book (L_o0 0 _ rfl)) rfl dX0_write_26 ?_
  refine x_alen (v := (75 : Int32)) C hm (cx_I (L_o0 1 _ rfl)) (by decide) dX0_write_29 ?_
  refine lv_icmp_lt (tgt := 34) hx hb dX0_write_30 (by decide) (fun hc3 => ?_) (fun hc3 => ?_)
  rotate_left
  · have hf := xif_f hc3 hf
    cases hf
    exact x_vret C hm trivial dX0_write_33
  have hf := xif_t hc3 hf
  refine lv_aload_n hx hb dX0_write_34 rfl (lv_at hl 1 rfl) ?_
  refine x_get C hm inX0 rfl 0 (by decide) tf_RX0_9 (cx_Book (L_o0 0 _ rfl)) rfl dX0_write_35 ?_
  refine lv_iload hx hb dX0_write_38 (lv_at hl 0 rfl) ?_
  refine lv_iload_n hx hb dX0_write_40 rfl (lv_at hl 2 rfl) ?_
  obtain ⟨hi4, hf⟩ := xif_s hf
  obtain ⟨M5, eM5, hf⟩ := xlet_x hf
  refine x_iast (cf' := cX E b M5) C hm (cx_I (L_o0 1 _ rfl)) hi4 dX0_write_41 rfl (by rw [eM5]; exact cu_I (L_o0 1 _ rfl)) (by rw [eM5]; exact cX_o) (fun H locs hm => ?_)
  refine lv_aload_n hx hb dX0_write_42 rfl (lv_at hl 1 rfl) ?_
  refine x_get C hm inX0 rfl 0 (by decide) tf_RX0_9 (cx_Book (L_o0 0 _ rfl)) rfl dX0_write_43 ?_
  refine lv_iload hx hb dX0_write_46 (lv_at hl 0 rfl) ?_
  refine lv_iconst (v := (1 : Int32)) hx hb dX0_write_48 (by decide) ?_
  refine lv_iadd hx hb dX0_write_49 ?_
  refine lv_iload_n hx hb dX0_write_50 rfl (lv_at hl 3 rfl) ?_
  obtain ⟨hi6, hf⟩ := xif_s hf
  obtain ⟨M7, eM7, hf⟩ := xlet_x hf
  refine x_iast (cf' := cX E b M7) C hm (cx_I (L_o0 1 _ rfl)) hi6 dX0_write_51 rfl (by rw [eM7]; exact cu_I (L_o0 1 _ rfl)) (by rw [eM7]; exact cX_o) (fun H locs hm => ?_)
  refine lv_aload_n hx hb dX0_write_52 rfl (lv_at hl 1 rfl) ?_
  refine x_get C hm inX0 rfl 0 (by decide) tf_RX0_9 (cx_Book (L_o0 0 _ rfl)) rfl dX0_write_53 ?_
  refine lv_iload hx hb dX0_write_56 (lv_at hl 0 rfl) ?_
  refine lv_iconst (v := (2 : Int32)) hx hb dX0_write_58 (by decide) ?_
  refine lv_iadd hx hb dX0_write_59 ?_
  refine lv_iload_n hx hb dX0_write_60 rfl (lv_at hl 4 rfl) ?_
  obtain ⟨hi8, hf⟩ := xif_s hf
  obtain ⟨M9, eM9, hf⟩ := xlet_x hf
  refine x_iast (cf' := cX E b M9) C hm (cx_I (L_o0 1 _ rfl)) hi8 dX0_write_61 rfl (by rw [eM9]; exact cu_I (L_o0 1 _ rfl)) (by rw [eM9]; exact cX_o) (fun H locs hm => ?_)
  refine lv_aload_n hx hb dX0_write_62 rfl (lv_at hl 1 rfl) ?_
  refine x_get C hm inX0 rfl 2 (by decide) tf_RX0_19 (cx_Book (L_o0 0 _ rfl)) rfl dX0_write_63 ?_
  refine lv_bipush (v := (25 : Int32)) hx hb dX0_write_66 (by decide) ?_
  refine lv_icmp_ge (tgt := 84) hx hb dX0_write_68 (by decide) (fun hc10 => ?_) (fun hc10 => ?_)
  rotate_left
  · have hf := xif_f hc10 hf
    refine lv_aload_n hx hb dX0_write_71 rfl (lv_at hl 1 rfl) ?_
    refine lv_dup hx hb dX0_write_72 rfl ?_
    refine x_get C hm inX0 rfl 2 (by decide) tf_RX0_19 (cx_Book (L_o0 0 _ rfl)) rfl dX0_write_73 ?_
    refine lv_iconst (v := (1 : Int32)) hx hb dX0_write_76 (by decide) ?_
    refine lv_iadd hx hb dX0_write_77 ?_
    obtain ⟨M12, eM12, hf⟩ := xlet_x hf
    refine x_put (cf' := cX E b M12) C hm inX0 tyX0 tyX0_ok nmX0 rfl 2 (by decide) tf_RX0_19 rfl rfl rfl (cx_Book (L_o0 0 _ rfl)) (Nat.le_of_ble_eq_true rfl) (by rw [eM12]; exact cu_Book_2 (L_o0 0 _ rfl)) (by rw [eM12]; exact cX_o) dX0_write_78 (fun H locs hm => ?_)
    refine lv_goto (tgt := 97) hx hb dX0_write_81 (by decide) ?_
    cases hf
    exact x_vret C hm trivial dX0_write_97
  have hf := xif_t hc10 hf
  refine lv_aload_n hx hb dX0_write_84 rfl (lv_at hl 1 rfl) ?_
  refine lv_aload_n hx hb dX0_write_85 rfl (lv_at hl 1 rfl) ?_
  refine x_get C hm inX0 rfl 1 (by decide) tf_RX0_15 (cx_Book (L_o0 0 _ rfl)) rfl dX0_write_86 ?_
  refine lv_iconst (v := (1 : Int32)) hx hb dX0_write_89 (by decide) ?_
  refine lv_iadd hx hb dX0_write_90 ?_
  refine lv_bipush (v := (25 : Int32)) hx hb dX0_write_91 (by decide) ?_
  refine lv_irem hx hb dX0_write_93 (by decide) ?_
  obtain ⟨M11, eM11, hf⟩ := xlet_x hf
  refine x_put (cf' := cX E b M11) C hm inX0 tyX0 tyX0_ok nmX0 rfl 1 (by decide) tf_RX0_15 rfl rfl rfl (cx_Book (L_o0 0 _ rfl)) (Nat.le_of_ble_eq_true rfl) (by rw [eM11]; exact cu_Book_1 (L_o0 0 _ rfl)) (by rw [eM11]; exact cX_o) dX0_write_94 (fun H locs hm => ?_)
  cases hf
  exact x_vret C hm trivial dX0_write_97
/-! ColouredHeap$Heap.leadsTo(I)I -/
theorem dX1_leadsTo_0 : decode cX1_leadsTo 0 = .ok (.iload_n 1, 1) := by decide +kernel
theorem dX1_leadsTo_1 : decode cX1_leadsTo 1 = .ok (.ifCond .lt 10, 3) := by decide +kernel
theorem dX1_leadsTo_4 : decode cX1_leadsTo 4 = .ok (.iload_n 1, 1) := by decide +kernel
theorem dX1_leadsTo_5 : decode cX1_leadsTo 5 = .ok (.sipush 192, 3) := by decide +kernel
theorem dX1_leadsTo_8 : decode cX1_leadsTo 8 = .ok (.if_icmp .lt 5, 3) := by decide +kernel
theorem dX1_leadsTo_11 : decode cX1_leadsTo 11 = .ok (.iconst (-1), 1) := by decide +kernel
theorem dX1_leadsTo_12 : decode cX1_leadsTo 12 = .ok (.ireturn, 1) := by decide +kernel
theorem dX1_leadsTo_13 : decode cX1_leadsTo 13 = .ok (.iload_n 1, 1) := by decide +kernel
theorem dX1_leadsTo_14 : decode cX1_leadsTo 14 = .ok (.bipush 64, 2) := by decide +kernel
theorem dX1_leadsTo_16 : decode cX1_leadsTo 16 = .ok (.idiv, 1) := by decide +kernel
theorem dX1_leadsTo_17 : decode cX1_leadsTo 17 = .ok (.istore_n 2, 1) := by decide +kernel
theorem dX1_leadsTo_18 : decode cX1_leadsTo 18 = .ok (.iload_n 1, 1) := by decide +kernel
theorem dX1_leadsTo_19 : decode cX1_leadsTo 19 = .ok (.bipush 64, 2) := by decide +kernel
theorem dX1_leadsTo_21 : decode cX1_leadsTo 21 = .ok (.irem, 1) := by decide +kernel
theorem dX1_leadsTo_22 : decode cX1_leadsTo 22 = .ok (.istore_n 3, 1) := by decide +kernel
theorem dX1_leadsTo_23 : decode cX1_leadsTo 23 = .ok (.iload_n 2, 1) := by decide +kernel
theorem dX1_leadsTo_24 : decode cX1_leadsTo 24 = .ok (.aload_n 0, 1) := by decide +kernel
theorem dX1_leadsTo_25 : decode cX1_leadsTo 25 = .ok (.getfield 62, 3) := by decide +kernel
theorem dX1_leadsTo_28 : decode cX1_leadsTo 28 = .ok (.if_icmp .eq 18, 3) := by decide +kernel
theorem dX1_leadsTo_31 : decode cX1_leadsTo 31 = .ok (.iload_n 2, 1) := by decide +kernel
theorem dX1_leadsTo_32 : decode cX1_leadsTo 32 = .ok (.iconst 2, 1) := by decide +kernel
theorem dX1_leadsTo_33 : decode cX1_leadsTo 33 = .ok (.if_icmp .eq 13, 3) := by decide +kernel
theorem dX1_leadsTo_36 : decode cX1_leadsTo 36 = .ok (.aload_n 0, 1) := by decide +kernel
theorem dX1_leadsTo_37 : decode cX1_leadsTo 37 = .ok (.getfield 15, 3) := by decide +kernel
theorem dX1_leadsTo_40 : decode cX1_leadsTo 40 = .ok (.iload_n 3, 1) := by decide +kernel
theorem dX1_leadsTo_41 : decode cX1_leadsTo 41 = .ok (.iaload, 1) := by decide +kernel
theorem dX1_leadsTo_42 : decode cX1_leadsTo 42 = .ok (.iconst (-1), 1) := by decide +kernel
theorem dX1_leadsTo_43 : decode cX1_leadsTo 43 = .ok (.if_icmp .ne 7, 3) := by decide +kernel
theorem dX1_leadsTo_46 : decode cX1_leadsTo 46 = .ok (.iconst 1, 1) := by decide +kernel
theorem dX1_leadsTo_47 : decode cX1_leadsTo 47 = .ok (.goto 4, 3) := by decide +kernel
theorem dX1_leadsTo_50 : decode cX1_leadsTo 50 = .ok (.iconst 0, 1) := by decide +kernel
theorem dX1_leadsTo_51 : decode cX1_leadsTo 51 = .ok (.istore 4, 2) := by decide +kernel
theorem dX1_leadsTo_53 : decode cX1_leadsTo 53 = .ok (.iload 4, 2) := by decide +kernel
theorem dX1_leadsTo_55 : decode cX1_leadsTo 55 = .ok (.ifCond .eq 7, 3) := by decide +kernel
theorem dX1_leadsTo_58 : decode cX1_leadsTo 58 = .ok (.iload_n 3, 1) := by decide +kernel
theorem dX1_leadsTo_59 : decode cX1_leadsTo 59 = .ok (.goto 9, 3) := by decide +kernel
theorem dX1_leadsTo_62 : decode cX1_leadsTo 62 = .ok (.aload_n 0, 1) := by decide +kernel
theorem dX1_leadsTo_63 : decode cX1_leadsTo 63 = .ok (.getfield 15, 3) := by decide +kernel
theorem dX1_leadsTo_66 : decode cX1_leadsTo 66 = .ok (.iload_n 3, 1) := by decide +kernel
theorem dX1_leadsTo_67 : decode cX1_leadsTo 67 = .ok (.iaload, 1) := by decide +kernel
theorem dX1_leadsTo_68 : decode cX1_leadsTo 68 = .ok (.ireturn, 1) := by decide +kernel
def f_X1_leadsTo (o0 : Nat) (M : xm) (a1 : Int32) : Option (Int32) := (if a1 < 0 then some (-1 : Int32) else (if a1 < (192 : Int32) then xlet (a1 / (64 : Int32)) (fun v3 => xlet (xrem a1 (64 : Int32)) (fun v4 => xlet (fun (w5 : Int32) => (if w5 = 0 then if xin v4 64 = true then some (M (o0 + 2) (Int32.toNatClampNeg v4)) else none else some v4)) (fun k6 => xlet ((k6 (1 : Int32))) (fun k9 => (if v3 = (M o0 15) then k9 else (if v3 = (2 : Int32) then k9 else if xin v4 64 = true then (if (M (o0 + 2) (Int32.toNatClampNeg v4)) = (-1 : Int32) then k9 else (k6 (0 : Int32))) else none)))))) else some (-1 : Int32)))
set_option maxHeartbeats 4000000 in
set_option maxRecDepth 20000 in
theorem c_X1_leadsTo (l : Launch) (E : xE) (b : Nat) {o0 : Nat} (L_o0 : lat o0 pHeap) (M : xm) (a1 : Int32) {r : Int32} (hf : f_X1_leadsTo o0 M a1 = some r) :
    xMet l E b NX yX1_leadsTo cX1_leadsTo 5 (some .int) (xR 1) [.ref (b + o0), .int a1] (cX E b M) (some (.int r)) True (cX E b M) := by
  refine xMet.ofW (own := RX1) (by decide) rfl (Nat.le_of_ble_eq_true rfl) ?_
  intro p e s m below meth c H locs ls C hm hl
  have hx := C.1.1
  have hb := C.1.2.1
  have hl : lv_has ls 5 [(0, .ref (b + o0)), (1, .int a1)] := hl
  unfold f_X1_leadsTo at hf
  refine lv_iload_n hx hb dX1_leadsTo_0 rfl (lv_at hl 1 rfl) ?_
  refine lv_if_lt (tgt := 11) hx hb dX1_leadsTo_1 (by decide) (fun hc1 => ?_) (fun hc1 => ?_)
  · have hf := xif_t hc1 hf
    refine lv_iconst (v := (-1 : Int32)) hx hb dX1_leadsTo_11 (by decide) ?_
    cases hf
    exact x_iret C hm trivial dX1_leadsTo_12
  have hf := xif_f hc1 hf
  refine lv_iload_n hx hb dX1_leadsTo_4 rfl (lv_at hl 1 rfl) ?_
  refine lv_sipush (v := (192 : Int32)) hx hb dX1_leadsTo_5 (by decide) ?_
  refine lv_icmp_lt (tgt := 13) hx hb dX1_leadsTo_8 (by decide) (fun hc2 => ?_) (fun hc2 => ?_)
  rotate_left
  · have hf := xif_f hc2 hf
    refine lv_iconst (v := (-1 : Int32)) hx hb dX1_leadsTo_11 (by decide) ?_
    cases hf
    exact x_iret C hm trivial dX1_leadsTo_12
  have hf := xif_t hc2 hf
  refine lv_iload_n hx hb dX1_leadsTo_13 rfl (lv_at hl 1 rfl) ?_
  refine lv_bipush (v := (64 : Int32)) hx hb dX1_leadsTo_14 (by decide) ?_
  refine lv_idiv hx hb dX1_leadsTo_16 (by decide) ?_
  refine lv_topi (fun v3 ev3 => ?_)
  have hf := xlet_e ev3 hf
  refine lv_istore_n (lv' := [(2, .int v3), (0, .ref (b + o0)), (1, .int a1)]) hx hb dX1_leadsTo_17 rfl hl (by decide) rfl (fun ls hl => ?_)
  refine lv_iload_n hx hb dX1_leadsTo_18 rfl (lv_at hl 2 rfl) ?_
  refine lv_bipush (v := (64 : Int32)) hx hb dX1_leadsTo_19 (by decide) ?_
  refine lv_irem hx hb dX1_leadsTo_21 (by decide) ?_
  refine lv_topi (fun v4 ev4 => ?_)
  have hf := xlet_e ev4 hf
  refine lv_istore_n (lv' := [(3, .int v4), (2, .int v3), (0, .ref (b + o0)), (1, .int a1)]) hx hb dX1_leadsTo_22 rfl hl (by decide) rfl (fun ls hl => ?_)
  refine lv_iload_n hx hb dX1_leadsTo_23 rfl (lv_at hl 1 rfl) ?_
  refine lv_aload_n hx hb dX1_leadsTo_24 rfl (lv_at hl 2 rfl) ?_
  refine x_get C hm inX1 rfl 15 (by decide) tf_RX1_62 (cx_Heap (L_o0 0 _ rfl)) rfl dX1_leadsTo_25 ?_
  obtain ⟨k6, ek6, hf⟩ := xlet_x hf
  have jk6 : ∀ (w5 : Int32) (H : Heap) (locs : List Loc) (ls : Array Slot), k6 w5 = some r → xM E b NX (cX E b M) s.heap H locs → lv_has ls 5 [(0, .ref (b + o0)), (3, .int v4)] → W p l e (xR 1) s m ([.ref (b + o0), .int a1] : List Value).toArray below meth c H locs 0 0 (MQ below (xQ E b NX (some (.int r)) True (cX E b M)) ([.ref (b + o0), .int a1] : List Value).toArray s 0 0 (xA b NX)) (F0 m 51 ls [.int w5]) := by
    intro w5 H locs ls hf hm hl
    have hf := xap1 ek6 hf
    refine lv_istore (lv' := [(4, .int w5), (0, .ref (b + o0)), (3, .int v4)]) hx hb dX1_leadsTo_51 hl (by decide) rfl (fun ls hl => ?_)
    refine lv_iload hx hb dX1_leadsTo_53 (lv_at hl 0 rfl) ?_
    refine lv_if_eq (tgt := 62) hx hb dX1_leadsTo_55 (by decide) (fun hc7 => ?_) (fun hc7 => ?_)
    rotate_left
    · have hf := xif_f hc7 hf
      refine lv_iload_n hx hb dX1_leadsTo_58 rfl (lv_at hl 2 rfl) ?_
      refine lv_goto (tgt := 68) hx hb dX1_leadsTo_59 (by decide) ?_
      cases hf
      exact x_iret C hm trivial dX1_leadsTo_68
    have hf := xif_t hc7 hf
    refine lv_aload_n hx hb dX1_leadsTo_62 rfl (lv_at hl 1 rfl) ?_
    refine x_get C hm inX1 rfl 1 (by decide) tf_RX1_15 (cx_Heap (L_o0 0 _ rfl)) rfl dX1_leadsTo_63 ?_
    refine lv_iload_n hx hb dX1_leadsTo_66 rfl (lv_at hl 2 rfl) ?_
    obtain ⟨hi8, hf⟩ := xif_s hf
    refine x_iald C hm (cx_I (L_o0 2 _ rfl)) hi8 dX1_leadsTo_67 rfl ?_
    cases hf
    exact x_iret C hm trivial dX1_leadsTo_68
  obtain ⟨k9, ek9, hf⟩ := xlet_x hf
  have jk9 : ∀  (H : Heap) (locs : List Loc) (ls : Array Slot), k9 = some r → xM E b NX (cX E b M) s.heap H locs → lv_has ls 5 [(0, .ref (b + o0)), (3, .int v4)] → W p l e (xR 1) s m ([.ref (b + o0), .int a1] : List Value).toArray below meth c H locs 0 0 (MQ below (xQ E b NX (some (.int r)) True (cX E b M)) ([.ref (b + o0), .int a1] : List Value).toArray s 0 0 (xA b NX)) (F0 m 46 ls []) := by
    intro  H locs ls hf hm hl
    have hf := xap0 ek9 hf
    refine lv_iconst (v := (1 : Int32)) hx hb dX1_leadsTo_46 (by decide) ?_
    refine lv_goto (tgt := 51) hx hb dX1_leadsTo_47 (by decide) ?_
    exact jk6 (1 : Int32) H locs ls hf hm (lv_sub hl [0, 1] rfl)
  refine lv_icmp_eq (tgt := 46) hx hb dX1_leadsTo_28 (by decide) (fun hc10 => ?_) (fun hc10 => ?_)
  · have hf := xif_t hc10 hf
    exact jk9  H locs ls hf hm (lv_sub hl [2, 0] rfl)
  have hf := xif_f hc10 hf
  refine lv_iload_n hx hb dX1_leadsTo_31 rfl (lv_at hl 1 rfl) ?_
  refine lv_iconst (v := (2 : Int32)) hx hb dX1_leadsTo_32 (by decide) ?_
  refine lv_icmp_eq (tgt := 46) hx hb dX1_leadsTo_33 (by decide) (fun hc11 => ?_) (fun hc11 => ?_)
  · have hf := xif_t hc11 hf
    exact jk9  H locs ls hf hm (lv_sub hl [2, 0] rfl)
  have hf := xif_f hc11 hf
  refine lv_aload_n hx hb dX1_leadsTo_36 rfl (lv_at hl 2 rfl) ?_
  refine x_get C hm inX1 rfl 1 (by decide) tf_RX1_15 (cx_Heap (L_o0 0 _ rfl)) rfl dX1_leadsTo_37 ?_
  refine lv_iload_n hx hb dX1_leadsTo_40 rfl (lv_at hl 0 rfl) ?_
  obtain ⟨hi12, hf⟩ := xif_s hf
  refine x_iald C hm (cx_I (L_o0 2 _ rfl)) hi12 dX1_leadsTo_41 rfl ?_
  refine lv_iconst (v := (-1 : Int32)) hx hb dX1_leadsTo_42 (by decide) ?_
  refine lv_icmp_ne (tgt := 50) hx hb dX1_leadsTo_43 (by decide) (fun hc13 => ?_) (fun hc13 => ?_)
  rotate_left
  · have hf := xif_t hc13 hf
    exact jk9  H locs ls hf hm (lv_sub hl [2, 0] rfl)
  have hf := xif_f hc13 hf
  refine lv_iconst (v := (0 : Int32)) hx hb dX1_leadsTo_50 (by decide) ?_
  exact jk6 (0 : Int32) H locs ls hf hm (lv_sub hl [2, 0] rfl)
/-! ColouredHeap.isAddress(I)Z -/
theorem dX9_isAddress_0 : decode cX9_isAddress 0 = .ok (.iload_n 0, 1) := by decide +kernel
theorem dX9_isAddress_1 : decode cX9_isAddress 1 = .ok (.ifCond .lt 13, 3) := by decide +kernel
theorem dX9_isAddress_4 : decode cX9_isAddress 4 = .ok (.iload_n 0, 1) := by decide +kernel
theorem dX9_isAddress_5 : decode cX9_isAddress 5 = .ok (.bipush 64, 2) := by decide +kernel
theorem dX9_isAddress_7 : decode cX9_isAddress 7 = .ok (.if_icmp .ge 7, 3) := by decide +kernel
theorem dX9_isAddress_10 : decode cX9_isAddress 10 = .ok (.iconst 1, 1) := by decide +kernel
theorem dX9_isAddress_11 : decode cX9_isAddress 11 = .ok (.goto 4, 3) := by decide +kernel
theorem dX9_isAddress_14 : decode cX9_isAddress 14 = .ok (.iconst 0, 1) := by decide +kernel
theorem dX9_isAddress_15 : decode cX9_isAddress 15 = .ok (.ireturn, 1) := by decide +kernel
def f_X9_isAddress (a0 : Int32) : Int32 := (if a0 < 0 then (0 : Int32) else (if (64 : Int32) ≤ a0 then (0 : Int32) else (1 : Int32)))
set_option maxHeartbeats 4000000 in
set_option maxRecDepth 20000 in
theorem c_X9_isAddress (l : Launch) (E : xE) (b : Nat) (M : xm) (a0 : Int32) {r : Int32} (hf : f_X9_isAddress a0 = r) :
    xMet l E b NX yX9_isAddress cX9_isAddress 1 (some .boolean) (xR 1) [.int a0] (cX E b M) (some (.int r)) (xbo r = true) (cX E b M) := by
  refine xMet.ofW (own := RX9) (by decide) rfl (Nat.le_of_ble_eq_true rfl) ?_
  intro p e s m below meth c H locs ls C hm hl
  have hx := C.1.1
  have hb := C.1.2.1
  have hl : lv_has ls 1 [(0, .int a0)] := hl
  unfold f_X9_isAddress at hf
  refine lv_iload_n hx hb dX9_isAddress_0 rfl (lv_at hl 0 rfl) ?_
  refine lv_if_lt (tgt := 14) hx hb dX9_isAddress_1 (by decide) (fun hc1 => ?_) (fun hc1 => ?_)
  · have hf := xif_t hc1 hf
    refine lv_iconst (v := (0 : Int32)) hx hb dX9_isAddress_14 (by decide) ?_
    cases hf
    exact x_zret C hm (by decide) (by decide) dX9_isAddress_15
  have hf := xif_f hc1 hf
  refine lv_iload_n hx hb dX9_isAddress_4 rfl (lv_at hl 0 rfl) ?_
  refine lv_bipush (v := (64 : Int32)) hx hb dX9_isAddress_5 (by decide) ?_
  refine lv_icmp_ge (tgt := 14) hx hb dX9_isAddress_7 (by decide) (fun hc2 => ?_) (fun hc2 => ?_)
  · have hf := xif_t hc2 hf
    refine lv_iconst (v := (0 : Int32)) hx hb dX9_isAddress_14 (by decide) ?_
    cases hf
    exact x_zret C hm (by decide) (by decide) dX9_isAddress_15
  have hf := xif_f hc2 hf
  refine lv_iconst (v := (1 : Int32)) hx hb dX9_isAddress_10 (by decide) ?_
  refine lv_goto (tgt := 15) hx hb dX9_isAddress_11 (by decide) ?_
  cases hf
  exact x_zret C hm (by decide) (by decide) dX9_isAddress_15
/-! ColouredHeap$Heap.sizeAt(I)I -/
theorem dX1_sizeAt_0 : decode cX1_sizeAt 0 = .ok (.iload_n 1, 1) := by decide +kernel
theorem dX1_sizeAt_1 : decode cX1_sizeAt 1 = .ok (.invokestatic 90, 3) := by decide +kernel
theorem dX1_sizeAt_4 : decode cX1_sizeAt 4 = .ok (.ifCond .eq 30, 3) := by decide +kernel
theorem dX1_sizeAt_7 : decode cX1_sizeAt 7 = .ok (.aload_n 0, 1) := by decide +kernel
theorem dX1_sizeAt_8 : decode cX1_sizeAt 8 = .ok (.getfield 9, 3) := by decide +kernel
theorem dX1_sizeAt_11 : decode cX1_sizeAt 11 = .ok (.iload_n 1, 1) := by decide +kernel
theorem dX1_sizeAt_12 : decode cX1_sizeAt 12 = .ok (.iaload, 1) := by decide +kernel
theorem dX1_sizeAt_13 : decode cX1_sizeAt 13 = .ok (.sipush 1000, 3) := by decide +kernel
theorem dX1_sizeAt_16 : decode cX1_sizeAt 16 = .ok (.if_icmp .lt 18, 3) := by decide +kernel
theorem dX1_sizeAt_19 : decode cX1_sizeAt 19 = .ok (.aload_n 0, 1) := by decide +kernel
theorem dX1_sizeAt_20 : decode cX1_sizeAt 20 = .ok (.getfield 9, 3) := by decide +kernel
theorem dX1_sizeAt_23 : decode cX1_sizeAt 23 = .ok (.iload_n 1, 1) := by decide +kernel
theorem dX1_sizeAt_24 : decode cX1_sizeAt 24 = .ok (.iaload, 1) := by decide +kernel
theorem dX1_sizeAt_25 : decode cX1_sizeAt 25 = .ok (.sipush 1000, 3) := by decide +kernel
theorem dX1_sizeAt_28 : decode cX1_sizeAt 28 = .ok (.isub, 1) := by decide +kernel
theorem dX1_sizeAt_29 : decode cX1_sizeAt 29 = .ok (.iconst 1, 1) := by decide +kernel
theorem dX1_sizeAt_30 : decode cX1_sizeAt 30 = .ok (.iadd, 1) := by decide +kernel
theorem dX1_sizeAt_31 : decode cX1_sizeAt 31 = .ok (.goto 4, 3) := by decide +kernel
theorem dX1_sizeAt_34 : decode cX1_sizeAt 34 = .ok (.iconst 0, 1) := by decide +kernel
theorem dX1_sizeAt_35 : decode cX1_sizeAt 35 = .ok (.ireturn, 1) := by decide +kernel
def f_X1_sizeAt (o0 : Nat) (M : xm) (a1 : Int32) : Option (Int32) := (if (f_X9_isAddress a1) = 0 then some (0 : Int32) else if xin a1 64 = true then (if (M (o0 + 1) (Int32.toNatClampNeg a1)) < (1000 : Int32) then some (0 : Int32) else some (((M (o0 + 1) (Int32.toNatClampNeg a1)) - (1000 : Int32)) + (1 : Int32))) else none)
set_option maxHeartbeats 4000000 in
set_option maxRecDepth 20000 in
theorem c_X1_sizeAt (l : Launch) (E : xE) (b : Nat) {o0 : Nat} (L_o0 : lat o0 pHeap) (M : xm) (a1 : Int32) {r : Int32} (hf : f_X1_sizeAt o0 M a1 = some r) :
    xMet l E b NX yX1_sizeAt cX1_sizeAt 2 (some .int) (xR 2) [.ref (b + o0), .int a1] (cX E b M) (some (.int r)) True (cX E b M) := by
  refine xMet.ofW (own := RX1) (by decide) rfl (Nat.le_of_ble_eq_true rfl) ?_
  intro p e s m below meth c H locs ls C hm hl
  have hx := C.1.1
  have hb := C.1.2.1
  have hl : lv_has ls 2 [(0, .ref (b + o0)), (1, .int a1)] := hl
  unfold f_X1_sizeAt at hf
  refine lv_iload_n hx hb dX1_sizeAt_0 rfl (lv_at hl 1 rfl) ?_
  refine x_callSNi (As := [.int a1]) (rest := []) C hm (c_X9_isAddress l E b M a1 rfl) tc_X9_isAddress (by decide +kernel : (RX1, 90, yX9_isAddress, "ColouredHeap") ∈ xNest) tz_X9_isAddress tn_RX9 td_X9_isAddress rfl rfl ⟨Nat.le_of_ble_eq_true rfl, Nat.le_of_ble_eq_true rfl⟩ rfl hl.1 rfl (Nat.le_of_ble_eq_true rfl) dX1_sizeAt_1 (fun H locs hP1 hm => ?_)
  refine lv_if_eq (tgt := 34) hx hb dX1_sizeAt_4 (by decide) (fun hc2 => ?_) (fun hc2 => ?_)
  · have hf := xif_t hc2 hf
    refine lv_iconst (v := (0 : Int32)) hx hb dX1_sizeAt_34 (by decide) ?_
    cases hf
    exact x_iret C hm trivial dX1_sizeAt_35
  have hf := xif_f hc2 hf
  refine lv_aload_n hx hb dX1_sizeAt_7 rfl (lv_at hl 0 rfl) ?_
  refine x_get C hm inX1 rfl 0 (by decide) tf_RX1_9 (cx_Heap (L_o0 0 _ rfl)) rfl dX1_sizeAt_8 ?_
  refine lv_iload_n hx hb dX1_sizeAt_11 rfl (lv_at hl 1 rfl) ?_
  obtain ⟨hi3, hf⟩ := xif_s hf
  refine x_iald C hm (cx_I (L_o0 1 _ rfl)) hi3 dX1_sizeAt_12 rfl ?_
  refine lv_sipush (v := (1000 : Int32)) hx hb dX1_sizeAt_13 (by decide) ?_
  refine lv_icmp_lt (tgt := 34) hx hb dX1_sizeAt_16 (by decide) (fun hc4 => ?_) (fun hc4 => ?_)
  · have hf := xif_t hc4 hf
    refine lv_iconst (v := (0 : Int32)) hx hb dX1_sizeAt_34 (by decide) ?_
    cases hf
    exact x_iret C hm trivial dX1_sizeAt_35
  have hf := xif_f hc4 hf
  refine lv_aload_n hx hb dX1_sizeAt_19 rfl (lv_at hl 0 rfl) ?_
  refine x_get C hm inX1 rfl 0 (by decide) tf_RX1_9 (cx_Heap (L_o0 0 _ rfl)) rfl dX1_sizeAt_20 ?_
  refine lv_iload_n hx hb dX1_sizeAt_23 rfl (lv_at hl 1 rfl) ?_
  refine x_iald C hm (cx_I (L_o0 1 _ rfl)) hi3 dX1_sizeAt_24 rfl ?_
  refine lv_sipush (v := (1000 : Int32)) hx hb dX1_sizeAt_25 (by decide) ?_
  refine lv_isub hx hb dX1_sizeAt_28 ?_
  refine lv_iconst (v := (1 : Int32)) hx hb dX1_sizeAt_29 (by decide) ?_
  refine lv_iadd hx hb dX1_sizeAt_30 ?_
  refine lv_goto (tgt := 35) hx hb dX1_sizeAt_31 (by decide) ?_
  cases hf
  exact x_iret C hm trivial dX1_sizeAt_35
/-! ColouredHeap.isPage(I)Z -/
theorem dX9_isPage_0 : decode cX9_isPage 0 = .ok (.iload_n 0, 1) := by decide +kernel
theorem dX9_isPage_1 : decode cX9_isPage 1 = .ok (.ifCond .lt 13, 3) := by decide +kernel
theorem dX9_isPage_4 : decode cX9_isPage 4 = .ok (.iload_n 0, 1) := by decide +kernel
theorem dX9_isPage_5 : decode cX9_isPage 5 = .ok (.bipush 8, 2) := by decide +kernel
theorem dX9_isPage_7 : decode cX9_isPage 7 = .ok (.if_icmp .ge 7, 3) := by decide +kernel
theorem dX9_isPage_10 : decode cX9_isPage 10 = .ok (.iconst 1, 1) := by decide +kernel
theorem dX9_isPage_11 : decode cX9_isPage 11 = .ok (.goto 4, 3) := by decide +kernel
theorem dX9_isPage_14 : decode cX9_isPage 14 = .ok (.iconst 0, 1) := by decide +kernel
theorem dX9_isPage_15 : decode cX9_isPage 15 = .ok (.ireturn, 1) := by decide +kernel
def f_X9_isPage (a0 : Int32) : Int32 := (if a0 < 0 then (0 : Int32) else (if (8 : Int32) ≤ a0 then (0 : Int32) else (1 : Int32)))
set_option maxHeartbeats 4000000 in
set_option maxRecDepth 20000 in
theorem c_X9_isPage (l : Launch) (E : xE) (b : Nat) (M : xm) (a0 : Int32) {r : Int32} (hf : f_X9_isPage a0 = r) :
    xMet l E b NX yX9_isPage cX9_isPage 1 (some .boolean) (xR 1) [.int a0] (cX E b M) (some (.int r)) (xbo r = true) (cX E b M) := by
  refine xMet.ofW (own := RX9) (by decide) rfl (Nat.le_of_ble_eq_true rfl) ?_
  intro p e s m below meth c H locs ls C hm hl
  have hx := C.1.1
  have hb := C.1.2.1
  have hl : lv_has ls 1 [(0, .int a0)] := hl
  unfold f_X9_isPage at hf
  refine lv_iload_n hx hb dX9_isPage_0 rfl (lv_at hl 0 rfl) ?_
  refine lv_if_lt (tgt := 14) hx hb dX9_isPage_1 (by decide) (fun hc1 => ?_) (fun hc1 => ?_)
  · have hf := xif_t hc1 hf
    refine lv_iconst (v := (0 : Int32)) hx hb dX9_isPage_14 (by decide) ?_
    cases hf
    exact x_zret C hm (by decide) (by decide) dX9_isPage_15
  have hf := xif_f hc1 hf
  refine lv_iload_n hx hb dX9_isPage_4 rfl (lv_at hl 0 rfl) ?_
  refine lv_bipush (v := (8 : Int32)) hx hb dX9_isPage_5 (by decide) ?_
  refine lv_icmp_ge (tgt := 14) hx hb dX9_isPage_7 (by decide) (fun hc2 => ?_) (fun hc2 => ?_)
  · have hf := xif_t hc2 hf
    refine lv_iconst (v := (0 : Int32)) hx hb dX9_isPage_14 (by decide) ?_
    cases hf
    exact x_zret C hm (by decide) (by decide) dX9_isPage_15
  have hf := xif_f hc2 hf
  refine lv_iconst (v := (1 : Int32)) hx hb dX9_isPage_10 (by decide) ?_
  refine lv_goto (tgt := 15) hx hb dX9_isPage_11 (by decide) ?_
  cases hf
  exact x_zret C hm (by decide) (by decide) dX9_isPage_15
/-! ColouredHeap.isRoot(I)Z -/
theorem dX9_isRoot_0 : decode cX9_isRoot 0 = .ok (.iload_n 0, 1) := by decide +kernel
theorem dX9_isRoot_1 : decode cX9_isRoot 1 = .ok (.ifCond .lt 13, 3) := by decide +kernel
theorem dX9_isRoot_4 : decode cX9_isRoot 4 = .ok (.iload_n 0, 1) := by decide +kernel
theorem dX9_isRoot_5 : decode cX9_isRoot 5 = .ok (.bipush 6, 2) := by decide +kernel
theorem dX9_isRoot_7 : decode cX9_isRoot 7 = .ok (.if_icmp .ge 7, 3) := by decide +kernel
theorem dX9_isRoot_10 : decode cX9_isRoot 10 = .ok (.iconst 1, 1) := by decide +kernel
theorem dX9_isRoot_11 : decode cX9_isRoot 11 = .ok (.goto 4, 3) := by decide +kernel
theorem dX9_isRoot_14 : decode cX9_isRoot 14 = .ok (.iconst 0, 1) := by decide +kernel
theorem dX9_isRoot_15 : decode cX9_isRoot 15 = .ok (.ireturn, 1) := by decide +kernel
def f_X9_isRoot (a0 : Int32) : Int32 := (if a0 < 0 then (0 : Int32) else (if (6 : Int32) ≤ a0 then (0 : Int32) else (1 : Int32)))
set_option maxHeartbeats 4000000 in
set_option maxRecDepth 20000 in
theorem c_X9_isRoot (l : Launch) (E : xE) (b : Nat) (M : xm) (a0 : Int32) {r : Int32} (hf : f_X9_isRoot a0 = r) :
    xMet l E b NX yX9_isRoot cX9_isRoot 1 (some .boolean) (xR 1) [.int a0] (cX E b M) (some (.int r)) (xbo r = true) (cX E b M) := by
  refine xMet.ofW (own := RX9) (by decide) rfl (Nat.le_of_ble_eq_true rfl) ?_
  intro p e s m below meth c H locs ls C hm hl
  have hx := C.1.1
  have hb := C.1.2.1
  have hl : lv_has ls 1 [(0, .int a0)] := hl
  unfold f_X9_isRoot at hf
  refine lv_iload_n hx hb dX9_isRoot_0 rfl (lv_at hl 0 rfl) ?_
  refine lv_if_lt (tgt := 14) hx hb dX9_isRoot_1 (by decide) (fun hc1 => ?_) (fun hc1 => ?_)
  · have hf := xif_t hc1 hf
    refine lv_iconst (v := (0 : Int32)) hx hb dX9_isRoot_14 (by decide) ?_
    cases hf
    exact x_zret C hm (by decide) (by decide) dX9_isRoot_15
  have hf := xif_f hc1 hf
  refine lv_iload_n hx hb dX9_isRoot_4 rfl (lv_at hl 0 rfl) ?_
  refine lv_bipush (v := (6 : Int32)) hx hb dX9_isRoot_5 (by decide) ?_
  refine lv_icmp_ge (tgt := 14) hx hb dX9_isRoot_7 (by decide) (fun hc2 => ?_) (fun hc2 => ?_)
  · have hf := xif_t hc2 hf
    refine lv_iconst (v := (0 : Int32)) hx hb dX9_isRoot_14 (by decide) ?_
    cases hf
    exact x_zret C hm (by decide) (by decide) dX9_isRoot_15
  have hf := xif_f hc2 hf
  refine lv_iconst (v := (1 : Int32)) hx hb dX9_isRoot_10 (by decide) ?_
  refine lv_goto (tgt := 15) hx hb dX9_isRoot_11 (by decide) ?_
  cases hf
  exact x_zret C hm (by decide) (by decide) dX9_isRoot_15
