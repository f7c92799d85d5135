/-! ColouredHeapModel.gapsOf(I)I -/
theorem dX10_gapsOf_0 : decode cX10_gapsOf 0 = .ok (.aload_n 0, 1) := by decide +kernel
theorem dX10_gapsOf_1 : decode cX10_gapsOf 1 = .ok (.iconst (-1), 1) := by decide +kernel
theorem dX10_gapsOf_2 : decode cX10_gapsOf 2 = .ok (.invokevirtual 461, 3) := by decide +kernel
theorem dX10_gapsOf_5 : decode cX10_gapsOf 5 = .ok (.aload_n 0, 1) := by decide +kernel
theorem dX10_gapsOf_6 : decode cX10_gapsOf 6 = .ok (.getfield 7, 3) := by decide +kernel
theorem dX10_gapsOf_9 : decode cX10_gapsOf 9 = .ok (.bipush 21, 2) := by decide +kernel
theorem dX10_gapsOf_11 : decode cX10_gapsOf 11 = .ok (.iload_n 1, 1) := by decide +kernel
theorem dX10_gapsOf_12 : decode cX10_gapsOf 12 = .ok (.iadd, 1) := by decide +kernel
theorem dX10_gapsOf_13 : decode cX10_gapsOf 13 = .ok (.iaload, 1) := by decide +kernel
theorem dX10_gapsOf_14 : decode cX10_gapsOf 14 = .ok (.istore_n 2, 1) := by decide +kernel
theorem dX10_gapsOf_15 : decode cX10_gapsOf 15 = .ok (.bipush 8, 2) := by decide +kernel
theorem dX10_gapsOf_17 : decode cX10_gapsOf 17 = .ok (.iload_n 1, 1) := by decide +kernel
theorem dX10_gapsOf_18 : decode cX10_gapsOf 18 = .ok (.imul, 1) := by decide +kernel
theorem dX10_gapsOf_19 : decode cX10_gapsOf 19 = .ok (.istore_n 3, 1) := by decide +kernel
theorem dX10_gapsOf_20 : decode cX10_gapsOf 20 = .ok (.iload_n 3, 1) := by decide +kernel
theorem dX10_gapsOf_21 : decode cX10_gapsOf 21 = .ok (.bipush 8, 2) := by decide +kernel
theorem dX10_gapsOf_23 : decode cX10_gapsOf 23 = .ok (.iload_n 1, 1) := by decide +kernel
theorem dX10_gapsOf_24 : decode cX10_gapsOf 24 = .ok (.imul, 1) := by decide +kernel
theorem dX10_gapsOf_25 : decode cX10_gapsOf 25 = .ok (.bipush 8, 2) := by decide +kernel
theorem dX10_gapsOf_27 : decode cX10_gapsOf 27 = .ok (.iadd, 1) := by decide +kernel
theorem dX10_gapsOf_28 : decode cX10_gapsOf 28 = .ok (.if_icmp .ge 31, 3) := by decide +kernel
theorem dX10_gapsOf_31 : decode cX10_gapsOf 31 = .ok (.iload_n 2, 1) := by decide +kernel
theorem dX10_gapsOf_32 : decode cX10_gapsOf 32 = .ok (.aload_n 0, 1) := by decide +kernel
theorem dX10_gapsOf_33 : decode cX10_gapsOf 33 = .ok (.getfield 46, 3) := by decide +kernel
theorem dX10_gapsOf_36 : decode cX10_gapsOf 36 = .ok (.iload_n 3, 1) := by decide +kernel
theorem dX10_gapsOf_37 : decode cX10_gapsOf 37 = .ok (.iaload, 1) := by decide +kernel
theorem dX10_gapsOf_38 : decode cX10_gapsOf 38 = .ok (.iconst (-1), 1) := by decide +kernel
theorem dX10_gapsOf_39 : decode cX10_gapsOf 39 = .ok (.if_icmp .eq 11, 3) := by decide +kernel
theorem dX10_gapsOf_42 : decode cX10_gapsOf 42 = .ok (.aload_n 0, 1) := by decide +kernel
theorem dX10_gapsOf_43 : decode cX10_gapsOf 43 = .ok (.iload_n 3, 1) := by decide +kernel
theorem dX10_gapsOf_44 : decode cX10_gapsOf 44 = .ok (.invokevirtual 80, 3) := by decide +kernel
theorem dX10_gapsOf_47 : decode cX10_gapsOf 47 = .ok (.goto 4, 3) := by decide +kernel
theorem dX10_gapsOf_50 : decode cX10_gapsOf 50 = .ok (.iconst 0, 1) := by decide +kernel
theorem dX10_gapsOf_51 : decode cX10_gapsOf 51 = .ok (.isub, 1) := by decide +kernel
theorem dX10_gapsOf_52 : decode cX10_gapsOf 52 = .ok (.istore_n 2, 1) := by decide +kernel
theorem dX10_gapsOf_53 : decode cX10_gapsOf 53 = .ok (.iinc 3 1, 3) := by decide +kernel
theorem dX10_gapsOf_56 : decode cX10_gapsOf 56 = .ok (.goto (-36), 3) := by decide +kernel
theorem dX10_gapsOf_59 : decode cX10_gapsOf 59 = .ok (.iload_n 2, 1) := by decide +kernel
theorem dX10_gapsOf_60 : decode cX10_gapsOf 60 = .ok (.ireturn, 1) := by decide +kernel
def g_X10_gapsOf_20 (M : xm) (x7 : Int32) : Nat → Int32 → Int32 → Option ((Int32))
  | 0, _, _ => none
  | n + 1, x8, x9 => (if (((8 : Int32) * x7) + (8 : Int32)) ≤ x9 then some (x8) else if xin x9 64 = true then (if (M 10 (Int32.toNatClampNeg x9)) = (-1 : Int32) then xlet (x8 - (0 : Int32)) (fun v14 => xlet (x9 + (1 : Int32)) (fun v15 => g_X10_gapsOf_20 M x7 n v14 v15)) else xb1 (f_X10_sizeOf M x9) (fun v17 => xlet (x8 - v17) (fun v19 => xlet (x9 + (1 : Int32)) (fun v20 => g_X10_gapsOf_20 M x7 n v19 v20)))) else none)
def f_X10_gapsOf (M : xm) (a1 : Int32) : Option (Int32 × xm) := xb1 (f_X10_layLoads M (-1 : Int32)) (fun M2 => if xin ((21 : Int32) + a1) 9878 = true then xlet (M2 1 (Int32.toNatClampNeg ((21 : Int32) + a1))) (fun v5 => xlet ((8 : Int32) * a1) (fun v6 => xb1 (g_X10_gapsOf_20 M2 a1 xfuel v5 v6) (fun v21 => some (v21, M2)))) else none)
set_option maxHeartbeats 4000000 in
set_option maxRecDepth 20000 in
theorem j_X10_gapsOf_20 {p : Program} {l : Launch} {e : Env} {s : State} {m : MethodId} {args : Array Value} {below : List Frame} {meth : Method} {c : Code} {Q : State → Prop} {E : xE} {b : Nat} (C : xC p s m args meth c cX10_gapsOf 4 RX10 (some .int) E b) (M : xm) {Lm : xn} (x7 : Int32) {y10 : Int32}
    (kx0 : ∀ (H : Heap) (locs : List Loc) (ls : Array Slot), xM E b NY (cY E b M Lm) s.heap H locs → lv_has ls 4 [(2, .int y10)] → W p l e (xR 6) s m args below meth c H locs 0 0 Q (F0 m 59 ls [])) :
    ∀ (n : Nat) (x8 : Int32) (x9 : Int32) (H : Heap) (locs : List Loc) (ls : Array Slot), g_X10_gapsOf_20 M x7 n x8 x9 = some y10 → xM E b NY (cY E b M Lm) s.heap H locs → lv_has ls 4 [(0, .ref (b + 0)), (1, .int x7), (2, .int x8), (3, .int x9)] → W p l e (xR 6) s m args below meth c H locs 0 0 Q (F0 m 20 ls []) := by
  have hx := C.1.1
  have hb := C.1.2.1
  intro n
  induction n with
  | zero =>
    intro x8 x9 H locs ls hf hm hl
    rw [g_X10_gapsOf_20] at hf
    cases hf
  | succ n ih =>
    intro x8 x9 H locs ls hf hm hl
    rw [g_X10_gapsOf_20] at hf
    refine lv_iload_n hx hb dX10_gapsOf_20 rfl (lv_at hl 3 rfl) ?_
    refine lv_bipush (v := (8 : Int32)) hx hb dX10_gapsOf_21 (by decide) ?_
    refine lv_iload_n hx hb dX10_gapsOf_23 rfl (lv_at hl 1 rfl) ?_
    refine lv_imul hx hb dX10_gapsOf_24 ?_
    refine lv_bipush (v := (8 : Int32)) hx hb dX10_gapsOf_25 (by decide) ?_
    refine lv_iadd hx hb dX10_gapsOf_27 ?_
    refine lv_icmp_ge (tgt := 59) hx hb dX10_gapsOf_28 (by decide) (fun hc11 => ?_) (fun hc11 => ?_)
    · have hf := xif_t hc11 hf
      cases hf
      exact kx0 H locs ls hm (lv_sub hl [2] rfl)
    have hf := xif_f hc11 hf
    refine lv_iload_n hx hb dX10_gapsOf_31 rfl (lv_at hl 2 rfl) ?_
    refine lv_aload_n hx hb dX10_gapsOf_32 rfl (lv_at hl 0 rfl) ?_
    refine x_get C hm inX10 rfl 24 (by decide) tf_RX10_46 cy_0 rfl dX10_gapsOf_33 ?_
    refine lv_iload_n hx hb dX10_gapsOf_36 rfl (lv_at hl 3 rfl) ?_
    obtain ⟨hi12, hf⟩ := xif_s hf
    refine x_iald (j := (Int32.toNatClampNeg x9)) C hm cy_10 hi12 dX10_gapsOf_37 rfl ?_
    refine lv_iconst (v := (-1 : Int32)) hx hb dX10_gapsOf_38 (by decide) ?_
    refine lv_icmp_eq (tgt := 50) hx hb dX10_gapsOf_39 (by decide) (fun hc13 => ?_) (fun hc13 => ?_)
    · have hf := xif_t hc13 hf
      refine lv_iconst (v := (0 : Int32)) hx hb dX10_gapsOf_50 (by decide) ?_
      refine lv_isub hx hb dX10_gapsOf_51 ?_
      refine lv_topi (fun v14 ev14 => ?_)
      have hf := xlet_e ev14 hf
      refine lv_istore_n (lv' := [(2, .int v14), (0, .ref (b + 0)), (1, .int x7), (3, .int x9)]) hx hb dX10_gapsOf_52 rfl hl (by decide) rfl (fun ls hl => ?_)
      obtain ⟨v15, ev15, hf⟩ := xlet_x hf
      refine lv_iinc (v := v15) (lv' := [(3, .int v15), (2, .int v14), (0, .ref (b + 0)), (1, .int x7)]) hx hb dX10_gapsOf_53 hl (k := 3) rfl (by rw [ev15]; rfl) (by decide) rfl (fun ls hl => ?_)
      refine lv_goto (tgt := 20) hx hb dX10_gapsOf_56 (by decide) ?_
      exact ih v14 v15 H locs ls hf hm (lv_sub hl [2, 3, 1, 0] rfl)
    have hf := xif_f hc13 hf
    refine lv_aload_n hx hb dX10_gapsOf_42 rfl (lv_at hl 0 rfl) ?_
    refine lv_iload_n hx hb dX10_gapsOf_43 rfl (lv_at hl 3 rfl) ?_
    obtain ⟨v17, hq16, hf⟩ := xb1_e hf
    refine x_callVi (As := [.int x9]) (rest := [.int x8]) C hm (c_X10_sizeOf l E b M Lm x9 hq16) rfl cy_0 tc_X10_sizeOf tm_RX10_80 ti_X10_sizeOf ts_X10_sizeOf tn_RX10 td_X10_sizeOf rfl rfl ⟨Nat.le_of_ble_eq_true rfl, Nat.le_of_ble_eq_true rfl⟩ rfl hl.1 rfl (Nat.le_of_ble_eq_true rfl) ⟨Nat.zero_le _, Nat.zero_le _⟩ dX10_gapsOf_44 (fun H locs hP18 hm => ?_)
    refine lv_goto (tgt := 51) hx hb dX10_gapsOf_47 (by decide) ?_
    refine lv_isub hx hb dX10_gapsOf_51 ?_
    refine lv_topi (fun v19 ev19 => ?_)
    have hf := xlet_e ev19 hf
    refine lv_istore_n (lv' := [(2, .int v19), (0, .ref (b + 0)), (1, .int x7), (3, .int x9)]) hx hb dX10_gapsOf_52 rfl hl (by decide) rfl (fun ls hl => ?_)
    obtain ⟨v20, ev20, hf⟩ := xlet_x hf
    refine lv_iinc (v := v20) (lv' := [(3, .int v20), (2, .int v19), (0, .ref (b + 0)), (1, .int x7)]) hx hb dX10_gapsOf_53 hl (k := 3) rfl (by rw [ev20]; rfl) (by decide) rfl (fun ls hl => ?_)
    refine lv_goto (tgt := 20) hx hb dX10_gapsOf_56 (by decide) ?_
    exact ih v19 v20 H locs ls hf hm (lv_sub hl [2, 3, 1, 0] rfl)
set_option maxHeartbeats 4000000 in
set_option maxRecDepth 20000 in
theorem c_X10_gapsOf (l : Launch) (E : xE) (b : Nat) (M : xm) (Lm : xn) (a1 : Int32) {r : Int32} {M' : xm} (hf : f_X10_gapsOf M a1 = some (r, M')) :
    xMet l E b NY yX10_gapsOf cX10_gapsOf 4 (some .int) (xR 6) [.ref (b + 0), .int a1] (cY E b M Lm) (some (.int r)) True (cY E b M' Lm) := by
  refine xMet.ofW (own := RX10) (by decide) rfl (Nat.le_of_ble_eq_true rfl) ?_
  intro p e s m below meth c H locs ls C hm hl
  have hx := C.1.1
  have hb := C.1.2.1
  have hl : lv_has ls 4 [(0, .ref (b + 0)), (1, .int a1)] := hl
  unfold f_X10_gapsOf at hf
  refine lv_aload_n hx hb dX10_gapsOf_0 rfl (lv_at hl 0 rfl) ?_
  refine lv_iconst (v := (-1 : Int32)) hx hb dX10_gapsOf_1 (by decide) ?_
  obtain ⟨M2, hq1, hf⟩ := xb1_e hf
  refine x_callVv (As := [.int (-1 : Int32)]) (rest := []) C hm (c_X10_layLoads l E b M Lm (-1 : Int32) hq1) rfl cy_0 tc_X10_layLoads tm_RX10_461 ti_X10_layLoads ts_X10_layLoads tn_RX10 td_X10_layLoads rfl rfl ⟨Nat.le_of_ble_eq_true rfl, Nat.le_of_ble_eq_true rfl⟩ rfl hl.1 rfl (Nat.le_of_ble_eq_true rfl) ⟨Nat.zero_le _, Nat.zero_le _⟩ dX10_gapsOf_2 (fun H locs hP3 hm => ?_)
  refine lv_aload_n hx hb dX10_gapsOf_5 rfl (lv_at hl 0 rfl) ?_
  refine x_get C hm inX10 rfl 0 (by decide) tf_RX10_7 cy_0 rfl dX10_gapsOf_6 ?_
  refine lv_bipush (v := (21 : Int32)) hx hb dX10_gapsOf_9 (by decide) ?_
  refine lv_iload_n hx hb dX10_gapsOf_11 rfl (lv_at hl 1 rfl) ?_
  refine lv_iadd hx hb dX10_gapsOf_12 ?_
  obtain ⟨hi4, hf⟩ := xif_s hf
  refine x_iald (j := (Int32.toNatClampNeg ((21 : Int32) + a1))) C hm cy_1 hi4 dX10_gapsOf_13 rfl ?_
  refine lv_topi (fun v5 ev5 => ?_)
  have hf := xlet_e ev5 hf
  refine lv_istore_n (lv' := [(2, .int v5), (0, .ref (b + 0)), (1, .int a1)]) hx hb dX10_gapsOf_14 rfl hl (by decide) rfl (fun ls hl => ?_)
  refine lv_bipush (v := (8 : Int32)) hx hb dX10_gapsOf_15 (by decide) ?_
  refine lv_iload_n hx hb dX10_gapsOf_17 rfl (lv_at hl 2 rfl) ?_
  refine lv_imul hx hb dX10_gapsOf_18 ?_
  refine lv_topi (fun v6 ev6 => ?_)
  have hf := xlet_e ev6 hf
  refine lv_istore_n (lv' := [(3, .int v6), (2, .int v5), (0, .ref (b + 0)), (1, .int a1)]) hx hb dX10_gapsOf_19 rfl hl (by decide) rfl (fun ls hl => ?_)
  obtain ⟨v21, hq, hf⟩ := xb1_e hf
  refine j_X10_gapsOf_20 C M2 a1 (fun H locs ls hm hl => ?_) xfuel v5 v6 H locs ls hq hm (lv_sub hl [2, 3, 1, 0] rfl)
  refine lv_iload_n hx hb dX10_gapsOf_59 rfl (lv_at hl 0 rfl) ?_
  cases hf
  exact x_iret C hm trivial dX10_gapsOf_60
/-! ColouredHeapModel.dead()I -/
theorem dX10_dead_0 : decode cX10_dead 0 = .ok (.iconst 0, 1) := by decide +kernel
theorem dX10_dead_1 : decode cX10_dead 1 = .ok (.istore_n 1, 1) := by decide +kernel
theorem dX10_dead_2 : decode cX10_dead 2 = .ok (.iconst 0, 1) := by decide +kernel
theorem dX10_dead_3 : decode cX10_dead 3 = .ok (.istore_n 2, 1) := by decide +kernel
theorem dX10_dead_4 : decode cX10_dead 4 = .ok (.iload_n 2, 1) := by decide +kernel
theorem dX10_dead_5 : decode cX10_dead 5 = .ok (.bipush 8, 2) := by decide +kernel
theorem dX10_dead_7 : decode cX10_dead 7 = .ok (.if_icmp .ge 33, 3) := by decide +kernel
theorem dX10_dead_10 : decode cX10_dead 10 = .ok (.iload_n 1, 1) := by decide +kernel
theorem dX10_dead_11 : decode cX10_dead 11 = .ok (.aload_n 0, 1) := by decide +kernel
theorem dX10_dead_12 : decode cX10_dead 12 = .ok (.getfield 7, 3) := by decide +kernel
theorem dX10_dead_15 : decode cX10_dead 15 = .ok (.bipush 13, 2) := by decide +kernel
theorem dX10_dead_17 : decode cX10_dead 17 = .ok (.iload_n 2, 1) := by decide +kernel
theorem dX10_dead_18 : decode cX10_dead 18 = .ok (.iadd, 1) := by decide +kernel
theorem dX10_dead_19 : decode cX10_dead 19 = .ok (.iaload, 1) := by decide +kernel
theorem dX10_dead_20 : decode cX10_dead 20 = .ok (.ifCond .ne 7, 3) := by decide +kernel
theorem dX10_dead_23 : decode cX10_dead 23 = .ok (.iconst 0, 1) := by decide +kernel
theorem dX10_dead_24 : decode cX10_dead 24 = .ok (.goto 8, 3) := by decide +kernel
theorem dX10_dead_27 : decode cX10_dead 27 = .ok (.aload_n 0, 1) := by decide +kernel
theorem dX10_dead_28 : decode cX10_dead 28 = .ok (.iload_n 2, 1) := by decide +kernel
theorem dX10_dead_29 : decode cX10_dead 29 = .ok (.invokevirtual 470, 3) := by decide +kernel
theorem dX10_dead_32 : decode cX10_dead 32 = .ok (.iadd, 1) := by decide +kernel
theorem dX10_dead_33 : decode cX10_dead 33 = .ok (.istore_n 1, 1) := by decide +kernel
theorem dX10_dead_34 : decode cX10_dead 34 = .ok (.iinc 2 1, 3) := by decide +kernel
theorem dX10_dead_37 : decode cX10_dead 37 = .ok (.goto (-33), 3) := by decide +kernel
theorem dX10_dead_40 : decode cX10_dead 40 = .ok (.iload_n 1, 1) := by decide +kernel
theorem dX10_dead_41 : decode cX10_dead 41 = .ok (.ireturn, 1) := by decide +kernel
def g_X10_dead_4  : Nat → xm → Int32 → Int32 → Option ((Int32 × xm))
  | 0, _, _, _ => none
  | n + 1, M3, x1, x2 => (if (8 : Int32) ≤ x2 then some ((x1, M3)) else if xin ((13 : Int32) + x2) 9878 = true then (if (M3 1 (Int32.toNatClampNeg ((13 : Int32) + x2))) = 0 then xlet (x1 + (0 : Int32)) (fun v15 => xlet (x2 + (1 : Int32)) (fun v16 => g_X10_dead_4 n M3 v15 v16)) else xb2 (f_X10_gapsOf M3 x2) (fun v10 M11 => xlet (x1 + v10) (fun v13 => xlet (x2 + (1 : Int32)) (fun v14 => g_X10_dead_4 n M11 v13 v14)))) else none)
def f_X10_dead (M : xm) : Option (Int32 × xm) := xb2 (g_X10_dead_4 xfuel M (0 : Int32) (0 : Int32)) (fun v17 M18 => some (v17, M18))
set_option maxHeartbeats 4000000 in
set_option maxRecDepth 20000 in
theorem j_X10_dead_4 {p : Program} {l : Launch} {e : Env} {s : State} {m : MethodId} {args : Array Value} {below : List Frame} {meth : Method} {c : Code} {Q : State → Prop} {E : xE} {b : Nat} (C : xC p s m args meth c cX10_dead 3 RX10 (some .int) E b) {Lm : xn} {y4 : Int32} {y5 : xm}
    (kx0 : ∀ (H : Heap) (locs : List Loc) (ls : Array Slot), xM E b NY (cY E b y5 Lm) s.heap H locs → lv_has ls 3 [(1, .int y4)] → W p l e (xR 7) s m args below meth c H locs 0 0 Q (F0 m 40 ls [])) :
    ∀ (n : Nat) (M3 : xm) (x1 : Int32) (x2 : Int32) (H : Heap) (locs : List Loc) (ls : Array Slot), g_X10_dead_4 n M3 x1 x2 = some (y4, y5) → xM E b NY (cY E b M3 Lm) s.heap H locs → lv_has ls 3 [(0, .ref (b + 0)), (1, .int x1), (2, .int x2)] → W p l e (xR 7) s m args below meth c H locs 0 0 Q (F0 m 4 ls []) := by
  have hx := C.1.1
  have hb := C.1.2.1
  intro n
  induction n with
  | zero =>
    intro M3 x1 x2 H locs ls hf hm hl
    rw [g_X10_dead_4] at hf
    cases hf
  | succ n ih =>
    intro M3 x1 x2 H locs ls hf hm hl
    rw [g_X10_dead_4] at hf
    refine lv_iload_n hx hb dX10_dead_4 rfl (lv_at hl 2 rfl) ?_
    refine lv_bipush (v := (8 : Int32)) hx hb dX10_dead_5 (by decide) ?_
    refine lv_icmp_ge (tgt := 40) hx hb dX10_dead_7 (by decide) (fun hc6 => ?_) (fun hc6 => ?_)
    · have hf := xif_t hc6 hf
      cases hf
      exact kx0 H locs ls hm (lv_sub hl [1] rfl)
    have hf := xif_f hc6 hf
    refine lv_iload_n hx hb dX10_dead_10 rfl (lv_at hl 1 rfl) ?_
    refine lv_aload_n hx hb dX10_dead_11 rfl (lv_at hl 0 rfl) ?_
    refine x_get C hm inX10 rfl 0 (by decide) tf_RX10_7 cy_0 rfl dX10_dead_12 ?_
    refine lv_bipush (v := (13 : Int32)) hx hb dX10_dead_15 (by decide) ?_
    refine lv_iload_n hx hb dX10_dead_17 rfl (lv_at hl 2 rfl) ?_
    refine lv_iadd hx hb dX10_dead_18 ?_
    obtain ⟨hi7, hf⟩ := xif_s hf
    refine x_iald (j := (Int32.toNatClampNeg ((13 : Int32) + x2))) C hm cy_1 hi7 dX10_dead_19 rfl ?_
    refine lv_if_ne (tgt := 27) hx hb dX10_dead_20 (by decide) (fun hc8 => ?_) (fun hc8 => ?_)
    rotate_left
    · have hf := xif_t hc8 hf
      refine lv_iconst (v := (0 : Int32)) hx hb dX10_dead_23 (by decide) ?_
      refine lv_goto (tgt := 32) hx hb dX10_dead_24 (by decide) ?_
      refine lv_iadd hx hb dX10_dead_32 ?_
      refine lv_topi (fun v15 ev15 => ?_)
      have hf := xlet_e ev15 hf
      refine lv_istore_n (lv' := [(1, .int v15), (0, .ref (b + 0)), (2, .int x2)]) hx hb dX10_dead_33 rfl hl (by decide) rfl (fun ls hl => ?_)
      obtain ⟨v16, ev16, hf⟩ := xlet_x hf
      refine lv_iinc (v := v16) (lv' := [(2, .int v16), (1, .int v15), (0, .ref (b + 0))]) hx hb dX10_dead_34 hl (k := 2) rfl (by rw [ev16]; rfl) (by decide) rfl (fun ls hl => ?_)
      refine lv_goto (tgt := 4) hx hb dX10_dead_37 (by decide) ?_
      exact ih M3 v15 v16 H locs ls hf hm (lv_sub hl [2, 1, 0] rfl)
    have hf := xif_f hc8 hf
    refine lv_aload_n hx hb dX10_dead_27 rfl (lv_at hl 0 rfl) ?_
    refine lv_iload_n hx hb dX10_dead_28 rfl (lv_at hl 2 rfl) ?_
    obtain ⟨v10, M11, hq9, hf⟩ := xb2_e hf
    refine x_callVi (As := [.int x2]) (rest := [.int x1]) C hm (c_X10_gapsOf l E b M3 Lm x2 hq9) rfl cy_0 tc_X10_gapsOf tm_RX10_470 ti_X10_gapsOf ts_X10_gapsOf tn_RX10 td_X10_gapsOf rfl rfl ⟨Nat.le_of_ble_eq_true rfl, Nat.le_of_ble_eq_true rfl⟩ rfl hl.1 rfl (Nat.le_of_ble_eq_true rfl) ⟨Nat.zero_le _, Nat.zero_le _⟩ dX10_dead_29 (fun H locs hP12 hm => ?_)
    refine lv_iadd hx hb dX10_dead_32 ?_
    refine lv_topi (fun v13 ev13 => ?_)
    have hf := xlet_e ev13 hf
    refine lv_istore_n (lv' := [(1, .int v13), (0, .ref (b + 0)), (2, .int x2)]) hx hb dX10_dead_33 rfl hl (by decide) rfl (fun ls hl => ?_)
    obtain ⟨v14, ev14, hf⟩ := xlet_x hf
    refine lv_iinc (v := v14) (lv' := [(2, .int v14), (1, .int v13), (0, .ref (b + 0))]) hx hb dX10_dead_34 hl (k := 2) rfl (by rw [ev14]; rfl) (by decide) rfl (fun ls hl => ?_)
    refine lv_goto (tgt := 4) hx hb dX10_dead_37 (by decide) ?_
    exact ih M11 v13 v14 H locs ls hf hm (lv_sub hl [2, 1, 0] rfl)
set_option maxHeartbeats 4000000 in
set_option maxRecDepth 20000 in
theorem c_X10_dead (l : Launch) (E : xE) (b : Nat) (M : xm) (Lm : xn) {r : Int32} {M' : xm} (hf : f_X10_dead M = some (r, M')) :
    xMet l E b NY yX10_dead cX10_dead 3 (some .int) (xR 7) [.ref (b + 0)] (cY E b M Lm) (some (.int r)) True (cY E b M' Lm) := by
  refine xMet.ofW (own := RX10) (by decide) rfl (Nat.le_of_ble_eq_true rfl) ?_
  intro p e s m below meth c H locs ls C hm hl
  have hx := C.1.1
  have hb := C.1.2.1
  have hl : lv_has ls 3 [(0, .ref (b + 0))] := hl
  unfold f_X10_dead at hf
  refine lv_iconst (v := (0 : Int32)) hx hb dX10_dead_0 (by decide) ?_
  refine lv_istore_n (lv' := [(1, .int (0 : Int32)), (0, .ref (b + 0))]) hx hb dX10_dead_1 rfl hl (by decide) rfl (fun ls hl => ?_)
  refine lv_iconst (v := (0 : Int32)) hx hb dX10_dead_2 (by decide) ?_
  refine lv_istore_n (lv' := [(2, .int (0 : Int32)), (1, .int (0 : Int32)), (0, .ref (b + 0))]) hx hb dX10_dead_3 rfl hl (by decide) rfl (fun ls hl => ?_)
  obtain ⟨v17, M18, hq, hf⟩ := xb2_e hf
  refine j_X10_dead_4 C (fun H locs ls hm hl => ?_) xfuel M (0 : Int32) (0 : Int32) H locs ls hq hm (lv_sub hl [2, 1, 0] rfl)
  refine lv_iload_n hx hb dX10_dead_40 rfl (lv_at hl 0 rfl) ?_
  cases hf
  exact x_iret C hm trivial dX10_dead_41
/-! ColouredHeapModel.drop(I)Z -/
theorem dX10_drop_0 : decode cX10_drop 0 = .ok (.iload_n 1, 1) := by decide +kernel
theorem dX10_drop_1 : decode cX10_drop 1 = .ok (.invokestatic 349, 3) := by decide +kernel
theorem dX10_drop_4 : decode cX10_drop 4 = .ok (.ifCond .eq 16, 3) := by decide +kernel
theorem dX10_drop_7 : decode cX10_drop 7 = .ok (.aload_n 0, 1) := by decide +kernel
theorem dX10_drop_8 : decode cX10_drop 8 = .ok (.getfield 7, 3) := by decide +kernel
theorem dX10_drop_11 : decode cX10_drop 11 = .ok (.bipush 29, 2) := by decide +kernel
theorem dX10_drop_13 : decode cX10_drop 13 = .ok (.iload_n 1, 1) := by decide +kernel
theorem dX10_drop_14 : decode cX10_drop 14 = .ok (.iadd, 1) := by decide +kernel
theorem dX10_drop_15 : decode cX10_drop 15 = .ok (.iaload, 1) := by decide +kernel
theorem dX10_drop_16 : decode cX10_drop 16 = .ok (.iconst (-1), 1) := by decide +kernel
theorem dX10_drop_17 : decode cX10_drop 17 = .ok (.if_icmp .ne 5, 3) := by decide +kernel
theorem dX10_drop_20 : decode cX10_drop 20 = .ok (.iconst 0, 1) := by decide +kernel
theorem dX10_drop_21 : decode cX10_drop 21 = .ok (.ireturn, 1) := by decide +kernel
theorem dX10_drop_22 : decode cX10_drop 22 = .ok (.aload_n 0, 1) := by decide +kernel
theorem dX10_drop_23 : decode cX10_drop 23 = .ok (.invokevirtual 397, 3) := by decide +kernel
theorem dX10_drop_26 : decode cX10_drop 26 = .ok (.aload_n 0, 1) := by decide +kernel
theorem dX10_drop_27 : decode cX10_drop 27 = .ok (.getfield 7, 3) := by decide +kernel
theorem dX10_drop_30 : decode cX10_drop 30 = .ok (.bipush 29, 2) := by decide +kernel
theorem dX10_drop_32 : decode cX10_drop 32 = .ok (.iload_n 1, 1) := by decide +kernel
theorem dX10_drop_33 : decode cX10_drop 33 = .ok (.iadd, 1) := by decide +kernel
theorem dX10_drop_34 : decode cX10_drop 34 = .ok (.iconst (-1), 1) := by decide +kernel
theorem dX10_drop_35 : decode cX10_drop 35 = .ok (.iastore, 1) := by decide +kernel
theorem dX10_drop_36 : decode cX10_drop 36 = .ok (.iconst 1, 1) := by decide +kernel
theorem dX10_drop_37 : decode cX10_drop 37 = .ok (.ireturn, 1) := by decide +kernel
def f_X10_drop (M : xm) (a1 : Int32) : Option (Int32 × xm) := (if (f_X10_isRoot a1) = 0 then some ((0 : Int32), M) else if xin ((29 : Int32) + a1) 9878 = true then (if (M 1 (Int32.toNatClampNeg ((29 : Int32) + a1))) = (-1 : Int32) then some ((0 : Int32), M) else xb1 (f_X10_keep M) (fun M6 => xlet (up2 M6 1 (Int32.toNatClampNeg ((29 : Int32) + a1)) (-1 : Int32)) (fun M8 => some ((1 : Int32), M8)))) else none)
set_option maxHeartbeats 4000000 in
set_option maxRecDepth 20000 in
theorem c_X10_drop (l : Launch) (E : xE) (b : Nat) (M : xm) (Lm : xn) (a1 : Int32) {r : Int32} {M' : xm} (hf : f_X10_drop M a1 = some (r, M')) :
    xMet l E b NY yX10_drop cX10_drop 2 (some .boolean) (xR 3) [.ref (b + 0), .int a1] (cY E b M Lm) (some (.int r)) (xbo r = true) (cY E b M' Lm) := by
  refine xMet.ofW (own := RX10) (by decide) rfl (Nat.le_of_ble_eq_true rfl) ?_
  intro p e s m below meth c H locs ls C hm hl
  have hx := C.1.1
  have hb := C.1.2.1
  have hl : lv_has ls 2 [(0, .ref (b + 0)), (1, .int a1)] := hl
  unfold f_X10_drop at hf
  refine lv_iload_n hx hb dX10_drop_0 rfl (lv_at hl 1 rfl) ?_
  refine x_callSi (As := [.int a1]) (rest := []) C hm (c_X10_isRoot l E b M Lm a1 rfl) tc_X10_isRoot tm_RX10_349 tz_X10_isRoot tn_RX10 td_X10_isRoot rfl rfl ⟨Nat.le_of_ble_eq_true rfl, Nat.le_of_ble_eq_true rfl⟩ rfl hl.1 rfl (Nat.le_of_ble_eq_true rfl) ⟨Nat.zero_le _, Nat.zero_le _⟩ dX10_drop_1 (fun H locs hP1 hm => ?_)
  refine lv_if_eq (tgt := 20) hx hb dX10_drop_4 (by decide) (fun hc2 => ?_) (fun hc2 => ?_)
  · have hf := xif_t hc2 hf
    refine lv_iconst (v := (0 : Int32)) hx hb dX10_drop_20 (by decide) ?_
    cases hf
    exact x_zret C hm (by decide) (by decide) dX10_drop_21
  have hf := xif_f hc2 hf
  refine lv_aload_n hx hb dX10_drop_7 rfl (lv_at hl 0 rfl) ?_
  refine x_get C hm inX10 rfl 0 (by decide) tf_RX10_7 cy_0 rfl dX10_drop_8 ?_
  refine lv_bipush (v := (29 : Int32)) hx hb dX10_drop_11 (by decide) ?_
  refine lv_iload_n hx hb dX10_drop_13 rfl (lv_at hl 1 rfl) ?_
  refine lv_iadd hx hb dX10_drop_14 ?_
  obtain ⟨hi3, hf⟩ := xif_s hf
  refine x_iald (j := (Int32.toNatClampNeg ((29 : Int32) + a1))) C hm cy_1 hi3 dX10_drop_15 rfl ?_
  refine lv_iconst (v := (-1 : Int32)) hx hb dX10_drop_16 (by decide) ?_
  refine lv_icmp_ne (tgt := 22) hx hb dX10_drop_17 (by decide) (fun hc4 => ?_) (fun hc4 => ?_)
  rotate_left
  · have hf := xif_t hc4 hf
    refine lv_iconst (v := (0 : Int32)) hx hb dX10_drop_20 (by decide) ?_
    cases hf
    exact x_zret C hm (by decide) (by decide) dX10_drop_21
  have hf := xif_f hc4 hf
  refine lv_aload_n hx hb dX10_drop_22 rfl (lv_at hl 0 rfl) ?_
  obtain ⟨M6, hq5, hf⟩ := xb1_e hf
  refine x_callVv (As := []) (rest := []) C hm (c_X10_keep l E b M Lm hq5) rfl cy_0 tc_X10_keep tm_RX10_397 ti_X10_keep ts_X10_keep tn_RX10 td_X10_keep rfl rfl ⟨Nat.le_of_ble_eq_true rfl, Nat.le_of_ble_eq_true rfl⟩ rfl hl.1 rfl (Nat.le_of_ble_eq_true rfl) ⟨Nat.zero_le _, Nat.zero_le _⟩ dX10_drop_23 (fun H locs hP7 hm => ?_)
  refine lv_aload_n hx hb dX10_drop_26 rfl (lv_at hl 0 rfl) ?_
  refine x_get C hm inX10 rfl 0 (by decide) tf_RX10_7 cy_0 rfl dX10_drop_27 ?_
  refine lv_bipush (v := (29 : Int32)) hx hb dX10_drop_30 (by decide) ?_
  refine lv_iload_n hx hb dX10_drop_32 rfl (lv_at hl 1 rfl) ?_
  refine lv_iadd hx hb dX10_drop_33 ?_
  refine lv_iconst (v := (-1 : Int32)) hx hb dX10_drop_34 (by decide) ?_
  obtain ⟨M8, eM8, hf⟩ := xlet_x hf
  refine x_iast (j := (Int32.toNatClampNeg ((29 : Int32) + a1))) (cf' := cY E b M8 Lm) C hm cy_1 hi3 dX10_drop_35 rfl (by rw [eM8]; exact cyu_1) (by rw [eM8]; exact cY_o) (fun H locs hm => ?_)
  refine lv_iconst (v := (1 : Int32)) hx hb dX10_drop_36 (by decide) ?_
  cases hf
  exact x_zret C hm (by decide) (by decide) dX10_drop_37
/-! ColouredHeapModel.end(I)I -/
theorem dX10_end_0 : decode cX10_end 0 = .ok (.iload_n 1, 1) := by decide +kernel
theorem dX10_end_1 : decode cX10_end 1 = .ok (.iconst 0, 1) := by decide +kernel
theorem dX10_end_2 : decode cX10_end 2 = .ok (.aload_n 0, 1) := by decide +kernel
theorem dX10_end_3 : decode cX10_end 3 = .ok (.getfield 83, 3) := by decide +kernel
theorem dX10_end_6 : decode cX10_end 6 = .ok (.invokestatic 59, 3) := by decide +kernel
theorem dX10_end_9 : decode cX10_end 9 = .ok (.ifCond .ne 5, 3) := by decide +kernel
theorem dX10_end_12 : decode cX10_end 12 = .ok (.iconst (-1), 1) := by decide +kernel
theorem dX10_end_13 : decode cX10_end 13 = .ok (.ireturn, 1) := by decide +kernel
theorem dX10_end_14 : decode cX10_end 14 = .ok (.aload_n 0, 1) := by decide +kernel
theorem dX10_end_15 : decode cX10_end 15 = .ok (.iload_n 1, 1) := by decide +kernel
theorem dX10_end_16 : decode cX10_end 16 = .ok (.putfield 83, 3) := by decide +kernel
theorem dX10_end_19 : decode cX10_end 19 = .ok (.iload_n 1, 1) := by decide +kernel
theorem dX10_end_20 : decode cX10_end 20 = .ok (.ireturn, 1) := by decide +kernel
def f_X10_end (M : xm) (a1 : Int32) : Option (Int32 × xm) := (if (f_X10_isIn a1 (0 : Int32) (M 0 4)) = 0 then some ((-1 : Int32), M) else xlet (up2 M 0 4 a1) (fun M3 => some (a1, M3)))
set_option maxHeartbeats 4000000 in
set_option maxRecDepth 20000 in
theorem c_X10_end (l : Launch) (E : xE) (b : Nat) (M : xm) (Lm : xn) (a1 : Int32) {r : Int32} {M' : xm} (hf : f_X10_end M a1 = some (r, M')) :
    xMet l E b NY yX10_end cX10_end 2 (some .int) (xR 2) [.ref (b + 0), .int a1] (cY E b M Lm) (some (.int r)) True (cY E b M' Lm) := by
  refine xMet.ofW (own := RX10) (by decide) rfl (Nat.le_of_ble_eq_true rfl) ?_
  intro p e s m below meth c H locs ls C hm hl
  have hx := C.1.1
  have hb := C.1.2.1
  have hl : lv_has ls 2 [(0, .ref (b + 0)), (1, .int a1)] := hl
  unfold f_X10_end at hf
  refine lv_iload_n hx hb dX10_end_0 rfl (lv_at hl 1 rfl) ?_
  refine lv_iconst (v := (0 : Int32)) hx hb dX10_end_1 (by decide) ?_
  refine lv_aload_n hx hb dX10_end_2 rfl (lv_at hl 0 rfl) ?_
  refine x_get C hm inX10 rfl 4 (by decide) tf_RX10_83 cy_0 rfl dX10_end_3 ?_
  refine x_callSi (As := [.int a1, .int (0 : Int32), .int (M 0 4)]) (rest := []) C hm (c_X10_isIn l E b M Lm a1 (0 : Int32) (M 0 4) rfl) tc_X10_isIn tm_RX10_59 tz_X10_isIn tn_RX10 td_X10_isIn rfl rfl ⟨Nat.le_of_ble_eq_true rfl, Nat.le_of_ble_eq_true rfl⟩ rfl hl.1 rfl (Nat.le_of_ble_eq_true rfl) ⟨Nat.zero_le _, Nat.zero_le _⟩ dX10_end_6 (fun H locs hP1 hm => ?_)
  refine lv_if_ne (tgt := 14) hx hb dX10_end_9 (by decide) (fun hc2 => ?_) (fun hc2 => ?_)
  rotate_left
  · have hf := xif_t hc2 hf
    refine lv_iconst (v := (-1 : Int32)) hx hb dX10_end_12 (by decide) ?_
    cases hf
    exact x_iret C hm trivial dX10_end_13
  have hf := xif_f hc2 hf
  refine lv_aload_n hx hb dX10_end_14 rfl (lv_at hl 0 rfl) ?_
  refine lv_iload_n hx hb dX10_end_15 rfl (lv_at hl 1 rfl) ?_
  obtain ⟨M3, eM3, hf⟩ := xlet_x hf
  refine x_put (cf' := cY E b M3 Lm) C hm inX10 tyX10 tyX10_ok nmX10 rfl 4 (by decide) tf_RX10_83 rfl rfl rfl cy_0 (Nat.le_of_ble_eq_true rfl) (by rw [eM3]; exact cyf_4) (by rw [eM3]; exact cY_o) dX10_end_16 (fun H locs hm => ?_)
  refine lv_iload_n hx hb dX10_end_19 rfl (lv_at hl 1 rfl) ?_
  cases hf
  exact x_iret C hm trivial dX10_end_20
/-! ColouredHeapModel.far(I)I -/
theorem dX10_far_0 : decode cX10_far 0 = .ok (.aload_n 0, 1) := by decide +kernel
theorem dX10_far_1 : decode cX10_far 1 = .ok (.iload_n 1, 1) := by decide +kernel
theorem dX10_far_2 : decode cX10_far 2 = .ok (.invokevirtual 464, 3) := by decide +kernel
theorem dX10_far_5 : decode cX10_far 5 = .ok (.ifCond .eq 12, 3) := by decide +kernel
theorem dX10_far_8 : decode cX10_far 8 = .ok (.aload_n 0, 1) := by decide +kernel
theorem dX10_far_9 : decode cX10_far 9 = .ok (.getfield 46, 3) := by decide +kernel
theorem dX10_far_12 : decode cX10_far 12 = .ok (.iload_n 1, 1) := by decide +kernel
theorem dX10_far_13 : decode cX10_far 13 = .ok (.iaload, 1) := by decide +kernel
theorem dX10_far_14 : decode cX10_far 14 = .ok (.goto 4, 3) := by decide +kernel
theorem dX10_far_17 : decode cX10_far 17 = .ok (.iconst (-1), 1) := by decide +kernel
theorem dX10_far_18 : decode cX10_far 18 = .ok (.ireturn, 1) := by decide +kernel
def f_X10_far (M : xm) (a1 : Int32) : Option (Int32 × xm) := xb2 (f_X10_isReached M a1) (fun v2 M3 => (if v2 = 0 then some ((-1 : Int32), M3) else if xin a1 64 = true then some ((M3 10 (Int32.toNatClampNeg a1)), M3) else none))
set_option maxHeartbeats 4000000 in
set_option maxRecDepth 20000 in
theorem c_X10_far (l : Launch) (E : xE) (b : Nat) (M : xm) (Lm : xn) (a1 : Int32) {r : Int32} {M' : xm} (hf : f_X10_far M a1 = some (r, M')) :
    xMet l E b NY yX10_far cX10_far 2 (some .int) (xR 7) [.ref (b + 0), .int a1] (cY E b M Lm) (some (.int r)) True (cY E b M' Lm) := by
  refine xMet.ofW (own := RX10) (by decide) rfl (Nat.le_of_ble_eq_true rfl) ?_
  intro p e s m below meth c H locs ls C hm hl
  have hx := C.1.1
  have hb := C.1.2.1
  have hl : lv_has ls 2 [(0, .ref (b + 0)), (1, .int a1)] := hl
  unfold f_X10_far at hf
  refine lv_aload_n hx hb dX10_far_0 rfl (lv_at hl 0 rfl) ?_
  refine lv_iload_n hx hb dX10_far_1 rfl (lv_at hl 1 rfl) ?_
  obtain ⟨v2, M3, hq1, hf⟩ := xb2_e hf
  refine x_callVi (As := [.int a1]) (rest := []) C hm (c_X10_isReached l E b M Lm a1 hq1) rfl cy_0 tc_X10_isReached tm_RX10_464 ti_X10_isReached ts_X10_isReached tn_RX10 td_X10_isReached rfl rfl ⟨Nat.le_of_ble_eq_true rfl, Nat.le_of_ble_eq_true rfl⟩ rfl hl.1 rfl (Nat.le_of_ble_eq_true rfl) ⟨Nat.zero_le _, Nat.zero_le _⟩ dX10_far_2 (fun H locs hP4 hm => ?_)
  refine lv_if_eq (tgt := 17) hx hb dX10_far_5 (by decide) (fun hc5 => ?_) (fun hc5 => ?_)
  · have hf := xif_t hc5 hf
    refine lv_iconst (v := (-1 : Int32)) hx hb dX10_far_17 (by decide) ?_
    cases hf
    exact x_iret C hm trivial dX10_far_18
  have hf := xif_f hc5 hf
  refine lv_aload_n hx hb dX10_far_8 rfl (lv_at hl 0 rfl) ?_
  refine x_get C hm inX10 rfl 24 (by decide) tf_RX10_46 cy_0 rfl dX10_far_9 ?_
  refine lv_iload_n hx hb dX10_far_12 rfl (lv_at hl 1 rfl) ?_
  obtain ⟨hi6, hf⟩ := xif_s hf
  refine x_iald (j := (Int32.toNatClampNeg a1)) C hm cy_10 hi6 dX10_far_13 rfl ?_
  refine lv_goto (tgt := 18) hx hb dX10_far_14 (by decide) ?_
  cases hf
  exact x_iret C hm trivial dX10_far_18
/-! ColouredHeapModel.fault(I)I -/
theorem dX10_fault_0 : decode cX10_fault 0 = .ok (.iload_n 1, 1) := by decide +kernel
theorem dX10_fault_1 : decode cX10_fault 1 = .ok (.ifCond .ne 10, 3) := by decide +kernel
theorem dX10_fault_4 : decode cX10_fault 4 = .ok (.aload_n 0, 1) := by decide +kernel
theorem dX10_fault_5 : decode cX10_fault 5 = .ok (.getfield 22, 3) := by decide +kernel
theorem dX10_fault_8 : decode cX10_fault 8 = .ok (.goto 16, 3) := by decide +kernel
theorem dX10_fault_11 : decode cX10_fault 11 = .ok (.iload_n 1, 1) := by decide +kernel
theorem dX10_fault_12 : decode cX10_fault 12 = .ok (.iconst 1, 1) := by decide +kernel
theorem dX10_fault_13 : decode cX10_fault 13 = .ok (.if_icmp .ne 10, 3) := by decide +kernel
theorem dX10_fault_16 : decode cX10_fault 16 = .ok (.aload_n 0, 1) := by decide +kernel
theorem dX10_fault_17 : decode cX10_fault 17 = .ok (.getfield 26, 3) := by decide +kernel
theorem dX10_fault_20 : decode cX10_fault 20 = .ok (.goto 4, 3) := by decide +kernel
theorem dX10_fault_23 : decode cX10_fault 23 = .ok (.iconst (-1), 1) := by decide +kernel
theorem dX10_fault_24 : decode cX10_fault 24 = .ok (.ireturn, 1) := by decide +kernel
def f_X10_fault (M : xm) (a1 : Int32) : Int32 := (if a1 = 0 then (M 0 5) else (if a1 = (1 : Int32) then (M 0 6) else (-1 : Int32)))
set_option maxHeartbeats 4000000 in
set_option maxRecDepth 20000 in
theorem c_X10_fault (l : Launch) (E : xE) (b : Nat) (M : xm) (Lm : xn) (a1 : Int32) {r : Int32} (hf : f_X10_fault M a1 = r) :
    xMet l E b NY yX10_fault cX10_fault 2 (some .int) (xR 1) [.ref (b + 0), .int a1] (cY E b M Lm) (some (.int r)) True (cY E b M Lm) := by
  refine xMet.ofW (own := RX10) (by decide) rfl (Nat.le_of_ble_eq_true rfl) ?_
  intro p e s m below meth c H locs ls C hm hl
  have hx := C.1.1
  have hb := C.1.2.1
  have hl : lv_has ls 2 [(0, .ref (b + 0)), (1, .int a1)] := hl
  unfold f_X10_fault at hf
  refine lv_iload_n hx hb dX10_fault_0 rfl (lv_at hl 1 rfl) ?_
  refine lv_if_ne (tgt := 11) hx hb dX10_fault_1 (by decide) (fun hc1 => ?_) (fun hc1 => ?_)
  rotate_left
  · have hf := xif_t hc1 hf
    refine lv_aload_n hx hb dX10_fault_4 rfl (lv_at hl 0 rfl) ?_
    refine x_get C hm inX10 rfl 5 (by decide) tf_RX10_22 cy_0 rfl dX10_fault_5 ?_
    refine lv_goto (tgt := 24) hx hb dX10_fault_8 (by decide) ?_
    cases hf
    exact x_iret C hm trivial dX10_fault_24
  have hf := xif_f hc1 hf
  refine lv_iload_n hx hb dX10_fault_11 rfl (lv_at hl 1 rfl) ?_
  refine lv_iconst (v := (1 : Int32)) hx hb dX10_fault_12 (by decide) ?_
  refine lv_icmp_ne (tgt := 23) hx hb dX10_fault_13 (by decide) (fun hc2 => ?_) (fun hc2 => ?_)
  · have hf := xif_f hc2 hf
    refine lv_iconst (v := (-1 : Int32)) hx hb dX10_fault_23 (by decide) ?_
    cases hf
    exact x_iret C hm trivial dX10_fault_24
  have hf := xif_t hc2 hf
  refine lv_aload_n hx hb dX10_fault_16 rfl (lv_at hl 0 rfl) ?_
  refine x_get C hm inX10 rfl 6 (by decide) tf_RX10_26 cy_0 rfl dX10_fault_17 ?_
  refine lv_goto (tgt := 24) hx hb dX10_fault_20 (by decide) ?_
  cases hf
  exact x_iret C hm trivial dX10_fault_24
/-! ColouredHeapModel.four(I)V -/
theorem dX10_four_0 : decode cX10_four 0 = .ok (.bipush 24, 2) := by decide +kernel
theorem dX10_four_2 : decode cX10_four 2 = .ok (.istore_n 2, 1) := by decide +kernel
theorem dX10_four_3 : decode cX10_four 3 = .ok (.iload_n 2, 1) := by decide +kernel
theorem dX10_four_4 : decode cX10_four 4 = .ok (.ifCond .lt 35, 3) := by decide +kernel
theorem dX10_four_7 : decode cX10_four 7 = .ok (.aload_n 0, 1) := by decide +kernel
theorem dX10_four_8 : decode cX10_four 8 = .ok (.getfield 19, 3) := by decide +kernel
theorem dX10_four_11 : decode cX10_four 11 = .ok (.aload_n 0, 1) := by decide +kernel
theorem dX10_four_12 : decode cX10_four 12 = .ok (.getfield 83, 3) := by decide +kernel
theorem dX10_four_15 : decode cX10_four 15 = .ok (.iload_n 1, 1) := by decide +kernel
theorem dX10_four_16 : decode cX10_four 16 = .ok (.iload_n 2, 1) := by decide +kernel
theorem dX10_four_17 : decode cX10_four 17 = .ok (.ishr, 1) := by decide +kernel
theorem dX10_four_18 : decode cX10_four 18 = .ok (.sipush 255, 3) := by decide +kernel
theorem dX10_four_21 : decode cX10_four 21 = .ok (.iand, 1) := by decide +kernel
theorem dX10_four_22 : decode cX10_four 22 = .ok (.iastore, 1) := by decide +kernel
theorem dX10_four_23 : decode cX10_four 23 = .ok (.aload_n 0, 1) := by decide +kernel
theorem dX10_four_24 : decode cX10_four 24 = .ok (.dup, 1) := by decide +kernel
theorem dX10_four_25 : decode cX10_four 25 = .ok (.getfield 83, 3) := by decide +kernel
theorem dX10_four_28 : decode cX10_four 28 = .ok (.iconst 1, 1) := by decide +kernel
theorem dX10_four_29 : decode cX10_four 29 = .ok (.iadd, 1) := by decide +kernel
theorem dX10_four_30 : decode cX10_four 30 = .ok (.putfield 83, 3) := by decide +kernel
theorem dX10_four_33 : decode cX10_four 33 = .ok (.iinc 2 (-8), 3) := by decide +kernel
theorem dX10_four_36 : decode cX10_four 36 = .ok (.goto (-33), 3) := by decide +kernel
theorem dX10_four_39 : decode cX10_four 39 = .ok (.return_, 1) := by decide +kernel
def g_X10_four_3 (x1 : Int32) : Nat → xm → Int32 → Option ((xm))
  | 0, _, _ => none
  | n + 1, M3, x2 => (if x2 < 0 then some (M3) else if xin (M3 0 4) 300 = true then xlet (up2 M3 4 (Int32.toNatClampNeg (M3 0 4)) ((x1 >>> (x2 &&& 31)) &&& (255 : Int32))) (fun M7 => xlet (up2 M7 0 4 ((M7 0 4) + (1 : Int32))) (fun M8 => xlet (x2 + (-8 : Int32)) (fun v9 => g_X10_four_3 x1 n M8 v9))) else none)
def f_X10_four (M : xm) (a1 : Int32) : Option (xm) := xb1 (g_X10_four_3 a1 xfuel M (24 : Int32)) (fun M10 => some M10)
set_option maxHeartbeats 4000000 in
set_option maxRecDepth 20000 in
theorem j_X10_four_3 {p : Program} {l : Launch} {e : Env} {s : State} {m : MethodId} {args : Array Value} {below : List Frame} {meth : Method} {c : Code} {Q : State → Prop} {E : xE} {b : Nat} (C : xC p s m args meth c cX10_four 3 RX10 none E b) {Lm : xn} (x1 : Int32) {y4 : xm}
    (kx0 : ∀ (H : Heap) (locs : List Loc) (ls : Array Slot), xM E b NY (cY E b y4 Lm) s.heap H locs → lv_has ls 3 [] → W p l e (xR 1) s m args below meth c H locs 0 0 Q (F0 m 39 ls [])) :
    ∀ (n : Nat) (M3 : xm) (x2 : Int32) (H : Heap) (locs : List Loc) (ls : Array Slot), g_X10_four_3 x1 n M3 x2 = some y4 → xM E b NY (cY E b M3 Lm) s.heap H locs → lv_has ls 3 [(0, .ref (b + 0)), (1, .int x1), (2, .int x2)] → W p l e (xR 1) s m args below meth c H locs 0 0 Q (F0 m 3 ls []) := by
  have hx := C.1.1
  have hb := C.1.2.1
  intro n
  induction n with
  | zero =>
    intro M3 x2 H locs ls hf hm hl
    rw [g_X10_four_3] at hf
    cases hf
  | succ n ih =>
    intro M3 x2 H locs ls hf hm hl
    rw [g_X10_four_3] at hf
    refine lv_iload_n hx hb dX10_four_3 rfl (lv_at hl 2 rfl) ?_
    refine lv_if_lt (tgt := 39) hx hb dX10_four_4 (by decide) (fun hc5 => ?_) (fun hc5 => ?_)
    · have hf := xif_t hc5 hf
      cases hf
      exact kx0 H locs ls hm (lv_sub hl [] rfl)
    have hf := xif_f hc5 hf
    refine lv_aload_n hx hb dX10_four_7 rfl (lv_at hl 0 rfl) ?_
    refine x_get C hm inX10 rfl 3 (by decide) tf_RX10_19 cy_0 rfl dX10_four_8 ?_
    refine lv_aload_n hx hb dX10_four_11 rfl (lv_at hl 0 rfl) ?_
    refine x_get C hm inX10 rfl 4 (by decide) tf_RX10_83 cy_0 rfl dX10_four_12 ?_
    refine lv_iload_n hx hb dX10_four_15 rfl (lv_at hl 1 rfl) ?_
    refine lv_iload_n hx hb dX10_four_16 rfl (lv_at hl 2 rfl) ?_
    refine lv_ishr hx hb dX10_four_17 ?_
    refine lv_sipush (v := (255 : Int32)) hx hb dX10_four_18 (by decide) ?_
    refine lv_iand hx hb dX10_four_21 ?_
    obtain ⟨hi6, hf⟩ := xif_s hf
    obtain ⟨M7, eM7, hf⟩ := xlet_x hf
    refine x_iast (j := (Int32.toNatClampNeg (M3 0 4))) (cf' := cY E b M7 Lm) C hm cy_4 hi6 dX10_four_22 rfl (by rw [eM7]; exact cyu_4) (by rw [eM7]; exact cY_o) (fun H locs hm => ?_)
    refine lv_aload_n hx hb dX10_four_23 rfl (lv_at hl 0 rfl) ?_
    refine lv_dup hx hb dX10_four_24 rfl ?_
    refine x_get C hm inX10 rfl 4 (by decide) tf_RX10_83 cy_0 rfl dX10_four_25 ?_
    refine lv_iconst (v := (1 : Int32)) hx hb dX10_four_28 (by decide) ?_
    refine lv_iadd hx hb dX10_four_29 ?_
    obtain ⟨M8, eM8, hf⟩ := xlet_x hf
    refine x_put (cf' := cY E b M8 Lm) C hm inX10 tyX10 tyX10_ok nmX10 rfl 4 (by decide) tf_RX10_83 rfl rfl rfl cy_0 (Nat.le_of_ble_eq_true rfl) (by rw [eM8]; exact cyf_4) (by rw [eM8]; exact cY_o) dX10_four_30 (fun H locs hm => ?_)
    obtain ⟨v9, ev9, hf⟩ := xlet_x hf
    refine lv_iinc (v := v9) (lv' := [(2, .int v9), (0, .ref (b + 0)), (1, .int x1)]) hx hb dX10_four_33 hl (k := 2) rfl (by rw [ev9]; rfl) (by decide) rfl (fun ls hl => ?_)
    refine lv_goto (tgt := 3) hx hb dX10_four_36 (by decide) ?_
    exact ih M8 v9 H locs ls hf hm (lv_sub hl [1, 2, 0] rfl)
set_option maxHeartbeats 4000000 in
set_option maxRecDepth 20000 in
theorem c_X10_four (l : Launch) (E : xE) (b : Nat) (M : xm) (Lm : xn) (a1 : Int32) {M' : xm} (hf : f_X10_four M a1 = some M') :
    xMet l E b NY yX10_four cX10_four 3 none (xR 1) [.ref (b + 0), .int a1] (cY E b M Lm) none True (cY E b M' Lm) := by
  refine xMet.ofW (own := RX10) (by decide) rfl (Nat.le_of_ble_eq_true rfl) ?_
  intro p e s m below meth c H locs ls C hm hl
  have hx := C.1.1
  have hb := C.1.2.1
  have hl : lv_has ls 3 [(0, .ref (b + 0)), (1, .int a1)] := hl
  unfold f_X10_four at hf
  refine lv_bipush (v := (24 : Int32)) hx hb dX10_four_0 (by decide) ?_
  refine lv_istore_n (lv' := [(2, .int (24 : Int32)), (0, .ref (b + 0)), (1, .int a1)]) hx hb dX10_four_2 rfl hl (by decide) rfl (fun ls hl => ?_)
  obtain ⟨M10, hq, hf⟩ := xb1_e hf
  refine j_X10_four_3 C a1 (fun H locs ls hm hl => ?_) xfuel M (24 : Int32) H locs ls hq hm (lv_sub hl [1, 2, 0] rfl)
  cases hf
  exact x_vret C hm trivial dX10_four_39
/-! ColouredHeapModel.feed(IIIII)I -/
theorem dX10_feed_0 : decode cX10_feed 0 = .ok (.aload_n 0, 1) := by decide +kernel
theorem dX10_feed_1 : decode cX10_feed 1 = .ok (.getfield 83, 3) := by decide +kernel
theorem dX10_feed_4 : decode cX10_feed 4 = .ok (.bipush 20, 2) := by decide +kernel
theorem dX10_feed_6 : decode cX10_feed 6 = .ok (.iadd, 1) := by decide +kernel
theorem dX10_feed_7 : decode cX10_feed 7 = .ok (.sipush 300, 3) := by decide +kernel
theorem dX10_feed_10 : decode cX10_feed 10 = .ok (.if_icmp .le 5, 3) := by decide +kernel
theorem dX10_feed_13 : decode cX10_feed 13 = .ok (.iconst (-1), 1) := by decide +kernel
theorem dX10_feed_14 : decode cX10_feed 14 = .ok (.ireturn, 1) := by decide +kernel
theorem dX10_feed_15 : decode cX10_feed 15 = .ok (.aload_n 0, 1) := by decide +kernel
theorem dX10_feed_16 : decode cX10_feed 16 = .ok (.iload_n 1, 1) := by decide +kernel
theorem dX10_feed_17 : decode cX10_feed 17 = .ok (.invokevirtual 86, 3) := by decide +kernel
theorem dX10_feed_20 : decode cX10_feed 20 = .ok (.aload_n 0, 1) := by decide +kernel
theorem dX10_feed_21 : decode cX10_feed 21 = .ok (.iload_n 2, 1) := by decide +kernel
theorem dX10_feed_22 : decode cX10_feed 22 = .ok (.invokevirtual 86, 3) := by decide +kernel
theorem dX10_feed_25 : decode cX10_feed 25 = .ok (.aload_n 0, 1) := by decide +kernel
theorem dX10_feed_26 : decode cX10_feed 26 = .ok (.iload_n 3, 1) := by decide +kernel
theorem dX10_feed_27 : decode cX10_feed 27 = .ok (.invokevirtual 86, 3) := by decide +kernel
theorem dX10_feed_30 : decode cX10_feed 30 = .ok (.aload_n 0, 1) := by decide +kernel
theorem dX10_feed_31 : decode cX10_feed 31 = .ok (.iload 4, 2) := by decide +kernel
theorem dX10_feed_33 : decode cX10_feed 33 = .ok (.invokevirtual 86, 3) := by decide +kernel
theorem dX10_feed_36 : decode cX10_feed 36 = .ok (.aload_n 0, 1) := by decide +kernel
theorem dX10_feed_37 : decode cX10_feed 37 = .ok (.iload 5, 2) := by decide +kernel
theorem dX10_feed_39 : decode cX10_feed 39 = .ok (.invokevirtual 86, 3) := by decide +kernel
theorem dX10_feed_42 : decode cX10_feed 42 = .ok (.aload_n 0, 1) := by decide +kernel
theorem dX10_feed_43 : decode cX10_feed 43 = .ok (.getfield 83, 3) := by decide +kernel
theorem dX10_feed_46 : decode cX10_feed 46 = .ok (.ireturn, 1) := by decide +kernel
def f_X10_feed (M : xm) (a1 : Int32) (a2 : Int32) (a3 : Int32) (a4 : Int32) (a5 : Int32) : Option (Int32 × xm) := (if ((M 0 4) + (20 : Int32)) ≤ (300 : Int32) then xb1 (f_X10_four M a1) (fun M3 => xb1 (f_X10_four M3 a2) (fun M6 => xb1 (f_X10_four M6 a3) (fun M9 => xb1 (f_X10_four M9 a4) (fun M12 => xb1 (f_X10_four M12 a5) (fun M15 => some ((M15 0 4), M15)))))) else some ((-1 : Int32), M))
set_option maxHeartbeats 4000000 in
set_option maxRecDepth 20000 in
theorem c_X10_feed (l : Launch) (E : xE) (b : Nat) (M : xm) (Lm : xn) (a1 : Int32) (a2 : Int32) (a3 : Int32) (a4 : Int32) (a5 : Int32) {r : Int32} {M' : xm} (hf : f_X10_feed M a1 a2 a3 a4 a5 = some (r, M')) :
    xMet l E b NY yX10_feed cX10_feed 6 (some .int) (xR 2) [.ref (b + 0), .int a1, .int a2, .int a3, .int a4, .int a5] (cY E b M Lm) (some (.int r)) True (cY E b M' Lm) := by
  refine xMet.ofW (own := RX10) (by decide) rfl (Nat.le_of_ble_eq_true rfl) ?_
  intro p e s m below meth c H locs ls C hm hl
  have hx := C.1.1
  have hb := C.1.2.1
  have hl : lv_has ls 6 [(0, .ref (b + 0)), (1, .int a1), (2, .int a2), (3, .int a3), (4, .int a4), (5, .int a5)] := hl
  unfold f_X10_feed at hf
  refine lv_aload_n hx hb dX10_feed_0 rfl (lv_at hl 0 rfl) ?_
  refine x_get C hm inX10 rfl 4 (by decide) tf_RX10_83 cy_0 rfl dX10_feed_1 ?_
  refine lv_bipush (v := (20 : Int32)) hx hb dX10_feed_4 (by decide) ?_
  refine lv_iadd hx hb dX10_feed_6 ?_
  refine lv_sipush (v := (300 : Int32)) hx hb dX10_feed_7 (by decide) ?_
  refine lv_icmp_le (tgt := 15) hx hb dX10_feed_10 (by decide) (fun hc1 => ?_) (fun hc1 => ?_)
  rotate_left
  · have hf := xif_f hc1 hf
    refine lv_iconst (v := (-1 : Int32)) hx hb dX10_feed_13 (by decide) ?_
    cases hf
    exact x_iret C hm trivial dX10_feed_14
  have hf := xif_t hc1 hf
  refine lv_aload_n hx hb dX10_feed_15 rfl (lv_at hl 0 rfl) ?_
  refine lv_iload_n hx hb dX10_feed_16 rfl (lv_at hl 1 rfl) ?_
  obtain ⟨M3, hq2, hf⟩ := xb1_e hf
  refine x_callVv (As := [.int a1]) (rest := []) C hm (c_X10_four l E b M Lm a1 hq2) rfl cy_0 tc_X10_four tm_RX10_86 ti_X10_four ts_X10_four tn_RX10 td_X10_four rfl rfl ⟨Nat.le_of_ble_eq_true rfl, Nat.le_of_ble_eq_true rfl⟩ rfl hl.1 rfl (Nat.le_of_ble_eq_true rfl) ⟨Nat.zero_le _, Nat.zero_le _⟩ dX10_feed_17 (fun H locs hP4 hm => ?_)
  refine lv_aload_n hx hb dX10_feed_20 rfl (lv_at hl 0 rfl) ?_
  refine lv_iload_n hx hb dX10_feed_21 rfl (lv_at hl 2 rfl) ?_
  obtain ⟨M6, hq5, hf⟩ := xb1_e hf
  refine x_callVv (As := [.int a2]) (rest := []) C hm (c_X10_four l E b M3 Lm a2 hq5) rfl cy_0 tc_X10_four tm_RX10_86 ti_X10_four ts_X10_four tn_RX10 td_X10_four rfl rfl ⟨Nat.le_of_ble_eq_true rfl, Nat.le_of_ble_eq_true rfl⟩ rfl hl.1 rfl (Nat.le_of_ble_eq_true rfl) ⟨Nat.zero_le _, Nat.zero_le _⟩ dX10_feed_22 (fun H locs hP7 hm => ?_)
  refine lv_aload_n hx hb dX10_feed_25 rfl (lv_at hl 0 rfl) ?_
  refine lv_iload_n hx hb dX10_feed_26 rfl (lv_at hl 3 rfl) ?_
  obtain ⟨M9, hq8, hf⟩ := xb1_e hf
  refine x_callVv (As := [.int a3]) (rest := []) C hm (c_X10_four l E b M6 Lm a3 hq8) rfl cy_0 tc_X10_four tm_RX10_86 ti_X10_four ts_X10_four tn_RX10 td_X10_four rfl rfl ⟨Nat.le_of_ble_eq_true rfl, Nat.le_of_ble_eq_true rfl⟩ rfl hl.1 rfl (Nat.le_of_ble_eq_true rfl) ⟨Nat.zero_le _, Nat.zero_le _⟩ dX10_feed_27 (fun H locs hP10 hm => ?_)
  refine lv_aload_n hx hb dX10_feed_30 rfl (lv_at hl 0 rfl) ?_
  refine lv_iload hx hb dX10_feed_31 (lv_at hl 4 rfl) ?_
  obtain ⟨M12, hq11, hf⟩ := xb1_e hf
  refine x_callVv (As := [.int a4]) (rest := []) C hm (c_X10_four l E b M9 Lm a4 hq11) rfl cy_0 tc_X10_four tm_RX10_86 ti_X10_four ts_X10_four tn_RX10 td_X10_four rfl rfl ⟨Nat.le_of_ble_eq_true rfl, Nat.le_of_ble_eq_true rfl⟩ rfl hl.1 rfl (Nat.le_of_ble_eq_true rfl) ⟨Nat.zero_le _, Nat.zero_le _⟩ dX10_feed_33 (fun H locs hP13 hm => ?_)
  refine lv_aload_n hx hb dX10_feed_36 rfl (lv_at hl 0 rfl) ?_
  refine lv_iload hx hb dX10_feed_37 (lv_at hl 5 rfl) ?_
  obtain ⟨M15, hq14, hf⟩ := xb1_e hf
  refine x_callVv (As := [.int a5]) (rest := []) C hm (c_X10_four l E b M12 Lm a5 hq14) rfl cy_0 tc_X10_four tm_RX10_86 ti_X10_four ts_X10_four tn_RX10 td_X10_four rfl rfl ⟨Nat.le_of_ble_eq_true rfl, Nat.le_of_ble_eq_true rfl⟩ rfl hl.1 rfl (Nat.le_of_ble_eq_true rfl) ⟨Nat.zero_le _, Nat.zero_le _⟩ dX10_feed_39 (fun H locs hP16 hm => ?_)
  refine lv_aload_n hx hb dX10_feed_42 rfl (lv_at hl 0 rfl) ?_
  refine x_get C hm inX10 rfl 4 (by decide) tf_RX10_83 cy_0 rfl dX10_feed_43 ?_
  cases hf
  exact x_iret C hm trivial dX10_feed_46
/-! ColouredHeapModel.finish(II)I -/
theorem dX10_finish_0 : decode cX10_finish 0 = .ok (.iload_n 1, 1) := by decide +kernel
theorem dX10_finish_1 : decode cX10_finish 1 = .ok (.invokestatic 412, 3) := by decide +kernel
theorem dX10_finish_4 : decode cX10_finish 4 = .ok (.ifCond .eq 18, 3) := by decide +kernel
theorem dX10_finish_7 : decode cX10_finish 7 = .ok (.iload_n 2, 1) := by decide +kernel
theorem dX10_finish_8 : decode cX10_finish 8 = .ok (.invokestatic 349, 3) := by decide +kernel
theorem dX10_finish_11 : decode cX10_finish 11 = .ok (.ifCond .eq 11, 3) := by decide +kernel
theorem dX10_finish_14 : decode cX10_finish 14 = .ok (.aload_n 0, 1) := by decide +kernel
theorem dX10_finish_15 : decode cX10_finish 15 = .ok (.iload_n 1, 1) := by decide +kernel
theorem dX10_finish_16 : decode cX10_finish 16 = .ok (.invokevirtual 71, 3) := by decide +kernel
theorem dX10_finish_19 : decode cX10_finish 19 = .ok (.ifCond .ne 6, 3) := by decide +kernel
theorem dX10_finish_22 : decode cX10_finish 22 = .ok (.bipush (-2), 2) := by decide +kernel
theorem dX10_finish_24 : decode cX10_finish 24 = .ok (.ireturn, 1) := by decide +kernel
theorem dX10_finish_25 : decode cX10_finish 25 = .ok (.aload_n 0, 1) := by decide +kernel
theorem dX10_finish_26 : decode cX10_finish 26 = .ok (.invokevirtual 397, 3) := by decide +kernel
theorem dX10_finish_29 : decode cX10_finish 29 = .ok (.aload_n 0, 1) := by decide +kernel
theorem dX10_finish_30 : decode cX10_finish 30 = .ok (.iload_n 1, 1) := by decide +kernel
theorem dX10_finish_31 : decode cX10_finish 31 = .ok (.iload_n 2, 1) := by decide +kernel
theorem dX10_finish_32 : decode cX10_finish 32 = .ok (.invokevirtual 418, 3) := by decide +kernel
theorem dX10_finish_35 : decode cX10_finish 35 = .ok (.ireturn, 1) := by decide +kernel
def f_X10_finish (M : xm) (a1 : Int32) (a2 : Int32) : Option (Int32 × xm) := (if (f_X10_isThread a1) = 0 then some ((-2 : Int32), M) else (if (f_X10_isRoot a2) = 0 then some ((-2 : Int32), M) else xb1 (f_X10_isBegun M a1) (fun v6 => (if v6 = 0 then some ((-2 : Int32), M) else xb1 (f_X10_keep M) (fun M10 => xb2 (f_X10_finishNow M10 a1 a2) (fun v13 M14 => some (v13, M14)))))))
set_option maxHeartbeats 4000000 in
set_option maxRecDepth 20000 in
theorem c_X10_finish (l : Launch) (E : xE) (b : Nat) (M : xm) (Lm : xn) (a1 : Int32) (a2 : Int32) {r : Int32} {M' : xm} (hf : f_X10_finish M a1 a2 = some (r, M')) :
    xMet l E b NY yX10_finish cX10_finish 3 (some .int) (xR 7) [.ref (b + 0), .int a1, .int a2] (cY E b M Lm) (some (.int r)) True (cY E b M' Lm) := by
  refine xMet.ofW (own := RX10) (by decide) rfl (Nat.le_of_ble_eq_true rfl) ?_
  intro p e s m below meth c H locs ls C hm hl
  have hx := C.1.1
  have hb := C.1.2.1
  have hl : lv_has ls 3 [(0, .ref (b + 0)), (1, .int a1), (2, .int a2)] := hl
  unfold f_X10_finish at hf
  refine lv_iload_n hx hb dX10_finish_0 rfl (lv_at hl 1 rfl) ?_
  refine x_callSi (As := [.int a1]) (rest := []) C hm (c_X10_isThread l E b M Lm a1 rfl) tc_X10_isThread tm_RX10_412 tz_X10_isThread tn_RX10 td_X10_isThread rfl rfl ⟨Nat.le_of_ble_eq_true rfl, Nat.le_of_ble_eq_true rfl⟩ rfl hl.1 rfl (Nat.le_of_ble_eq_true rfl) ⟨Nat.zero_le _, Nat.zero_le _⟩ dX10_finish_1 (fun H locs hP1 hm => ?_)
  refine lv_if_eq (tgt := 22) hx hb dX10_finish_4 (by decide) (fun hc2 => ?_) (fun hc2 => ?_)
  · have hf := xif_t hc2 hf
    refine lv_bipush (v := (-2 : Int32)) hx hb dX10_finish_22 (by decide) ?_
    cases hf
    exact x_iret C hm trivial dX10_finish_24
  have hf := xif_f hc2 hf
  refine lv_iload_n hx hb dX10_finish_7 rfl (lv_at hl 2 rfl) ?_
  refine x_callSi (As := [.int a2]) (rest := []) C hm (c_X10_isRoot l E b M Lm a2 rfl) tc_X10_isRoot tm_RX10_349 tz_X10_isRoot tn_RX10 td_X10_isRoot rfl rfl ⟨Nat.le_of_ble_eq_true rfl, Nat.le_of_ble_eq_true rfl⟩ rfl hl.1 rfl (Nat.le_of_ble_eq_true rfl) ⟨Nat.zero_le _, Nat.zero_le _⟩ dX10_finish_8 (fun H locs hP3 hm => ?_)
  refine lv_if_eq (tgt := 22) hx hb dX10_finish_11 (by decide) (fun hc4 => ?_) (fun hc4 => ?_)
  · have hf := xif_t hc4 hf
    refine lv_bipush (v := (-2 : Int32)) hx hb dX10_finish_22 (by decide) ?_
    cases hf
    exact x_iret C hm trivial dX10_finish_24
  have hf := xif_f hc4 hf
  refine lv_aload_n hx hb dX10_finish_14 rfl (lv_at hl 0 rfl) ?_
  refine lv_iload_n hx hb dX10_finish_15 rfl (lv_at hl 1 rfl) ?_
  obtain ⟨v6, hq5, hf⟩ := xb1_e hf
  refine x_callVi (As := [.int a1]) (rest := []) C hm (c_X10_isBegun l E b M Lm a1 hq5) rfl cy_0 tc_X10_isBegun tm_RX10_71 ti_X10_isBegun ts_X10_isBegun tn_RX10 td_X10_isBegun rfl rfl ⟨Nat.le_of_ble_eq_true rfl, Nat.le_of_ble_eq_true rfl⟩ rfl hl.1 rfl (Nat.le_of_ble_eq_true rfl) ⟨Nat.zero_le _, Nat.zero_le _⟩ dX10_finish_16 (fun H locs hP7 hm => ?_)
  refine lv_if_ne (tgt := 25) hx hb dX10_finish_19 (by decide) (fun hc8 => ?_) (fun hc8 => ?_)
  rotate_left
  · have hf := xif_t hc8 hf
    refine lv_bipush (v := (-2 : Int32)) hx hb dX10_finish_22 (by decide) ?_
    cases hf
    exact x_iret C hm trivial dX10_finish_24
  have hf := xif_f hc8 hf
  refine lv_aload_n hx hb dX10_finish_25 rfl (lv_at hl 0 rfl) ?_
  obtain ⟨M10, hq9, hf⟩ := xb1_e hf
  refine x_callVv (As := []) (rest := []) C hm (c_X10_keep l E b M Lm hq9) rfl cy_0 tc_X10_keep tm_RX10_397 ti_X10_keep ts_X10_keep tn_RX10 td_X10_keep rfl rfl ⟨Nat.le_of_ble_eq_true rfl, Nat.le_of_ble_eq_true rfl⟩ rfl hl.1 rfl (Nat.le_of_ble_eq_true rfl) ⟨Nat.zero_le _, Nat.zero_le _⟩ dX10_finish_26 (fun H locs hP11 hm => ?_)
  refine lv_aload_n hx hb dX10_finish_29 rfl (lv_at hl 0 rfl) ?_
  refine lv_iload_n hx hb dX10_finish_30 rfl (lv_at hl 1 rfl) ?_
  refine lv_iload_n hx hb dX10_finish_31 rfl (lv_at hl 2 rfl) ?_
  obtain ⟨v13, M14, hq12, hf⟩ := xb2_e hf
  refine x_callVi (As := [.int a1, .int a2]) (rest := []) C hm (c_X10_finishNow l E b M10 Lm a1 a2 hq12) rfl cy_0 tc_X10_finishNow tm_RX10_418 ti_X10_finishNow ts_X10_finishNow tn_RX10 td_X10_finishNow rfl rfl ⟨Nat.le_of_ble_eq_true rfl, Nat.le_of_ble_eq_true rfl⟩ rfl hl.1 rfl (Nat.le_of_ble_eq_true rfl) ⟨Nat.zero_le _, Nat.zero_le _⟩ dX10_finish_32 (fun H locs hP15 hm => ?_)
  cases hf
  exact x_iret C hm trivial dX10_finish_35
/-! ColouredHeapModel.foretold(II)I -/
theorem dX10_foretold_0 : decode cX10_foretold 0 = .ok (.iload_n 1, 1) := by decide +kernel
theorem dX10_foretold_1 : decode cX10_foretold 1 = .ok (.iconst 1, 1) := by decide +kernel
theorem dX10_foretold_2 : decode cX10_foretold 2 = .ok (.bipush 60, 2) := by decide +kernel
theorem dX10_foretold_4 : decode cX10_foretold 4 = .ok (.invokestatic 59, 3) := by decide +kernel
theorem dX10_foretold_7 : decode cX10_foretold 7 = .ok (.ifCond .eq 12, 3) := by decide +kernel
theorem dX10_foretold_10 : decode cX10_foretold 10 = .ok (.iload_n 2, 1) := by decide +kernel
theorem dX10_foretold_11 : decode cX10_foretold 11 = .ok (.iconst 0, 1) := by decide +kernel
theorem dX10_foretold_12 : decode cX10_foretold 12 = .ok (.iconst 1, 1) := by decide +kernel
theorem dX10_foretold_13 : decode cX10_foretold 13 = .ok (.invokestatic 59, 3) := by decide +kernel
theorem dX10_foretold_16 : decode cX10_foretold 16 = .ok (.ifCond .ne 5, 3) := by decide +kernel
theorem dX10_foretold_19 : decode cX10_foretold 19 = .ok (.iconst (-1), 1) := by decide +kernel
theorem dX10_foretold_20 : decode cX10_foretold 20 = .ok (.ireturn, 1) := by decide +kernel
theorem dX10_foretold_21 : decode cX10_foretold 21 = .ok (.aload_n 0, 1) := by decide +kernel
theorem dX10_foretold_22 : decode cX10_foretold 22 = .ok (.invokevirtual 451, 3) := by decide +kernel
theorem dX10_foretold_25 : decode cX10_foretold 25 = .ok (.iconst 0, 1) := by decide +kernel
theorem dX10_foretold_26 : decode cX10_foretold 26 = .ok (.istore_n 3, 1) := by decide +kernel
theorem dX10_foretold_27 : decode cX10_foretold 27 = .ok (.iload_n 3, 1) := by decide +kernel
theorem dX10_foretold_28 : decode cX10_foretold 28 = .ok (.iload_n 1, 1) := by decide +kernel
theorem dX10_foretold_29 : decode cX10_foretold 29 = .ok (.if_icmp .ge 25, 3) := by decide +kernel
theorem dX10_foretold_32 : decode cX10_foretold 32 = .ok (.aload_n 0, 1) := by decide +kernel
theorem dX10_foretold_33 : decode cX10_foretold 33 = .ok (.getfield 7, 3) := by decide +kernel
theorem dX10_foretold_36 : decode cX10_foretold 36 = .ok (.iconst 4, 1) := by decide +kernel
theorem dX10_foretold_37 : decode cX10_foretold 37 = .ok (.iaload, 1) := by decide +kernel
theorem dX10_foretold_38 : decode cX10_foretold 38 = .ok (.sipush 9999, 3) := by decide +kernel
theorem dX10_foretold_41 : decode cX10_foretold 41 = .ok (.if_icmp .ge 7, 3) := by decide +kernel
theorem dX10_foretold_44 : decode cX10_foretold 44 = .ok (.aload_n 0, 1) := by decide +kernel
theorem dX10_foretold_45 : decode cX10_foretold 45 = .ok (.invokevirtual 403, 3) := by decide +kernel
theorem dX10_foretold_48 : decode cX10_foretold 48 = .ok (.iinc 3 1, 3) := by decide +kernel
theorem dX10_foretold_51 : decode cX10_foretold 51 = .ok (.goto (-24), 3) := by decide +kernel
theorem dX10_foretold_54 : decode cX10_foretold 54 = .ok (.iload_n 2, 1) := by decide +kernel
theorem dX10_foretold_55 : decode cX10_foretold 55 = .ok (.ifCond .ne 13, 3) := by decide +kernel
theorem dX10_foretold_58 : decode cX10_foretold 58 = .ok (.aload_n 0, 1) := by decide +kernel
theorem dX10_foretold_59 : decode cX10_foretold 59 = .ok (.getfield 7, 3) := by decide +kernel
theorem dX10_foretold_62 : decode cX10_foretold 62 = .ok (.bipush 6, 2) := by decide +kernel
theorem dX10_foretold_64 : decode cX10_foretold 64 = .ok (.iaload, 1) := by decide +kernel
theorem dX10_foretold_65 : decode cX10_foretold 65 = .ok (.goto 7, 3) := by decide +kernel
theorem dX10_foretold_68 : decode cX10_foretold 68 = .ok (.aload_n 0, 1) := by decide +kernel
theorem dX10_foretold_69 : decode cX10_foretold 69 = .ok (.invokevirtual 285, 3) := by decide +kernel
theorem dX10_foretold_72 : decode cX10_foretold 72 = .ok (.istore_n 3, 1) := by decide +kernel
theorem dX10_foretold_73 : decode cX10_foretold 73 = .ok (.aload_n 0, 1) := by decide +kernel
theorem dX10_foretold_74 : decode cX10_foretold 74 = .ok (.invokevirtual 454, 3) := by decide +kernel
theorem dX10_foretold_77 : decode cX10_foretold 77 = .ok (.iload_n 3, 1) := by decide +kernel
theorem dX10_foretold_78 : decode cX10_foretold 78 = .ok (.ireturn, 1) := by decide +kernel
def g_X10_foretold_27 (x8 : Int32) (x9 : Int32) : Nat → xm → xn → Int32 → Option ((xm × xn))
  | 0, _, _, _ => none
  | n + 1, M11, L12, x10 => (if x8 ≤ x10 then some ((M11, L12)) else (if (9999 : Int32) ≤ (M11 1 4) then xlet (x10 + (1 : Int32)) (fun v17 => g_X10_foretold_27 x8 x9 n M11 L12 v17) else xb2 (f_X10_tick M11 L12) (fun M19 L20 => xlet (x10 + (1 : Int32)) (fun v22 => g_X10_foretold_27 x8 x9 n M19 L20 v22))))
def f_X10_foretold (M : xm) (Lm : xn) (a1 : Int32) (a2 : Int32) : Option (Int32 × xm × xn) := (if (f_X10_isIn a1 (1 : Int32) (60 : Int32)) = 0 then some ((-1 : Int32), M, Lm) else (if (f_X10_isIn a2 (0 : Int32) (1 : Int32)) = 0 then some ((-1 : Int32), M, Lm) else xb1 (f_X10_putAside M) (fun M6 => xb2 (g_X10_foretold_27 a1 a2 xfuel M6 Lm (0 : Int32)) (fun M23 L24 => xlet (fun (w25 : Int32) => xb1 (f_X10_bringBack M23) (fun M28 => some (w25, M28, L24))) (fun k26 => (if a2 = 0 then (k26 (M23 1 6)) else xb1 (f_X10_freePages M23) (fun v32 => (k26 v32))))))))
set_option maxHeartbeats 4000000 in
set_option maxRecDepth 20000 in
theorem j_X10_foretold_27 {p : Program} {l : Launch} {e : Env} {s : State} {m : MethodId} {args : Array Value} {below : List Frame} {meth : Method} {c : Code} {Q : State → Prop} {E : xE} {b : Nat} (C : xC p s m args meth c cX10_foretold 4 RX10 (some .int) E b) (x8 : Int32) (x9 : Int32) {y13 : xm} {y14 : xn}
    (kx0 : ∀ (H : Heap) (locs : List Loc) (ls : Array Slot), xM E b NY (cY E b y13 y14) s.heap H locs → lv_has ls 4 [(0, .ref (b + 0)), (2, .int x9)] → W p l e (xR 10) s m args below meth c H locs 0 0 Q (F0 m 54 ls [])) :
    ∀ (n : Nat) (M11 : xm) (L12 : xn) (x10 : Int32) (H : Heap) (locs : List Loc) (ls : Array Slot), g_X10_foretold_27 x8 x9 n M11 L12 x10 = some (y13, y14) → xM E b NY (cY E b M11 L12) s.heap H locs → lv_has ls 4 [(0, .ref (b + 0)), (1, .int x8), (2, .int x9), (3, .int x10)] → W p l e (xR 10) s m args below meth c H locs 0 0 Q (F0 m 27 ls []) := by
  have hx := C.1.1
  have hb := C.1.2.1
  intro n
  induction n with
  | zero =>
    intro M11 L12 x10 H locs ls hf hm hl
    rw [g_X10_foretold_27] at hf
    cases hf
  | succ n ih =>
    intro M11 L12 x10 H locs ls hf hm hl
    rw [g_X10_foretold_27] at hf
    refine lv_iload_n hx hb dX10_foretold_27 rfl (lv_at hl 3 rfl) ?_
    refine lv_iload_n hx hb dX10_foretold_28 rfl (lv_at hl 1 rfl) ?_
    refine lv_icmp_ge (tgt := 54) hx hb dX10_foretold_29 (by decide) (fun hc15 => ?_) (fun hc15 => ?_)
    · have hf := xif_t hc15 hf
      cases hf
      exact kx0 H locs ls hm (lv_sub hl [0, 2] rfl)
    have hf := xif_f hc15 hf
    refine lv_aload_n hx hb dX10_foretold_32 rfl (lv_at hl 0 rfl) ?_
    refine x_get C hm inX10 rfl 0 (by decide) tf_RX10_7 cy_0 rfl dX10_foretold_33 ?_
    refine lv_iconst (v := (4 : Int32)) hx hb dX10_foretold_36 (by decide) ?_
    refine x_iald (j := 4) C hm cy_1 (by decide) dX10_foretold_37 (by decide) ?_
    refine lv_sipush (v := (9999 : Int32)) hx hb dX10_foretold_38 (by decide) ?_
    refine lv_icmp_ge (tgt := 48) hx hb dX10_foretold_41 (by decide) (fun hc16 => ?_) (fun hc16 => ?_)
    · have hf := xif_t hc16 hf
      obtain ⟨v17, ev17, hf⟩ := xlet_x hf
      refine lv_iinc (v := v17) (lv' := [(3, .int v17), (0, .ref (b + 0)), (1, .int x8), (2, .int x9)]) hx hb dX10_foretold_48 hl (k := 3) rfl (by rw [ev17]; rfl) (by decide) rfl (fun ls hl => ?_)
      refine lv_goto (tgt := 27) hx hb dX10_foretold_51 (by decide) ?_
      exact ih M11 L12 v17 H locs ls hf hm (lv_sub hl [1, 2, 3, 0] rfl)
    have hf := xif_f hc16 hf
    refine lv_aload_n hx hb dX10_foretold_44 rfl (lv_at hl 0 rfl) ?_
    obtain ⟨M19, L20, hq18, hf⟩ := xb2_e hf
    refine x_callVv (As := []) (rest := []) C hm (c_X10_tick l E b M11 L12 hq18) rfl cy_0 tc_X10_tick tm_RX10_403 ti_X10_tick ts_X10_tick tn_RX10 td_X10_tick rfl rfl ⟨Nat.le_of_ble_eq_true rfl, Nat.le_of_ble_eq_true rfl⟩ rfl hl.1 rfl (Nat.le_of_ble_eq_true rfl) ⟨Nat.zero_le _, Nat.zero_le _⟩ dX10_foretold_45 (fun H locs hP21 hm => ?_)
    obtain ⟨v22, ev22, hf⟩ := xlet_x hf
    refine lv_iinc (v := v22) (lv' := [(3, .int v22), (0, .ref (b + 0)), (1, .int x8), (2, .int x9)]) hx hb dX10_foretold_48 hl (k := 3) rfl (by rw [ev22]; rfl) (by decide) rfl (fun ls hl => ?_)
    refine lv_goto (tgt := 27) hx hb dX10_foretold_51 (by decide) ?_
    exact ih M19 L20 v22 H locs ls hf hm (lv_sub hl [1, 2, 3, 0] rfl)
set_option maxHeartbeats 4000000 in
set_option maxRecDepth 20000 in
theorem c_X10_foretold (l : Launch) (E : xE) (b : Nat) (M : xm) (Lm : xn) (a1 : Int32) (a2 : Int32) {r : Int32} {M' : xm} {L' : xn} (hf : f_X10_foretold M Lm a1 a2 = some (r, M', L')) :
    xMet l E b NY yX10_foretold cX10_foretold 4 (some .int) (xR 10) [.ref (b + 0), .int a1, .int a2] (cY E b M Lm) (some (.int r)) True (cY E b M' L') := by
  refine xMet.ofW (own := RX10) (by decide) rfl (Nat.le_of_ble_eq_true rfl) ?_
  intro p e s m below meth c H locs ls C hm hl
  have hx := C.1.1
  have hb := C.1.2.1
  have hl : lv_has ls 4 [(0, .ref (b + 0)), (1, .int a1), (2, .int a2)] := hl
  unfold f_X10_foretold at hf
  refine lv_iload_n hx hb dX10_foretold_0 rfl (lv_at hl 1 rfl) ?_
  refine lv_iconst (v := (1 : Int32)) hx hb dX10_foretold_1 (by decide) ?_
  refine lv_bipush (v := (60 : Int32)) hx hb dX10_foretold_2 (by decide) ?_
  refine x_callSi (As := [.int a1, .int (1 : Int32), .int (60 : Int32)]) (rest := []) C hm (c_X10_isIn l E b M Lm a1 (1 : Int32) (60 : Int32) rfl) tc_X10_isIn tm_RX10_59 tz_X10_isIn tn_RX10 td_X10_isIn rfl rfl ⟨Nat.le_of_ble_eq_true rfl, Nat.le_of_ble_eq_true rfl⟩ rfl hl.1 rfl (Nat.le_of_ble_eq_true rfl) ⟨Nat.zero_le _, Nat.zero_le _⟩ dX10_foretold_4 (fun H locs hP1 hm => ?_)
  refine lv_if_eq (tgt := 19) hx hb dX10_foretold_7 (by decide) (fun hc2 => ?_) (fun hc2 => ?_)
  · have hf := xif_t hc2 hf
    refine lv_iconst (v := (-1 : Int32)) hx hb dX10_foretold_19 (by decide) ?_
    cases hf
    exact x_iret C hm trivial dX10_foretold_20
  have hf := xif_f hc2 hf
  refine lv_iload_n hx hb dX10_foretold_10 rfl (lv_at hl 2 rfl) ?_
  refine lv_iconst (v := (0 : Int32)) hx hb dX10_foretold_11 (by decide) ?_
  refine lv_iconst (v := (1 : Int32)) hx hb dX10_foretold_12 (by decide) ?_
  refine x_callSi (As := [.int a2, .int (0 : Int32), .int (1 : Int32)]) (rest := []) C hm (c_X10_isIn l E b M Lm a2 (0 : Int32) (1 : Int32) rfl) tc_X10_isIn tm_RX10_59 tz_X10_isIn tn_RX10 td_X10_isIn rfl rfl ⟨Nat.le_of_ble_eq_true rfl, Nat.le_of_ble_eq_true rfl⟩ rfl hl.1 rfl (Nat.le_of_ble_eq_true rfl) ⟨Nat.zero_le _, Nat.zero_le _⟩ dX10_foretold_13 (fun H locs hP3 hm => ?_)
  refine lv_if_ne (tgt := 21) hx hb dX10_foretold_16 (by decide) (fun hc4 => ?_) (fun hc4 => ?_)
  rotate_left
  · have hf := xif_t hc4 hf
    refine lv_iconst (v := (-1 : Int32)) hx hb dX10_foretold_19 (by decide) ?_
    cases hf
    exact x_iret C hm trivial dX10_foretold_20
  have hf := xif_f hc4 hf
  refine lv_aload_n hx hb dX10_foretold_21 rfl (lv_at hl 0 rfl) ?_
  obtain ⟨M6, hq5, hf⟩ := xb1_e hf
  refine x_callVv (As := []) (rest := []) C hm (c_X10_putAside l E b M Lm hq5) rfl cy_0 tc_X10_putAside tm_RX10_451 ti_X10_putAside ts_X10_putAside tn_RX10 td_X10_putAside rfl rfl ⟨Nat.le_of_ble_eq_true rfl, Nat.le_of_ble_eq_true rfl⟩ rfl hl.1 rfl (Nat.le_of_ble_eq_true rfl) ⟨Nat.zero_le _, Nat.zero_le _⟩ dX10_foretold_22 (fun H locs hP7 hm => ?_)
  refine lv_iconst (v := (0 : Int32)) hx hb dX10_foretold_25 (by decide) ?_
  refine lv_istore_n (lv' := [(3, .int (0 : Int32)), (0, .ref (b + 0)), (1, .int a1), (2, .int a2)]) hx hb dX10_foretold_26 rfl hl (by decide) rfl (fun ls hl => ?_)
  obtain ⟨M23, L24, hq, hf⟩ := xb2_e hf
  refine j_X10_foretold_27 C a1 a2 (fun H locs ls hm hl => ?_) xfuel M6 Lm (0 : Int32) H locs ls hq hm (lv_sub hl [1, 2, 3, 0] rfl)
  refine lv_iload_n hx hb dX10_foretold_54 rfl (lv_at hl 1 rfl) ?_
  obtain ⟨k26, ek26, hf⟩ := xlet_x hf
  have jk26 : ∀ (w25 : Int32) (H : Heap) (locs : List Loc) (ls : Array Slot), k26 w25 = some (r, M', L') → xM E b NY (cY E b M23 L24) s.heap H locs → lv_has ls 4 [(0, .ref (b + 0))] → W p l e (xR 10) s m ([.ref (b + 0), .int a1, .int a2] : List Value).toArray below meth c H locs 0 0 (MQ below (xQ E b NY (some (.int r)) True (cY E b M' L')) ([.ref (b + 0), .int a1, .int a2] : List Value).toArray s 0 0 (xA b NY)) (F0 m 72 ls [.int w25]) := by
    intro w25 H locs ls hf hm hl
    have hf := xap1 ek26 hf
    refine lv_istore_n (lv' := [(3, .int w25), (0, .ref (b + 0))]) hx hb dX10_foretold_72 rfl hl (by decide) rfl (fun ls hl => ?_)
    refine lv_aload_n hx hb dX10_foretold_73 rfl (lv_at hl 1 rfl) ?_
    obtain ⟨M28, hq27, hf⟩ := xb1_e hf
    refine x_callVv (As := []) (rest := []) C hm (c_X10_bringBack l E b M23 L24 hq27) rfl cy_0 tc_X10_bringBack tm_RX10_454 ti_X10_bringBack ts_X10_bringBack tn_RX10 td_X10_bringBack rfl rfl ⟨Nat.le_of_ble_eq_true rfl, Nat.le_of_ble_eq_true rfl⟩ rfl hl.1 rfl (Nat.le_of_ble_eq_true rfl) ⟨Nat.zero_le _, Nat.zero_le _⟩ dX10_foretold_74 (fun H locs hP29 hm => ?_)
    refine lv_iload_n hx hb dX10_foretold_77 rfl (lv_at hl 0 rfl) ?_
    cases hf
    exact x_iret C hm trivial dX10_foretold_78
  refine lv_if_ne (tgt := 68) hx hb dX10_foretold_55 (by decide) (fun hc30 => ?_) (fun hc30 => ?_)
  · have hf := xif_f hc30 hf
    refine lv_aload_n hx hb dX10_foretold_68 rfl (lv_at hl 0 rfl) ?_
    obtain ⟨v32, hq31, hf⟩ := xb1_e hf
    refine x_callVi (As := []) (rest := []) C hm (c_X10_freePages l E b M23 L24 hq31) rfl cy_0 tc_X10_freePages tm_RX10_285 ti_X10_freePages ts_X10_freePages tn_RX10 td_X10_freePages rfl rfl ⟨Nat.le_of_ble_eq_true rfl, Nat.le_of_ble_eq_true rfl⟩ rfl hl.1 rfl (Nat.le_of_ble_eq_true rfl) ⟨Nat.zero_le _, Nat.zero_le _⟩ dX10_foretold_69 (fun H locs hP33 hm => ?_)
    exact jk26 v32 H locs ls  hf hm (lv_sub hl [0] rfl)
  have hf := xif_t hc30 hf
  refine lv_aload_n hx hb dX10_foretold_58 rfl (lv_at hl 0 rfl) ?_
  refine x_get C hm inX10 rfl 0 (by decide) tf_RX10_7 cy_0 rfl dX10_foretold_59 ?_
  refine lv_bipush (v := (6 : Int32)) hx hb dX10_foretold_62 (by decide) ?_
  refine x_iald (j := 6) C hm cy_1 (by decide) dX10_foretold_64 (by decide) ?_
  refine lv_goto (tgt := 72) hx hb dX10_foretold_65 (by decide) ?_
  exact jk26 (M23 1 6) H locs ls  hf hm (lv_sub hl [0] rfl)
/-! ColouredHeapModel.forward(I)I -/
theorem dX10_forward_0 : decode cX10_forward 0 = .ok (.iload_n 1, 1) := by decide +kernel
theorem dX10_forward_1 : decode cX10_forward 1 = .ok (.invokestatic 63, 3) := by decide +kernel
theorem dX10_forward_4 : decode cX10_forward 4 = .ok (.ifCond .eq 15, 3) := by decide +kernel
theorem dX10_forward_7 : decode cX10_forward 7 = .ok (.aload_n 0, 1) := by decide +kernel
theorem dX10_forward_8 : decode cX10_forward 8 = .ok (.getfield 7, 3) := by decide +kernel
theorem dX10_forward_11 : decode cX10_forward 11 = .ok (.bipush 105, 2) := by decide +kernel
theorem dX10_forward_13 : decode cX10_forward 13 = .ok (.iload_n 1, 1) := by decide +kernel
theorem dX10_forward_14 : decode cX10_forward 14 = .ok (.iadd, 1) := by decide +kernel
theorem dX10_forward_15 : decode cX10_forward 15 = .ok (.iaload, 1) := by decide +kernel
theorem dX10_forward_16 : decode cX10_forward 16 = .ok (.goto 4, 3) := by decide +kernel
theorem dX10_forward_19 : decode cX10_forward 19 = .ok (.iconst (-1), 1) := by decide +kernel
theorem dX10_forward_20 : decode cX10_forward 20 = .ok (.ireturn, 1) := by decide +kernel
def f_X10_forward (M : xm) (a1 : Int32) : Option (Int32) := (if (f_X10_isPlace a1) = 0 then some (-1 : Int32) else if xin ((105 : Int32) + a1) 9878 = true then some (M 1 (Int32.toNatClampNeg ((105 : Int32) + a1))) else none)
set_option maxHeartbeats 4000000 in
set_option maxRecDepth 20000 in
theorem c_X10_forward (l : Launch) (E : xE) (b : Nat) (M : xm) (Lm : xn) (a1 : Int32) {r : Int32} (hf : f_X10_forward M a1 = some r) :
    xMet l E b NY yX10_forward cX10_forward 2 (some .int) (xR 3) [.ref (b + 0), .int a1] (cY E b M Lm) (some (.int r)) True (cY E b M Lm) := by
  refine xMet.ofW (own := RX10) (by decide) rfl (Nat.le_of_ble_eq_true rfl) ?_
  intro p e s m below meth c H locs ls C hm hl
  have hx := C.1.1
  have hb := C.1.2.1
  have hl : lv_has ls 2 [(0, .ref (b + 0)), (1, .int a1)] := hl
  unfold f_X10_forward at hf
  refine lv_iload_n hx hb dX10_forward_0 rfl (lv_at hl 1 rfl) ?_
  refine x_callSi (As := [.int a1]) (rest := []) C hm (c_X10_isPlace l E b M Lm a1 rfl) tc_X10_isPlace tm_RX10_63 tz_X10_isPlace tn_RX10 td_X10_isPlace rfl rfl ⟨Nat.le_of_ble_eq_true rfl, Nat.le_of_ble_eq_true rfl⟩ rfl hl.1 rfl (Nat.le_of_ble_eq_true rfl) ⟨Nat.zero_le _, Nat.zero_le _⟩ dX10_forward_1 (fun H locs hP1 hm => ?_)
  refine lv_if_eq (tgt := 19) hx hb dX10_forward_4 (by decide) (fun hc2 => ?_) (fun hc2 => ?_)
  · have hf := xif_t hc2 hf
    refine lv_iconst (v := (-1 : Int32)) hx hb dX10_forward_19 (by decide) ?_
    cases hf
    exact x_iret C hm trivial dX10_forward_20
  have hf := xif_f hc2 hf
  refine lv_aload_n hx hb dX10_forward_7 rfl (lv_at hl 0 rfl) ?_
  refine x_get C hm inX10 rfl 0 (by decide) tf_RX10_7 cy_0 rfl dX10_forward_8 ?_
  refine lv_bipush (v := (105 : Int32)) hx hb dX10_forward_11 (by decide) ?_
  refine lv_iload_n hx hb dX10_forward_13 rfl (lv_at hl 1 rfl) ?_
  refine lv_iadd hx hb dX10_forward_14 ?_
  obtain ⟨hi3, hf⟩ := xif_s hf
  refine x_iald (j := (Int32.toNatClampNeg ((105 : Int32) + a1))) C hm cy_1 hi3 dX10_forward_15 rfl ?_
  refine lv_goto (tgt := 20) hx hb dX10_forward_16 (by decide) ?_
  cases hf
  exact x_iret C hm trivial dX10_forward_20
/-! ColouredHeapModel.isPage(I)Z -/
theorem dX10_isPage_0 : decode cX10_isPage 0 = .ok (.iload_n 0, 1) := by decide +kernel
theorem dX10_isPage_1 : decode cX10_isPage 1 = .ok (.iconst 0, 1) := by decide +kernel
theorem dX10_isPage_2 : decode cX10_isPage 2 = .ok (.bipush 7, 2) := by decide +kernel
theorem dX10_isPage_4 : decode cX10_isPage 4 = .ok (.invokestatic 59, 3) := by decide +kernel
theorem dX10_isPage_7 : decode cX10_isPage 7 = .ok (.ireturn, 1) := by decide +kernel
def f_X10_isPage (a0 : Int32) : Int32 := (f_X10_isIn a0 (0 : Int32) (7 : Int32))
set_option maxHeartbeats 4000000 in
set_option maxRecDepth 20000 in
theorem c_X10_isPage (l : Launch) (E : xE) (b : Nat) (M : xm) (Lm : xn) (a0 : Int32) {r : Int32} (hf : f_X10_isPage a0 = r) :
    xMet l E b NY yX10_isPage cX10_isPage 1 (some .boolean) (xR 2) [.int a0] (cY E b M Lm) (some (.int r)) (xbo r = true) (cY E b M Lm) := by
  refine xMet.ofW (own := RX10) (by decide) rfl (Nat.le_of_ble_eq_true rfl) ?_
  intro p e s m below meth c H locs ls C hm hl
  have hx := C.1.1
  have hb := C.1.2.1
  have hl : lv_has ls 1 [(0, .int a0)] := hl
  unfold f_X10_isPage at hf
  refine lv_iload_n hx hb dX10_isPage_0 rfl (lv_at hl 0 rfl) ?_
  refine lv_iconst (v := (0 : Int32)) hx hb dX10_isPage_1 (by decide) ?_
  refine lv_bipush (v := (7 : Int32)) hx hb dX10_isPage_2 (by decide) ?_
  refine x_callSi (As := [.int a0, .int (0 : Int32), .int (7 : Int32)]) (rest := []) C hm (c_X10_isIn l E b M Lm a0 (0 : Int32) (7 : Int32) rfl) tc_X10_isIn tm_RX10_59 tz_X10_isIn tn_RX10 td_X10_isIn rfl rfl ⟨Nat.le_of_ble_eq_true rfl, Nat.le_of_ble_eq_true rfl⟩ rfl hl.1 rfl (Nat.le_of_ble_eq_true rfl) ⟨Nat.zero_le _, Nat.zero_le _⟩ dX10_isPage_4 (fun H locs hP1 hm => ?_)
  cases hf
  exact x_zret C hm hP1 hP1 dX10_isPage_7
/-! ColouredHeapModel.gaps(I)I -/
theorem dX10_gaps_0 : decode cX10_gaps 0 = .ok (.iload_n 1, 1) := by decide +kernel
theorem dX10_gaps_1 : decode cX10_gaps 1 = .ok (.invokestatic 445, 3) := by decide +kernel
theorem dX10_gaps_4 : decode cX10_gaps 4 = .ok (.ifCond .eq 11, 3) := by decide +kernel
theorem dX10_gaps_7 : decode cX10_gaps 7 = .ok (.aload_n 0, 1) := by decide +kernel
theorem dX10_gaps_8 : decode cX10_gaps 8 = .ok (.iload_n 1, 1) := by decide +kernel
theorem dX10_gaps_9 : decode cX10_gaps 9 = .ok (.invokevirtual 470, 3) := by decide +kernel
theorem dX10_gaps_12 : decode cX10_gaps 12 = .ok (.goto 4, 3) := by decide +kernel
theorem dX10_gaps_15 : decode cX10_gaps 15 = .ok (.iconst (-1), 1) := by decide +kernel
theorem dX10_gaps_16 : decode cX10_gaps 16 = .ok (.ireturn, 1) := by decide +kernel
def f_X10_gaps (M : xm) (a1 : Int32) : Option (Int32 × xm) := (if (f_X10_isPage a1) = 0 then some ((-1 : Int32), M) else xb2 (f_X10_gapsOf M a1) (fun v4 M5 => some (v4, M5)))
set_option maxHeartbeats 4000000 in
set_option maxRecDepth 20000 in
theorem c_X10_gaps (l : Launch) (E : xE) (b : Nat) (M : xm) (Lm : xn) (a1 : Int32) {r : Int32} {M' : xm} (hf : f_X10_gaps M a1 = some (r, M')) :
    xMet l E b NY yX10_gaps cX10_gaps 2 (some .int) (xR 7) [.ref (b + 0), .int a1] (cY E b M Lm) (some (.int r)) True (cY E b M' Lm) := by
  refine xMet.ofW (own := RX10) (by decide) rfl (Nat.le_of_ble_eq_true rfl) ?_
  intro p e s m below meth c H locs ls C hm hl
  have hx := C.1.1
  have hb := C.1.2.1
  have hl : lv_has ls 2 [(0, .ref (b + 0)), (1, .int a1)] := hl
  unfold f_X10_gaps at hf
  refine lv_iload_n hx hb dX10_gaps_0 rfl (lv_at hl 1 rfl) ?_
  refine x_callSi (As := [.int a1]) (rest := []) C hm (c_X10_isPage l E b M Lm a1 rfl) tc_X10_isPage tm_RX10_445 tz_X10_isPage tn_RX10 td_X10_isPage rfl rfl ⟨Nat.le_of_ble_eq_true rfl, Nat.le_of_ble_eq_true rfl⟩ rfl hl.1 rfl (Nat.le_of_ble_eq_true rfl) ⟨Nat.zero_le _, Nat.zero_le _⟩ dX10_gaps_1 (fun H locs hP1 hm => ?_)
  refine lv_if_eq (tgt := 15) hx hb dX10_gaps_4 (by decide) (fun hc2 => ?_) (fun hc2 => ?_)
  · have hf := xif_t hc2 hf
    refine lv_iconst (v := (-1 : Int32)) hx hb dX10_gaps_15 (by decide) ?_
    cases hf
    exact x_iret C hm trivial dX10_gaps_16
  have hf := xif_f hc2 hf
  refine lv_aload_n hx hb dX10_gaps_7 rfl (lv_at hl 0 rfl) ?_
  refine lv_iload_n hx hb dX10_gaps_8 rfl (lv_at hl 1 rfl) ?_
  obtain ⟨v4, M5, hq3, hf⟩ := xb2_e hf
  refine x_callVi (As := [.int a1]) (rest := []) C hm (c_X10_gapsOf l E b M Lm a1 hq3) rfl cy_0 tc_X10_gapsOf tm_RX10_470 ti_X10_gapsOf ts_X10_gapsOf tn_RX10 td_X10_gapsOf rfl rfl ⟨Nat.le_of_ble_eq_true rfl, Nat.le_of_ble_eq_true rfl⟩ rfl hl.1 rfl (Nat.le_of_ble_eq_true rfl) ⟨Nat.zero_le _, Nat.zero_le _⟩ dX10_gaps_9 (fun H locs hP6 hm => ?_)
  refine lv_goto (tgt := 16) hx hb dX10_gaps_12 (by decide) ?_
  cases hf
  exact x_iret C hm trivial dX10_gaps_16
/-! ColouredHeapModel.loadNow(III)I -/
theorem dX10_loadNow_0 : decode cX10_loadNow 0 = .ok (.aload_n 0, 1) := by decide +kernel
theorem dX10_loadNow_1 : decode cX10_loadNow 1 = .ok (.iload_n 2, 1) := by decide +kernel
theorem dX10_loadNow_2 : decode cX10_loadNow 2 = .ok (.iload_n 3, 1) := by decide +kernel
theorem dX10_loadNow_3 : decode cX10_loadNow 3 = .ok (.invokevirtual 352, 3) := by decide +kernel
theorem dX10_loadNow_6 : decode cX10_loadNow 6 = .ok (.istore 4, 2) := by decide +kernel
theorem dX10_loadNow_8 : decode cX10_loadNow 8 = .ok (.aload_n 0, 1) := by decide +kernel
theorem dX10_loadNow_9 : decode cX10_loadNow 9 = .ok (.iload 4, 2) := by decide +kernel
theorem dX10_loadNow_11 : decode cX10_loadNow 11 = .ok (.invokevirtual 355, 3) := by decide +kernel
theorem dX10_loadNow_14 : decode cX10_loadNow 14 = .ok (.aload_n 0, 1) := by decide +kernel
theorem dX10_loadNow_15 : decode cX10_loadNow 15 = .ok (.getfield 7, 3) := by decide +kernel
theorem dX10_loadNow_18 : decode cX10_loadNow 18 = .ok (.bipush 29, 2) := by decide +kernel
theorem dX10_loadNow_20 : decode cX10_loadNow 20 = .ok (.iload_n 1, 1) := by decide +kernel
theorem dX10_loadNow_21 : decode cX10_loadNow 21 = .ok (.iadd, 1) := by decide +kernel
theorem dX10_loadNow_22 : decode cX10_loadNow 22 = .ok (.aload_n 0, 1) := by decide +kernel
theorem dX10_loadNow_23 : decode cX10_loadNow 23 = .ok (.getfield 7, 3) := by decide +kernel
theorem dX10_loadNow_26 : decode cX10_loadNow 26 = .ok (.bipush 41, 2) := by decide +kernel
theorem dX10_loadNow_28 : decode cX10_loadNow 28 = .ok (.iload 4, 2) := by decide +kernel
theorem dX10_loadNow_30 : decode cX10_loadNow 30 = .ok (.iadd, 1) := by decide +kernel
theorem dX10_loadNow_31 : decode cX10_loadNow 31 = .ok (.iaload, 1) := by decide +kernel
theorem dX10_loadNow_32 : decode cX10_loadNow 32 = .ok (.iastore, 1) := by decide +kernel
theorem dX10_loadNow_33 : decode cX10_loadNow 33 = .ok (.aload_n 0, 1) := by decide +kernel
theorem dX10_loadNow_34 : decode cX10_loadNow 34 = .ok (.getfield 7, 3) := by decide +kernel
theorem dX10_loadNow_37 : decode cX10_loadNow 37 = .ok (.bipush 41, 2) := by decide +kernel
theorem dX10_loadNow_39 : decode cX10_loadNow 39 = .ok (.iload 4, 2) := by decide +kernel
theorem dX10_loadNow_41 : decode cX10_loadNow 41 = .ok (.iadd, 1) := by decide +kernel
theorem dX10_loadNow_42 : decode cX10_loadNow 42 = .ok (.iaload, 1) := by decide +kernel
theorem dX10_loadNow_43 : decode cX10_loadNow 43 = .ok (.ireturn, 1) := by decide +kernel
def f_X10_loadNow (M : xm) (a1 : Int32) (a2 : Int32) (a3 : Int32) : Option (Int32 × xm) := xb1 (f_X10_fieldAt M a2 a3) (fun v2 => xb1 (f_X10_mendWord M v2) (fun M5 => if xin ((41 : Int32) + v2) 9878 = true then if xin ((29 : Int32) + a1) 9878 = true then xlet (up2 M5 1 (Int32.toNatClampNeg ((29 : Int32) + a1)) (M5 1 (Int32.toNatClampNeg ((41 : Int32) + v2)))) (fun M9 => some ((M9 1 (Int32.toNatClampNeg ((41 : Int32) + v2))), M9)) else none else none))
set_option maxHeartbeats 4000000 in
set_option maxRecDepth 20000 in
theorem c_X10_loadNow (l : Launch) (E : xE) (b : Nat) (M : xm) (Lm : xn) (a1 : Int32) (a2 : Int32) (a3 : Int32) {r : Int32} {M' : xm} (hf : f_X10_loadNow M a1 a2 a3 = some (r, M')) :
    xMet l E b NY yX10_loadNow cX10_loadNow 5 (some .int) (xR 7) [.ref (b + 0), .int a1, .int a2, .int a3] (cY E b M Lm) (some (.int r)) True (cY E b M' Lm) := by
  refine xMet.ofW (own := RX10) (by decide) rfl (Nat.le_of_ble_eq_true rfl) ?_
  intro p e s m below meth c H locs ls C hm hl
  have hx := C.1.1
  have hb := C.1.2.1
  have hl : lv_has ls 5 [(0, .ref (b + 0)), (1, .int a1), (2, .int a2), (3, .int a3)] := hl
  unfold f_X10_loadNow at hf
  refine lv_aload_n hx hb dX10_loadNow_0 rfl (lv_at hl 0 rfl) ?_
  refine lv_iload_n hx hb dX10_loadNow_1 rfl (lv_at hl 2 rfl) ?_
  refine lv_iload_n hx hb dX10_loadNow_2 rfl (lv_at hl 3 rfl) ?_
  obtain ⟨v2, hq1, hf⟩ := xb1_e hf
  refine x_callVi (As := [.int a2, .int a3]) (rest := []) C hm (c_X10_fieldAt l E b M Lm a2 a3 hq1) rfl cy_0 tc_X10_fieldAt tm_RX10_352 ti_X10_fieldAt ts_X10_fieldAt tn_RX10 td_X10_fieldAt rfl rfl ⟨Nat.le_of_ble_eq_true rfl, Nat.le_of_ble_eq_true rfl⟩ rfl hl.1 rfl (Nat.le_of_ble_eq_true rfl) ⟨Nat.zero_le _, Nat.zero_le _⟩ dX10_loadNow_3 (fun H locs hP3 hm => ?_)
  refine lv_istore (lv' := [(4, .int v2), (0, .ref (b + 0)), (1, .int a1), (2, .int a2), (3, .int a3)]) hx hb dX10_loadNow_6 hl (by decide) rfl (fun ls hl => ?_)
  refine lv_aload_n hx hb dX10_loadNow_8 rfl (lv_at hl 1 rfl) ?_
  refine lv_iload hx hb dX10_loadNow_9 (lv_at hl 0 rfl) ?_
  obtain ⟨M5, hq4, hf⟩ := xb1_e hf
  refine x_callVv (As := [.int v2]) (rest := []) C hm (c_X10_mendWord l E b M Lm v2 hq4) rfl cy_0 tc_X10_mendWord tm_RX10_355 ti_X10_mendWord ts_X10_mendWord tn_RX10 td_X10_mendWord rfl rfl ⟨Nat.le_of_ble_eq_true rfl, Nat.le_of_ble_eq_true rfl⟩ rfl hl.1 rfl (Nat.le_of_ble_eq_true rfl) ⟨Nat.zero_le _, Nat.zero_le _⟩ dX10_loadNow_11 (fun H locs hP6 hm => ?_)
  refine lv_aload_n hx hb dX10_loadNow_14 rfl (lv_at hl 1 rfl) ?_
  refine x_get C hm inX10 rfl 0 (by decide) tf_RX10_7 cy_0 rfl dX10_loadNow_15 ?_
  refine lv_bipush (v := (29 : Int32)) hx hb dX10_loadNow_18 (by decide) ?_
  refine lv_iload_n hx hb dX10_loadNow_20 rfl (lv_at hl 2 rfl) ?_
  refine lv_iadd hx hb dX10_loadNow_21 ?_
  refine lv_aload_n hx hb dX10_loadNow_22 rfl (lv_at hl 1 rfl) ?_
  refine x_get C hm inX10 rfl 0 (by decide) tf_RX10_7 cy_0 rfl dX10_loadNow_23 ?_
  refine lv_bipush (v := (41 : Int32)) hx hb dX10_loadNow_26 (by decide) ?_
  refine lv_iload hx hb dX10_loadNow_28 (lv_at hl 0 rfl) ?_
  refine lv_iadd hx hb dX10_loadNow_30 ?_
  obtain ⟨hi7, hf⟩ := xif_s hf
  refine x_iald (j := (Int32.toNatClampNeg ((41 : Int32) + v2))) C hm cy_1 hi7 dX10_loadNow_31 rfl ?_
  obtain ⟨hi8, hf⟩ := xif_s hf
  obtain ⟨M9, eM9, hf⟩ := xlet_x hf
  refine x_iast (j := (Int32.toNatClampNeg ((29 : Int32) + a1))) (cf' := cY E b M9 Lm) C hm cy_1 hi8 dX10_loadNow_32 rfl (by rw [eM9]; exact cyu_1) (by rw [eM9]; exact cY_o) (fun H locs hm => ?_)
  refine lv_aload_n hx hb dX10_loadNow_33 rfl (lv_at hl 1 rfl) ?_
  refine x_get C hm inX10 rfl 0 (by decide) tf_RX10_7 cy_0 rfl dX10_loadNow_34 ?_
  refine lv_bipush (v := (41 : Int32)) hx hb dX10_loadNow_37 (by decide) ?_
  refine lv_iload hx hb dX10_loadNow_39 (lv_at hl 0 rfl) ?_
  refine lv_iadd hx hb dX10_loadNow_41 ?_
  refine x_iald (j := (Int32.toNatClampNeg ((41 : Int32) + v2))) C hm cy_1 hi7 dX10_loadNow_42 rfl ?_
  cases hf
  exact x_iret C hm trivial dX10_loadNow_43
/-! ColouredHeapModel.makeNow(II)I -/
theorem dX10_makeNow_0 : decode cX10_makeNow 0 = .ok (.aload_n 0, 1) := by decide +kernel
theorem dX10_makeNow_1 : decode cX10_makeNow 1 = .ok (.iload_n 2, 1) := by decide +kernel
theorem dX10_makeNow_2 : decode cX10_makeNow 2 = .ok (.iconst 1, 1) := by decide +kernel
theorem dX10_makeNow_3 : decode cX10_makeNow 3 = .ok (.iadd, 1) := by decide +kernel
theorem dX10_makeNow_4 : decode cX10_makeNow 4 = .ok (.bipush 9, 2) := by decide +kernel
theorem dX10_makeNow_6 : decode cX10_makeNow 6 = .ok (.invokevirtual 316, 3) := by decide +kernel
theorem dX10_makeNow_9 : decode cX10_makeNow 9 = .ok (.istore_n 3, 1) := by decide +kernel
theorem dX10_makeNow_10 : decode cX10_makeNow 10 = .ok (.aload_n 0, 1) := by decide +kernel
theorem dX10_makeNow_11 : decode cX10_makeNow 11 = .ok (.getfield 7, 3) := by decide +kernel
theorem dX10_makeNow_14 : decode cX10_makeNow 14 = .ok (.bipush 41, 2) := by decide +kernel
theorem dX10_makeNow_16 : decode cX10_makeNow 16 = .ok (.iload_n 3, 1) := by decide +kernel
theorem dX10_makeNow_17 : decode cX10_makeNow 17 = .ok (.iadd, 1) := by decide +kernel
theorem dX10_makeNow_18 : decode cX10_makeNow 18 = .ok (.sipush 1000, 3) := by decide +kernel
theorem dX10_makeNow_21 : decode cX10_makeNow 21 = .ok (.iload_n 2, 1) := by decide +kernel
theorem dX10_makeNow_22 : decode cX10_makeNow 22 = .ok (.iadd, 1) := by decide +kernel
theorem dX10_makeNow_23 : decode cX10_makeNow 23 = .ok (.iastore, 1) := by decide +kernel
theorem dX10_makeNow_24 : decode cX10_makeNow 24 = .ok (.iconst 1, 1) := by decide +kernel
theorem dX10_makeNow_25 : decode cX10_makeNow 25 = .ok (.istore 4, 2) := by decide +kernel
theorem dX10_makeNow_27 : decode cX10_makeNow 27 = .ok (.iload 4, 2) := by decide +kernel
theorem dX10_makeNow_29 : decode cX10_makeNow 29 = .ok (.iload_n 2, 1) := by decide +kernel
theorem dX10_makeNow_30 : decode cX10_makeNow 30 = .ok (.if_icmp .gt 22, 3) := by decide +kernel
theorem dX10_makeNow_33 : decode cX10_makeNow 33 = .ok (.aload_n 0, 1) := by decide +kernel
theorem dX10_makeNow_34 : decode cX10_makeNow 34 = .ok (.getfield 7, 3) := by decide +kernel
theorem dX10_makeNow_37 : decode cX10_makeNow 37 = .ok (.bipush 41, 2) := by decide +kernel
theorem dX10_makeNow_39 : decode cX10_makeNow 39 = .ok (.iload_n 3, 1) := by decide +kernel
theorem dX10_makeNow_40 : decode cX10_makeNow 40 = .ok (.iadd, 1) := by decide +kernel
theorem dX10_makeNow_41 : decode cX10_makeNow 41 = .ok (.iload 4, 2) := by decide +kernel
theorem dX10_makeNow_43 : decode cX10_makeNow 43 = .ok (.iadd, 1) := by decide +kernel
theorem dX10_makeNow_44 : decode cX10_makeNow 44 = .ok (.iconst (-1), 1) := by decide +kernel
theorem dX10_makeNow_45 : decode cX10_makeNow 45 = .ok (.iastore, 1) := by decide +kernel
theorem dX10_makeNow_46 : decode cX10_makeNow 46 = .ok (.iinc 4 1, 3) := by decide +kernel
theorem dX10_makeNow_49 : decode cX10_makeNow 49 = .ok (.goto (-22), 3) := by decide +kernel
theorem dX10_makeNow_52 : decode cX10_makeNow 52 = .ok (.aload_n 0, 1) := by decide +kernel
theorem dX10_makeNow_53 : decode cX10_makeNow 53 = .ok (.getfield 7, 3) := by decide +kernel
theorem dX10_makeNow_56 : decode cX10_makeNow 56 = .ok (.bipush 6, 2) := by decide +kernel
theorem dX10_makeNow_58 : decode cX10_makeNow 58 = .ok (.iaload, 1) := by decide +kernel
theorem dX10_makeNow_59 : decode cX10_makeNow 59 = .ok (.ifCond .eq 14, 3) := by decide +kernel
theorem dX10_makeNow_62 : decode cX10_makeNow 62 = .ok (.aload_n 0, 1) := by decide +kernel
theorem dX10_makeNow_63 : decode cX10_makeNow 63 = .ok (.getfield 7, 3) := by decide +kernel
theorem dX10_makeNow_66 : decode cX10_makeNow 66 = .ok (.sipush 169, 3) := by decide +kernel
theorem dX10_makeNow_69 : decode cX10_makeNow 69 = .ok (.iload_n 3, 1) := by decide +kernel
theorem dX10_makeNow_70 : decode cX10_makeNow 70 = .ok (.iadd, 1) := by decide +kernel
theorem dX10_makeNow_71 : decode cX10_makeNow 71 = .ok (.iconst 1, 1) := by decide +kernel
theorem dX10_makeNow_72 : decode cX10_makeNow 72 = .ok (.iastore, 1) := by decide +kernel
theorem dX10_makeNow_73 : decode cX10_makeNow 73 = .ok (.aload_n 0, 1) := by decide +kernel
theorem dX10_makeNow_74 : decode cX10_makeNow 74 = .ok (.getfield 7, 3) := by decide +kernel
theorem dX10_makeNow_77 : decode cX10_makeNow 77 = .ok (.bipush 29, 2) := by decide +kernel
theorem dX10_makeNow_79 : decode cX10_makeNow 79 = .ok (.iload_n 1, 1) := by decide +kernel
theorem dX10_makeNow_80 : decode cX10_makeNow 80 = .ok (.iadd, 1) := by decide +kernel
theorem dX10_makeNow_81 : decode cX10_makeNow 81 = .ok (.bipush 64, 2) := by decide +kernel
theorem dX10_makeNow_83 : decode cX10_makeNow 83 = .ok (.aload_n 0, 1) := by decide +kernel
theorem dX10_makeNow_84 : decode cX10_makeNow 84 = .ok (.getfield 7, 3) := by decide +kernel
theorem dX10_makeNow_87 : decode cX10_makeNow 87 = .ok (.bipush 7, 2) := by decide +kernel
theorem dX10_makeNow_89 : decode cX10_makeNow 89 = .ok (.iaload, 1) := by decide +kernel
theorem dX10_makeNow_90 : decode cX10_makeNow 90 = .ok (.imul, 1) := by decide +kernel
theorem dX10_makeNow_91 : decode cX10_makeNow 91 = .ok (.iload_n 3, 1) := by decide +kernel
theorem dX10_makeNow_92 : decode cX10_makeNow 92 = .ok (.iadd, 1) := by decide +kernel
theorem dX10_makeNow_93 : decode cX10_makeNow 93 = .ok (.iastore, 1) := by decide +kernel
theorem dX10_makeNow_94 : decode cX10_makeNow 94 = .ok (.aload_n 0, 1) := by decide +kernel
theorem dX10_makeNow_95 : decode cX10_makeNow 95 = .ok (.iconst 0, 1) := by decide +kernel
theorem dX10_makeNow_96 : decode cX10_makeNow 96 = .ok (.iload_n 3, 1) := by decide +kernel
theorem dX10_makeNow_97 : decode cX10_makeNow 97 = .ok (.invokevirtual 313, 3) := by decide +kernel
theorem dX10_makeNow_100 : decode cX10_makeNow 100 = .ok (.iload_n 3, 1) := by decide +kernel
theorem dX10_makeNow_101 : decode cX10_makeNow 101 = .ok (.ireturn, 1) := by decide +kernel
def g_X10_makeNow_27 (x7 : Int32) (x8 : Int32) (x9 : Int32) : Nat → xm → Int32 → Option ((xm))
  | 0, _, _ => none
  | n + 1, M11, x10 => (if x8 < x10 then some (M11) else if xin (((41 : Int32) + x9) + x10) 9878 = true then xlet (up2 M11 1 (Int32.toNatClampNeg (((41 : Int32) + x9) + x10)) (-1 : Int32)) (fun M15 => xlet (x10 + (1 : Int32)) (fun v16 => g_X10_makeNow_27 x7 x8 x9 n M15 v16)) else none)
def f_X10_makeNow (M : xm) (a1 : Int32) (a2 : Int32) : Option (Int32 × xm) := xb2 (f_X10_given M (a2 + (1 : Int32)) (9 : Int32)) (fun v2 M3 => if xin ((41 : Int32) + v2) 9878 = true then xlet (up2 M3 1 (Int32.toNatClampNeg ((41 : Int32) + v2)) ((1000 : Int32) + a2)) (fun M6 => xb1 (g_X10_makeNow_27 a1 a2 v2 xfuel M6 (1 : Int32)) (fun M17 => xlet (fun (M18 : xm) => if xin ((29 : Int32) + a1) 9878 = true then xlet (up2 M18 1 (Int32.toNatClampNeg ((29 : Int32) + a1)) (((64 : Int32) * (M18 1 7)) + v2)) (fun M21 => xb1 (f_X10_write M21 (0 : Int32) v2) (fun M23 => some (v2, M23))) else none) (fun k19 => (if (M17 1 6) = 0 then (k19 M17) else if xin ((169 : Int32) + v2) 9878 = true then xlet (up2 M17 1 (Int32.toNatClampNeg ((169 : Int32) + v2)) (1 : Int32)) (fun M27 => (k19 M27)) else none)))) else none)
set_option maxHeartbeats 4000000 in
set_option maxRecDepth 20000 in
theorem j_X10_makeNow_27 {p : Program} {l : Launch} {e : Env} {s : State} {m : MethodId} {args : Array Value} {below : List Frame} {meth : Method} {c : Code} {Q : State → Prop} {E : xE} {b : Nat} (C : xC p s m args meth c cX10_makeNow 5 RX10 (some .int) E b) {Lm : xn} (x7 : Int32) (x8 : Int32) (x9 : Int32) {y12 : xm}
    (kx0 : ∀ (H : Heap) (locs : List Loc) (ls : Array Slot), xM E b NY (cY E b y12 Lm) s.heap H locs → lv_has ls 5 [(0, .ref (b + 0)), (1, .int x7), (3, .int x9)] → W p l e (xR 3) s m args below meth c H locs 0 0 Q (F0 m 52 ls [])) :
    ∀ (n : Nat) (M11 : xm) (x10 : Int32) (H : Heap) (locs : List Loc) (ls : Array Slot), g_X10_makeNow_27 x7 x8 x9 n M11 x10 = some y12 → xM E b NY (cY E b M11 Lm) s.heap H locs → lv_has ls 5 [(0, .ref (b + 0)), (1, .int x7), (2, .int x8), (3, .int x9), (4, .int x10)] → W p l e (xR 3) s m args below meth c H locs 0 0 Q (F0 m 27 ls []) := by
  have hx := C.1.1
  have hb := C.1.2.1
  intro n
  induction n with
  | zero =>
    intro M11 x10 H locs ls hf hm hl
    rw [g_X10_makeNow_27] at hf
    cases hf
  | succ n ih =>
    intro M11 x10 H locs ls hf hm hl
    rw [g_X10_makeNow_27] at hf
    refine lv_iload hx hb dX10_makeNow_27 (lv_at hl 4 rfl) ?_
    refine lv_iload_n hx hb dX10_makeNow_29 rfl (lv_at hl 2 rfl) ?_
    refine lv_icmp_gt (tgt := 52) hx hb dX10_makeNow_30 (by decide) (fun hc13 => ?_) (fun hc13 => ?_)
    · have hf := xif_t hc13 hf
      cases hf
      exact kx0 H locs ls hm (lv_sub hl [0, 1, 3] rfl)
    have hf := xif_f hc13 hf
    refine lv_aload_n hx hb dX10_makeNow_33 rfl (lv_at hl 0 rfl) ?_
    refine x_get C hm inX10 rfl 0 (by decide) tf_RX10_7 cy_0 rfl dX10_makeNow_34 ?_
    refine lv_bipush (v := (41 : Int32)) hx hb dX10_makeNow_37 (by decide) ?_
    refine lv_iload_n hx hb dX10_makeNow_39 rfl (lv_at hl 3 rfl) ?_
    refine lv_iadd hx hb dX10_makeNow_40 ?_
    refine lv_iload hx hb dX10_makeNow_41 (lv_at hl 4 rfl) ?_
    refine lv_iadd hx hb dX10_makeNow_43 ?_
    refine lv_iconst (v := (-1 : Int32)) hx hb dX10_makeNow_44 (by decide) ?_
    obtain ⟨hi14, hf⟩ := xif_s hf
    obtain ⟨M15, eM15, hf⟩ := xlet_x hf
    refine x_iast (j := (Int32.toNatClampNeg (((41 : Int32) + x9) + x10))) (cf' := cY E b M15 Lm) C hm cy_1 hi14 dX10_makeNow_45 rfl (by rw [eM15]; exact cyu_1) (by rw [eM15]; exact cY_o) (fun H locs hm => ?_)
    obtain ⟨v16, ev16, hf⟩ := xlet_x hf
    refine lv_iinc (v := v16) (lv' := [(4, .int v16), (0, .ref (b + 0)), (1, .int x7), (2, .int x8), (3, .int x9)]) hx hb dX10_makeNow_46 hl (k := 4) rfl (by rw [ev16]; rfl) (by decide) rfl (fun ls hl => ?_)
    refine lv_goto (tgt := 27) hx hb dX10_makeNow_49 (by decide) ?_
    exact ih M15 v16 H locs ls hf hm (lv_sub hl [1, 2, 3, 4, 0] rfl)
set_option maxHeartbeats 4000000 in
set_option maxRecDepth 20000 in
theorem c_X10_makeNow (l : Launch) (E : xE) (b : Nat) (M : xm) (Lm : xn) (a1 : Int32) (a2 : Int32) {r : Int32} {M' : xm} (hf : f_X10_makeNow M a1 a2 = some (r, M')) :
    xMet l E b NY yX10_makeNow cX10_makeNow 5 (some .int) (xR 3) [.ref (b + 0), .int a1, .int a2] (cY E b M Lm) (some (.int r)) True (cY E b M' Lm) := by
  refine xMet.ofW (own := RX10) (by decide) rfl (Nat.le_of_ble_eq_true rfl) ?_
  intro p e s m below meth c H locs ls C hm hl
  have hx := C.1.1
  have hb := C.1.2.1
  have hl : lv_has ls 5 [(0, .ref (b + 0)), (1, .int a1), (2, .int a2)] := hl
  unfold f_X10_makeNow at hf
  refine lv_aload_n hx hb dX10_makeNow_0 rfl (lv_at hl 0 rfl) ?_
  refine lv_iload_n hx hb dX10_makeNow_1 rfl (lv_at hl 2 rfl) ?_
  refine lv_iconst (v := (1 : Int32)) hx hb dX10_makeNow_2 (by decide) ?_
  refine lv_iadd hx hb dX10_makeNow_3 ?_
  refine lv_bipush (v := (9 : Int32)) hx hb dX10_makeNow_4 (by decide) ?_
  obtain ⟨v2, M3, hq1, hf⟩ := xb2_e hf
  refine x_callVi (As := [.int (a2 + (1 : Int32)), .int (9 : Int32)]) (rest := []) C hm (c_X10_given l E b M Lm (a2 + (1 : Int32)) (9 : Int32) hq1) rfl cy_0 tc_X10_given tm_RX10_316 ti_X10_given ts_X10_given tn_RX10 td_X10_given rfl rfl ⟨Nat.le_of_ble_eq_true rfl, Nat.le_of_ble_eq_true rfl⟩ rfl hl.1 rfl (Nat.le_of_ble_eq_true rfl) ⟨Nat.zero_le _, Nat.zero_le _⟩ dX10_makeNow_6 (fun H locs hP4 hm => ?_)
  refine lv_istore_n (lv' := [(3, .int v2), (0, .ref (b + 0)), (1, .int a1), (2, .int a2)]) hx hb dX10_makeNow_9 rfl hl (by decide) rfl (fun ls hl => ?_)
  refine lv_aload_n hx hb dX10_makeNow_10 rfl (lv_at hl 1 rfl) ?_
  refine x_get C hm inX10 rfl 0 (by decide) tf_RX10_7 cy_0 rfl dX10_makeNow_11 ?_
  refine lv_bipush (v := (41 : Int32)) hx hb dX10_makeNow_14 (by decide) ?_
  refine lv_iload_n hx hb dX10_makeNow_16 rfl (lv_at hl 0 rfl) ?_
  refine lv_iadd hx hb dX10_makeNow_17 ?_
  refine lv_sipush (v := (1000 : Int32)) hx hb dX10_makeNow_18 (by decide) ?_
  refine lv_iload_n hx hb dX10_makeNow_21 rfl (lv_at hl 3 rfl) ?_
  refine lv_iadd hx hb dX10_makeNow_22 ?_
  obtain ⟨hi5, hf⟩ := xif_s hf
  obtain ⟨M6, eM6, hf⟩ := xlet_x hf
  refine x_iast (j := (Int32.toNatClampNeg ((41 : Int32) + v2))) (cf' := cY E b M6 Lm) C hm cy_1 hi5 dX10_makeNow_23 rfl (by rw [eM6]; exact cyu_1) (by rw [eM6]; exact cY_o) (fun H locs hm => ?_)
  refine lv_iconst (v := (1 : Int32)) hx hb dX10_makeNow_24 (by decide) ?_
  refine lv_istore (lv' := [(4, .int (1 : Int32)), (3, .int v2), (0, .ref (b + 0)), (1, .int a1), (2, .int a2)]) hx hb dX10_makeNow_25 hl (by decide) rfl (fun ls hl => ?_)
  obtain ⟨M17, hq, hf⟩ := xb1_e hf
  refine j_X10_makeNow_27 C a1 a2 v2 (fun H locs ls hm hl => ?_) xfuel M6 (1 : Int32) H locs ls hq hm (lv_sub hl [2, 3, 4, 1, 0] rfl)
  refine lv_aload_n hx hb dX10_makeNow_52 rfl (lv_at hl 0 rfl) ?_
  refine x_get C hm inX10 rfl 0 (by decide) tf_RX10_7 cy_0 rfl dX10_makeNow_53 ?_
  refine lv_bipush (v := (6 : Int32)) hx hb dX10_makeNow_56 (by decide) ?_
  refine x_iald (j := 6) C hm cy_1 (by decide) dX10_makeNow_58 (by decide) ?_
  obtain ⟨k19, ek19, hf⟩ := xlet_x hf
  have jk19 : ∀ (M18 : xm) (H : Heap) (locs : List Loc) (ls : Array Slot), k19 M18 = some (r, M') → xM E b NY (cY E b M18 Lm) s.heap H locs → lv_has ls 5 [(0, .ref (b + 0)), (1, .int a1), (3, .int v2)] → W p l e (xR 3) s m ([.ref (b + 0), .int a1, .int a2] : List Value).toArray below meth c H locs 0 0 (MQ below (xQ E b NY (some (.int r)) True (cY E b M' Lm)) ([.ref (b + 0), .int a1, .int a2] : List Value).toArray s 0 0 (xA b NY)) (F0 m 73 ls []) := by
    intro M18 H locs ls hf hm hl
    have hf := xap1 ek19 hf
    refine lv_aload_n hx hb dX10_makeNow_73 rfl (lv_at hl 0 rfl) ?_
    refine x_get C hm inX10 rfl 0 (by decide) tf_RX10_7 cy_0 rfl dX10_makeNow_74 ?_
    refine lv_bipush (v := (29 : Int32)) hx hb dX10_makeNow_77 (by decide) ?_
    refine lv_iload_n hx hb dX10_makeNow_79 rfl (lv_at hl 1 rfl) ?_
    refine lv_iadd hx hb dX10_makeNow_80 ?_
    refine lv_bipush (v := (64 : Int32)) hx hb dX10_makeNow_81 (by decide) ?_
    refine lv_aload_n hx hb dX10_makeNow_83 rfl (lv_at hl 0 rfl) ?_
    refine x_get C hm inX10 rfl 0 (by decide) tf_RX10_7 cy_0 rfl dX10_makeNow_84 ?_
    refine lv_bipush (v := (7 : Int32)) hx hb dX10_makeNow_87 (by decide) ?_
    refine x_iald (j := 7) C hm cy_1 (by decide) dX10_makeNow_89 (by decide) ?_
    refine lv_imul hx hb dX10_makeNow_90 ?_
    refine lv_iload_n hx hb dX10_makeNow_91 rfl (lv_at hl 2 rfl) ?_
    refine lv_iadd hx hb dX10_makeNow_92 ?_
    obtain ⟨hi20, hf⟩ := xif_s hf
    obtain ⟨M21, eM21, hf⟩ := xlet_x hf
    refine x_iast (j := (Int32.toNatClampNeg ((29 : Int32) + a1))) (cf' := cY E b M21 Lm) C hm cy_1 hi20 dX10_makeNow_93 rfl (by rw [eM21]; exact cyu_1) (by rw [eM21]; exact cY_o) (fun H locs hm => ?_)
    refine lv_aload_n hx hb dX10_makeNow_94 rfl (lv_at hl 0 rfl) ?_
    refine lv_iconst (v := (0 : Int32)) hx hb dX10_makeNow_95 (by decide) ?_
    refine lv_iload_n hx hb dX10_makeNow_96 rfl (lv_at hl 2 rfl) ?_
    obtain ⟨M23, hq22, hf⟩ := xb1_e hf
    refine x_callVv (As := [.int (0 : Int32), .int v2]) (rest := []) C hm (c_X10_write l E b M21 Lm (0 : Int32) v2 hq22) rfl cy_0 tc_X10_write tm_RX10_313 ti_X10_write ts_X10_write tn_RX10 td_X10_write rfl rfl ⟨Nat.le_of_ble_eq_true rfl, Nat.le_of_ble_eq_true rfl⟩ rfl hl.1 rfl (Nat.le_of_ble_eq_true rfl) ⟨Nat.zero_le _, Nat.zero_le _⟩ dX10_makeNow_97 (fun H locs hP24 hm => ?_)
    refine lv_iload_n hx hb dX10_makeNow_100 rfl (lv_at hl 2 rfl) ?_
    cases hf
    exact x_iret C hm trivial dX10_makeNow_101
  refine lv_if_eq (tgt := 73) hx hb dX10_makeNow_59 (by decide) (fun hc25 => ?_) (fun hc25 => ?_)
  · have hf := xif_t hc25 hf
    exact jk19 M17 H locs ls  hf hm (lv_sub hl [0, 1, 2] rfl)
  have hf := xif_f hc25 hf
  refine lv_aload_n hx hb dX10_makeNow_62 rfl (lv_at hl 0 rfl) ?_
  refine x_get C hm inX10 rfl 0 (by decide) tf_RX10_7 cy_0 rfl dX10_makeNow_63 ?_
  refine lv_sipush (v := (169 : Int32)) hx hb dX10_makeNow_66 (by decide) ?_
  refine lv_iload_n hx hb dX10_makeNow_69 rfl (lv_at hl 2 rfl) ?_
  refine lv_iadd hx hb dX10_makeNow_70 ?_
  refine lv_iconst (v := (1 : Int32)) hx hb dX10_makeNow_71 (by decide) ?_
  obtain ⟨hi26, hf⟩ := xif_s hf
  obtain ⟨M27, eM27, hf⟩ := xlet_x hf
  refine x_iast (j := (Int32.toNatClampNeg ((169 : Int32) + v2))) (cf' := cY E b M27 Lm) C hm cy_1 hi26 dX10_makeNow_72 rfl (by rw [eM27]; exact cyu_1) (by rw [eM27]; exact cY_o) (fun H locs hm => ?_)
  exact jk19 M27 H locs ls  hf hm (lv_sub hl [0, 1, 2] rfl)
/-! ColouredHeapModel.happens(I)V -/
theorem dX10_happens_0 : decode cX10_happens 0 = .ok (.iload_n 1, 1) := by decide +kernel
theorem dX10_happens_1 : decode cX10_happens 1 = .ok (.bipush 6, 2) := by decide +kernel
theorem dX10_happens_3 : decode cX10_happens 3 = .ok (.idiv, 1) := by decide +kernel
theorem dX10_happens_4 : decode cX10_happens 4 = .ok (.bipush 6, 2) := by decide +kernel
theorem dX10_happens_6 : decode cX10_happens 6 = .ok (.irem, 1) := by decide +kernel
theorem dX10_happens_7 : decode cX10_happens 7 = .ok (.istore_n 2, 1) := by decide +kernel
theorem dX10_happens_8 : decode cX10_happens 8 = .ok (.iload_n 1, 1) := by decide +kernel
theorem dX10_happens_9 : decode cX10_happens 9 = .ok (.bipush 6, 2) := by decide +kernel
theorem dX10_happens_11 : decode cX10_happens 11 = .ok (.irem, 1) := by decide +kernel
theorem dX10_happens_12 : decode cX10_happens 12 = .ok (.tableswitch 173 0 3 #[32, 66, 109, 153], 32) := by decide +kernel
theorem dX10_happens_44 : decode cX10_happens 44 = .ok (.aload_n 0, 1) := by decide +kernel
theorem dX10_happens_45 : decode cX10_happens 45 = .ok (.iload_n 1, 1) := by decide +kernel
theorem dX10_happens_46 : decode cX10_happens 46 = .ok (.bipush 6, 2) := by decide +kernel
theorem dX10_happens_48 : decode cX10_happens 48 = .ok (.idiv, 1) := by decide +kernel
theorem dX10_happens_49 : decode cX10_happens 49 = .ok (.iconst 4, 1) := by decide +kernel
theorem dX10_happens_50 : decode cX10_happens 50 = .ok (.irem, 1) := by decide +kernel
theorem dX10_happens_51 : decode cX10_happens 51 = .ok (.iconst 1, 1) := by decide +kernel
theorem dX10_happens_52 : decode cX10_happens 52 = .ok (.iadd, 1) := by decide +kernel
theorem dX10_happens_53 : decode cX10_happens 53 = .ok (.bipush 9, 2) := by decide +kernel
theorem dX10_happens_55 : decode cX10_happens 55 = .ok (.invokevirtual 337, 3) := by decide +kernel
theorem dX10_happens_58 : decode cX10_happens 58 = .ok (.ifCond .eq 143, 3) := by decide +kernel
theorem dX10_happens_61 : decode cX10_happens 61 = .ok (.aload_n 0, 1) := by decide +kernel
theorem dX10_happens_62 : decode cX10_happens 62 = .ok (.iload_n 1, 1) := by decide +kernel
theorem dX10_happens_63 : decode cX10_happens 63 = .ok (.iconst 5, 1) := by decide +kernel
theorem dX10_happens_64 : decode cX10_happens 64 = .ok (.irem, 1) := by decide +kernel
theorem dX10_happens_65 : decode cX10_happens 65 = .ok (.iload_n 1, 1) := by decide +kernel
theorem dX10_happens_66 : decode cX10_happens 66 = .ok (.bipush 6, 2) := by decide +kernel
theorem dX10_happens_68 : decode cX10_happens 68 = .ok (.idiv, 1) := by decide +kernel
theorem dX10_happens_69 : decode cX10_happens 69 = .ok (.iconst 4, 1) := by decide +kernel
theorem dX10_happens_70 : decode cX10_happens 70 = .ok (.irem, 1) := by decide +kernel
theorem dX10_happens_71 : decode cX10_happens 71 = .ok (.invokevirtual 400, 3) := by decide +kernel
theorem dX10_happens_74 : decode cX10_happens 74 = .ok (.pop, 1) := by decide +kernel
theorem dX10_happens_75 : decode cX10_happens 75 = .ok (.goto 126, 3) := by decide +kernel
theorem dX10_happens_78 : decode cX10_happens 78 = .ok (.aload_n 0, 1) := by decide +kernel
theorem dX10_happens_79 : decode cX10_happens 79 = .ok (.iconst 4, 1) := by decide +kernel
theorem dX10_happens_80 : decode cX10_happens 80 = .ok (.iload_n 1, 1) := by decide +kernel
theorem dX10_happens_81 : decode cX10_happens 81 = .ok (.iconst 2, 1) := by decide +kernel
theorem dX10_happens_82 : decode cX10_happens 82 = .ok (.irem, 1) := by decide +kernel
theorem dX10_happens_83 : decode cX10_happens 83 = .ok (.iadd, 1) := by decide +kernel
theorem dX10_happens_84 : decode cX10_happens 84 = .ok (.iload_n 1, 1) := by decide +kernel
theorem dX10_happens_85 : decode cX10_happens 85 = .ok (.iconst 4, 1) := by decide +kernel
theorem dX10_happens_86 : decode cX10_happens 86 = .ok (.irem, 1) := by decide +kernel
theorem dX10_happens_87 : decode cX10_happens 87 = .ok (.iload_n 1, 1) := by decide +kernel
theorem dX10_happens_88 : decode cX10_happens 88 = .ok (.bipush 6, 2) := by decide +kernel
theorem dX10_happens_90 : decode cX10_happens 90 = .ok (.idiv, 1) := by decide +kernel
theorem dX10_happens_91 : decode cX10_happens 91 = .ok (.iconst 3, 1) := by decide +kernel
theorem dX10_happens_92 : decode cX10_happens 92 = .ok (.irem, 1) := by decide +kernel
theorem dX10_happens_93 : decode cX10_happens 93 = .ok (.invokevirtual 406, 3) := by decide +kernel
theorem dX10_happens_96 : decode cX10_happens 96 = .ok (.ifCond .eq 105, 3) := by decide +kernel
theorem dX10_happens_99 : decode cX10_happens 99 = .ok (.aload_n 0, 1) := by decide +kernel
theorem dX10_happens_100 : decode cX10_happens 100 = .ok (.iconst 4, 1) := by decide +kernel
theorem dX10_happens_101 : decode cX10_happens 101 = .ok (.iload_n 1, 1) := by decide +kernel
theorem dX10_happens_102 : decode cX10_happens 102 = .ok (.iconst 2, 1) := by decide +kernel
theorem dX10_happens_103 : decode cX10_happens 103 = .ok (.irem, 1) := by decide +kernel
theorem dX10_happens_104 : decode cX10_happens 104 = .ok (.iadd, 1) := by decide +kernel
theorem dX10_happens_105 : decode cX10_happens 105 = .ok (.iload_n 1, 1) := by decide +kernel
theorem dX10_happens_106 : decode cX10_happens 106 = .ok (.iconst 4, 1) := by decide +kernel
theorem dX10_happens_107 : decode cX10_happens 107 = .ok (.irem, 1) := by decide +kernel
theorem dX10_happens_108 : decode cX10_happens 108 = .ok (.iload_n 1, 1) := by decide +kernel
theorem dX10_happens_109 : decode cX10_happens 109 = .ok (.bipush 6, 2) := by decide +kernel
theorem dX10_happens_111 : decode cX10_happens 111 = .ok (.idiv, 1) := by decide +kernel
theorem dX10_happens_112 : decode cX10_happens 112 = .ok (.iconst 3, 1) := by decide +kernel
theorem dX10_happens_113 : decode cX10_happens 113 = .ok (.irem, 1) := by decide +kernel
theorem dX10_happens_114 : decode cX10_happens 114 = .ok (.invokevirtual 409, 3) := by decide +kernel
theorem dX10_happens_117 : decode cX10_happens 117 = .ok (.pop, 1) := by decide +kernel
theorem dX10_happens_118 : decode cX10_happens 118 = .ok (.goto 83, 3) := by decide +kernel
theorem dX10_happens_121 : decode cX10_happens 121 = .ok (.aload_n 0, 1) := by decide +kernel
theorem dX10_happens_122 : decode cX10_happens 122 = .ok (.iload_n 1, 1) := by decide +kernel
theorem dX10_happens_123 : decode cX10_happens 123 = .ok (.iconst 4, 1) := by decide +kernel
theorem dX10_happens_124 : decode cX10_happens 124 = .ok (.irem, 1) := by decide +kernel
theorem dX10_happens_125 : decode cX10_happens 125 = .ok (.iload_n 1, 1) := by decide +kernel
theorem dX10_happens_126 : decode cX10_happens 126 = .ok (.iconst 3, 1) := by decide +kernel
theorem dX10_happens_127 : decode cX10_happens 127 = .ok (.irem, 1) := by decide +kernel
theorem dX10_happens_128 : decode cX10_happens 128 = .ok (.invokevirtual 352, 3) := by decide +kernel
theorem dX10_happens_131 : decode cX10_happens 131 = .ok (.iconst (-1), 1) := by decide +kernel
theorem dX10_happens_132 : decode cX10_happens 132 = .ok (.if_icmp .eq 69, 3) := by decide +kernel
theorem dX10_happens_135 : decode cX10_happens 135 = .ok (.aload_n 0, 1) := by decide +kernel
theorem dX10_happens_136 : decode cX10_happens 136 = .ok (.getfield 7, 3) := by decide +kernel
theorem dX10_happens_139 : decode cX10_happens 139 = .ok (.bipush 41, 2) := by decide +kernel
theorem dX10_happens_141 : decode cX10_happens 141 = .ok (.aload_n 0, 1) := by decide +kernel
theorem dX10_happens_142 : decode cX10_happens 142 = .ok (.iload_n 1, 1) := by decide +kernel
theorem dX10_happens_143 : decode cX10_happens 143 = .ok (.iconst 4, 1) := by decide +kernel
theorem dX10_happens_144 : decode cX10_happens 144 = .ok (.irem, 1) := by decide +kernel
theorem dX10_happens_145 : decode cX10_happens 145 = .ok (.iload_n 1, 1) := by decide +kernel
theorem dX10_happens_146 : decode cX10_happens 146 = .ok (.iconst 3, 1) := by decide +kernel
theorem dX10_happens_147 : decode cX10_happens 147 = .ok (.irem, 1) := by decide +kernel
theorem dX10_happens_148 : decode cX10_happens 148 = .ok (.invokevirtual 352, 3) := by decide +kernel
theorem dX10_happens_151 : decode cX10_happens 151 = .ok (.iadd, 1) := by decide +kernel
theorem dX10_happens_152 : decode cX10_happens 152 = .ok (.aload_n 0, 1) := by decide +kernel
theorem dX10_happens_153 : decode cX10_happens 153 = .ok (.getfield 7, 3) := by decide +kernel
theorem dX10_happens_156 : decode cX10_happens 156 = .ok (.bipush 29, 2) := by decide +kernel
theorem dX10_happens_158 : decode cX10_happens 158 = .ok (.iload_n 2, 1) := by decide +kernel
theorem dX10_happens_159 : decode cX10_happens 159 = .ok (.iadd, 1) := by decide +kernel
theorem dX10_happens_160 : decode cX10_happens 160 = .ok (.iaload, 1) := by decide +kernel
theorem dX10_happens_161 : decode cX10_happens 161 = .ok (.iastore, 1) := by decide +kernel
theorem dX10_happens_162 : decode cX10_happens 162 = .ok (.goto 39, 3) := by decide +kernel
theorem dX10_happens_165 : decode cX10_happens 165 = .ok (.iload_n 1, 1) := by decide +kernel
theorem dX10_happens_166 : decode cX10_happens 166 = .ok (.iconst 4, 1) := by decide +kernel
theorem dX10_happens_167 : decode cX10_happens 167 = .ok (.irem, 1) := by decide +kernel
theorem dX10_happens_168 : decode cX10_happens 168 = .ok (.iconst 1, 1) := by decide +kernel
theorem dX10_happens_169 : decode cX10_happens 169 = .ok (.if_icmp .ne 32, 3) := by decide +kernel
theorem dX10_happens_172 : decode cX10_happens 172 = .ok (.aload_n 0, 1) := by decide +kernel
theorem dX10_happens_173 : decode cX10_happens 173 = .ok (.getfield 7, 3) := by decide +kernel
theorem dX10_happens_176 : decode cX10_happens 176 = .ok (.bipush 29, 2) := by decide +kernel
theorem dX10_happens_178 : decode cX10_happens 178 = .ok (.iload_n 2, 1) := by decide +kernel
theorem dX10_happens_179 : decode cX10_happens 179 = .ok (.iadd, 1) := by decide +kernel
theorem dX10_happens_180 : decode cX10_happens 180 = .ok (.iconst (-1), 1) := by decide +kernel
theorem dX10_happens_181 : decode cX10_happens 181 = .ok (.iastore, 1) := by decide +kernel
theorem dX10_happens_182 : decode cX10_happens 182 = .ok (.goto 19, 3) := by decide +kernel
theorem dX10_happens_185 : decode cX10_happens 185 = .ok (.aload_n 0, 1) := by decide +kernel
theorem dX10_happens_186 : decode cX10_happens 186 = .ok (.getfield 7, 3) := by decide +kernel
theorem dX10_happens_189 : decode cX10_happens 189 = .ok (.iconst 4, 1) := by decide +kernel
theorem dX10_happens_190 : decode cX10_happens 190 = .ok (.iaload, 1) := by decide +kernel
theorem dX10_happens_191 : decode cX10_happens 191 = .ok (.sipush 9999, 3) := by decide +kernel
theorem dX10_happens_194 : decode cX10_happens 194 = .ok (.if_icmp .ge 7, 3) := by decide +kernel
theorem dX10_happens_197 : decode cX10_happens 197 = .ok (.aload_n 0, 1) := by decide +kernel
theorem dX10_happens_198 : decode cX10_happens 198 = .ok (.invokevirtual 403, 3) := by decide +kernel
theorem dX10_happens_201 : decode cX10_happens 201 = .ok (.return_, 1) := by decide +kernel
def f_X10_happens (M : xm) (Lm : xn) (a1 : Int32) : Option (xm × xn) := xlet (xrem (a1 / (6 : Int32)) (6 : Int32)) (fun v1 => (if (xrem a1 (6 : Int32)) = (0 : Int32) then xb1 (f_X10_hasRoom M ((xrem (a1 / (6 : Int32)) (4 : Int32)) + (1 : Int32)) (9 : Int32)) (fun v4 => (if v4 = 0 then some (M, Lm) else xb2 (f_X10_makeNow M (xrem a1 (5 : Int32)) (xrem (a1 / (6 : Int32)) (4 : Int32))) (fun v8 M9 => some (M9, Lm)))) else (if (xrem a1 (6 : Int32)) = (1 : Int32) then xb1 (f_X10_canLoad M ((4 : Int32) + (xrem a1 (2 : Int32))) (xrem a1 (4 : Int32)) (xrem (a1 / (6 : Int32)) (3 : Int32))) (fun v13 => (if v13 = 0 then some (M, Lm) else xb2 (f_X10_loadNow M ((4 : Int32) + (xrem a1 (2 : Int32))) (xrem a1 (4 : Int32)) (xrem (a1 / (6 : Int32)) (3 : Int32))) (fun v17 M18 => some (M18, Lm)))) else (if (xrem a1 (6 : Int32)) = (2 : Int32) then xb1 (f_X10_fieldAt M (xrem a1 (4 : Int32)) (xrem a1 (3 : Int32))) (fun v22 => (if v22 = (-1 : Int32) then some (M, Lm) else xb1 (f_X10_fieldAt M (xrem a1 (4 : Int32)) (xrem a1 (3 : Int32))) (fun v26 => if xin ((29 : Int32) + v1) 9878 = true then if xin ((41 : Int32) + v26) 9878 = true then xlet (up2 M 1 (Int32.toNatClampNeg ((41 : Int32) + v26)) (M 1 (Int32.toNatClampNeg ((29 : Int32) + v1)))) (fun M30 => some (M30, Lm)) else none else none))) else (if (xrem a1 (6 : Int32)) = (3 : Int32) then (if (xrem a1 (4 : Int32)) = (1 : Int32) then if xin ((29 : Int32) + v1) 9878 = true then xlet (up2 M 1 (Int32.toNatClampNeg ((29 : Int32) + v1)) (-1 : Int32)) (fun M34 => some (M34, Lm)) else none else some (M, Lm)) else (if (9999 : Int32) ≤ (M 1 4) then some (M, Lm) else xb2 (f_X10_tick M Lm) (fun M37 L38 => some (M37, L38))))))))
set_option maxHeartbeats 4000000 in
set_option maxRecDepth 20000 in
theorem c_X10_happens (l : Launch) (E : xE) (b : Nat) (M : xm) (Lm : xn) (a1 : Int32) {M' : xm} {L' : xn} (hf : f_X10_happens M Lm a1 = some (M', L')) :
    xMet l E b NY yX10_happens cX10_happens 3 none (xR 10) [.ref (b + 0), .int a1] (cY E b M Lm) none True (cY E b M' L') := by
  refine xMet.ofW (own := RX10) (by decide) rfl (Nat.le_of_ble_eq_true rfl) ?_
  intro p e s m below meth c H locs ls C hm hl
  have hx := C.1.1
  have hb := C.1.2.1
  have hl : lv_has ls 3 [(0, .ref (b + 0)), (1, .int a1)] := hl
  unfold f_X10_happens at hf
  refine lv_iload_n hx hb dX10_happens_0 rfl (lv_at hl 1 rfl) ?_
  refine lv_bipush (v := (6 : Int32)) hx hb dX10_happens_1 (by decide) ?_
  refine lv_idiv hx hb dX10_happens_3 (by decide) ?_
  refine lv_bipush (v := (6 : Int32)) hx hb dX10_happens_4 (by decide) ?_
  refine lv_irem hx hb dX10_happens_6 (by decide) ?_
  refine lv_topi (fun v1 ev1 => ?_)
  have hf := xlet_e ev1 hf
  refine lv_istore_n (lv' := [(2, .int v1), (0, .ref (b + 0)), (1, .int a1)]) hx hb dX10_happens_7 rfl hl (by decide) rfl (fun ls hl => ?_)
  refine lv_iload_n hx hb dX10_happens_8 rfl (lv_at hl 2 rfl) ?_
  refine lv_bipush (v := (6 : Int32)) hx hb dX10_happens_9 (by decide) ?_
  refine lv_irem hx hb dX10_happens_11 (by decide) ?_
  by_cases hs2 : (xrem a1 (6 : Int32)) = (0 : Int32)
  · have hf := xif_t hs2 hf
    refine x_tabIn (tgt := 44) hx hb (0 : Int32) hs2 dX10_happens_12 (by decide) (by decide) rfl (by decide) ?_
    refine lv_aload_n hx hb dX10_happens_44 rfl (lv_at hl 1 rfl) ?_
    refine lv_iload_n hx hb dX10_happens_45 rfl (lv_at hl 2 rfl) ?_
    refine lv_bipush (v := (6 : Int32)) hx hb dX10_happens_46 (by decide) ?_
    refine lv_idiv hx hb dX10_happens_48 (by decide) ?_
    refine lv_iconst (v := (4 : Int32)) hx hb dX10_happens_49 (by decide) ?_
    refine lv_irem hx hb dX10_happens_50 (by decide) ?_
    refine lv_iconst (v := (1 : Int32)) hx hb dX10_happens_51 (by decide) ?_
    refine lv_iadd hx hb dX10_happens_52 ?_
    refine lv_bipush (v := (9 : Int32)) hx hb dX10_happens_53 (by decide) ?_
    obtain ⟨v4, hq3, hf⟩ := xb1_e hf
    refine x_callVi (As := [.int ((xrem (a1 / (6 : Int32)) (4 : Int32)) + (1 : Int32)), .int (9 : Int32)]) (rest := []) C hm (c_X10_hasRoom l E b M Lm ((xrem (a1 / (6 : Int32)) (4 : Int32)) + (1 : Int32)) (9 : Int32) hq3) rfl cy_0 tc_X10_hasRoom tm_RX10_337 ti_X10_hasRoom ts_X10_hasRoom tn_RX10 td_X10_hasRoom rfl rfl ⟨Nat.le_of_ble_eq_true rfl, Nat.le_of_ble_eq_true rfl⟩ rfl hl.1 rfl (Nat.le_of_ble_eq_true rfl) ⟨Nat.zero_le _, Nat.zero_le _⟩ dX10_happens_55 (fun H locs hP5 hm => ?_)
    refine lv_if_eq (tgt := 201) hx hb dX10_happens_58 (by decide) (fun hc6 => ?_) (fun hc6 => ?_)
    · have hf := xif_t hc6 hf
      cases hf
      exact x_vret C hm trivial dX10_happens_201
    have hf := xif_f hc6 hf
    refine lv_aload_n hx hb dX10_happens_61 rfl (lv_at hl 1 rfl) ?_
    refine lv_iload_n hx hb dX10_happens_62 rfl (lv_at hl 2 rfl) ?_
    refine lv_iconst (v := (5 : Int32)) hx hb dX10_happens_63 (by decide) ?_
    refine lv_irem hx hb dX10_happens_64 (by decide) ?_
    refine lv_iload_n hx hb dX10_happens_65 rfl (lv_at hl 2 rfl) ?_
    refine lv_bipush (v := (6 : Int32)) hx hb dX10_happens_66 (by decide) ?_
    refine lv_idiv hx hb dX10_happens_68 (by decide) ?_
    refine lv_iconst (v := (4 : Int32)) hx hb dX10_happens_69 (by decide) ?_
    refine lv_irem hx hb dX10_happens_70 (by decide) ?_
    obtain ⟨v8, M9, hq7, hf⟩ := xb2_e hf
    refine x_callVi (As := [.int (xrem a1 (5 : Int32)), .int (xrem (a1 / (6 : Int32)) (4 : Int32))]) (rest := []) C hm (c_X10_makeNow l E b M Lm (xrem a1 (5 : Int32)) (xrem (a1 / (6 : Int32)) (4 : Int32)) hq7) rfl cy_0 tc_X10_makeNow tm_RX10_400 ti_X10_makeNow ts_X10_makeNow tn_RX10 td_X10_makeNow rfl rfl ⟨Nat.le_of_ble_eq_true rfl, Nat.le_of_ble_eq_true rfl⟩ rfl hl.1 rfl (Nat.le_of_ble_eq_true rfl) ⟨Nat.zero_le _, Nat.zero_le _⟩ dX10_happens_71 (fun H locs hP10 hm => ?_)
    refine lv_pop hx hb dX10_happens_74 rfl ?_
    refine lv_goto (tgt := 201) hx hb dX10_happens_75 (by decide) ?_
    cases hf
    exact x_vret C hm trivial dX10_happens_201
  have hf := xif_f hs2 hf
  by_cases hs11 : (xrem a1 (6 : Int32)) = (1 : Int32)
  · have hf := xif_t hs11 hf
    refine x_tabIn (tgt := 78) hx hb (1 : Int32) hs11 dX10_happens_12 (by decide) (by decide) rfl (by decide) ?_
    refine lv_aload_n hx hb dX10_happens_78 rfl (lv_at hl 1 rfl) ?_
    refine lv_iconst (v := (4 : Int32)) hx hb dX10_happens_79 (by decide) ?_
    refine lv_iload_n hx hb dX10_happens_80 rfl (lv_at hl 2 rfl) ?_
    refine lv_iconst (v := (2 : Int32)) hx hb dX10_happens_81 (by decide) ?_
    refine lv_irem hx hb dX10_happens_82 (by decide) ?_
    refine lv_iadd hx hb dX10_happens_83 ?_
    refine lv_iload_n hx hb dX10_happens_84 rfl (lv_at hl 2 rfl) ?_
    refine lv_iconst (v := (4 : Int32)) hx hb dX10_happens_85 (by decide) ?_
    refine lv_irem hx hb dX10_happens_86 (by decide) ?_
    refine lv_iload_n hx hb dX10_happens_87 rfl (lv_at hl 2 rfl) ?_
    refine lv_bipush (v := (6 : Int32)) hx hb dX10_happens_88 (by decide) ?_
    refine lv_idiv hx hb dX10_happens_90 (by decide) ?_
    refine lv_iconst (v := (3 : Int32)) hx hb dX10_happens_91 (by decide) ?_
    refine lv_irem hx hb dX10_happens_92 (by decide) ?_
    obtain ⟨v13, hq12, hf⟩ := xb1_e hf
    refine x_callVi (As := [.int ((4 : Int32) + (xrem a1 (2 : Int32))), .int (xrem a1 (4 : Int32)), .int (xrem (a1 / (6 : Int32)) (3 : Int32))]) (rest := []) C hm (c_X10_canLoad l E b M Lm ((4 : Int32) + (xrem a1 (2 : Int32))) (xrem a1 (4 : Int32)) (xrem (a1 / (6 : Int32)) (3 : Int32)) hq12) rfl cy_0 tc_X10_canLoad tm_RX10_406 ti_X10_canLoad ts_X10_canLoad tn_RX10 td_X10_canLoad rfl rfl ⟨Nat.le_of_ble_eq_true rfl, Nat.le_of_ble_eq_true rfl⟩ rfl hl.1 rfl (Nat.le_of_ble_eq_true rfl) ⟨Nat.zero_le _, Nat.zero_le _⟩ dX10_happens_93 (fun H locs hP14 hm => ?_)
    refine lv_if_eq (tgt := 201) hx hb dX10_happens_96 (by decide) (fun hc15 => ?_) (fun hc15 => ?_)
    · have hf := xif_t hc15 hf
      cases hf
      exact x_vret C hm trivial dX10_happens_201
    have hf := xif_f hc15 hf
    refine lv_aload_n hx hb dX10_happens_99 rfl (lv_at hl 1 rfl) ?_
    refine lv_iconst (v := (4 : Int32)) hx hb dX10_happens_100 (by decide) ?_
    refine lv_iload_n hx hb dX10_happens_101 rfl (lv_at hl 2 rfl) ?_
    refine lv_iconst (v := (2 : Int32)) hx hb dX10_happens_102 (by decide) ?_
    refine lv_irem hx hb dX10_happens_103 (by decide) ?_
    refine lv_iadd hx hb dX10_happens_104 ?_
    refine lv_iload_n hx hb dX10_happens_105 rfl (lv_at hl 2 rfl) ?_
    refine lv_iconst (v := (4 : Int32)) hx hb dX10_happens_106 (by decide) ?_
    refine lv_irem hx hb dX10_happens_107 (by decide) ?_
    refine lv_iload_n hx hb dX10_happens_108 rfl (lv_at hl 2 rfl) ?_
    refine lv_bipush (v := (6 : Int32)) hx hb dX10_happens_109 (by decide) ?_
    refine lv_idiv hx hb dX10_happens_111 (by decide) ?_
    refine lv_iconst (v := (3 : Int32)) hx hb dX10_happens_112 (by decide) ?_
    refine lv_irem hx hb dX10_happens_113 (by decide) ?_
    obtain ⟨v17, M18, hq16, hf⟩ := xb2_e hf
    refine x_callVi (As := [.int ((4 : Int32) + (xrem a1 (2 : Int32))), .int (xrem a1 (4 : Int32)), .int (xrem (a1 / (6 : Int32)) (3 : Int32))]) (rest := []) C hm (c_X10_loadNow l E b M Lm ((4 : Int32) + (xrem a1 (2 : Int32))) (xrem a1 (4 : Int32)) (xrem (a1 / (6 : Int32)) (3 : Int32)) hq16) rfl cy_0 tc_X10_loadNow tm_RX10_409 ti_X10_loadNow ts_X10_loadNow tn_RX10 td_X10_loadNow rfl rfl ⟨Nat.le_of_ble_eq_true rfl, Nat.le_of_ble_eq_true rfl⟩ rfl hl.1 rfl (Nat.le_of_ble_eq_true rfl) ⟨Nat.zero_le _, Nat.zero_le _⟩ dX10_happens_114 (fun H locs hP19 hm => ?_)
    refine lv_pop hx hb dX10_happens_117 rfl ?_
    refine lv_goto (tgt := 201) hx hb dX10_happens_118 (by decide) ?_
    cases hf
    exact x_vret C hm trivial dX10_happens_201
  have hf := xif_f hs11 hf
  by_cases hs20 : (xrem a1 (6 : Int32)) = (2 : Int32)
  · have hf := xif_t hs20 hf
    refine x_tabIn (tgt := 121) hx hb (2 : Int32) hs20 dX10_happens_12 (by decide) (by decide) rfl (by decide) ?_
    refine lv_aload_n hx hb dX10_happens_121 rfl (lv_at hl 1 rfl) ?_
    refine lv_iload_n hx hb dX10_happens_122 rfl (lv_at hl 2 rfl) ?_
    refine lv_iconst (v := (4 : Int32)) hx hb dX10_happens_123 (by decide) ?_
    refine lv_irem hx hb dX10_happens_124 (by decide) ?_
    refine lv_iload_n hx hb dX10_happens_125 rfl (lv_at hl 2 rfl) ?_
    refine lv_iconst (v := (3 : Int32)) hx hb dX10_happens_126 (by decide) ?_
    refine lv_irem hx hb dX10_happens_127 (by decide) ?_
    obtain ⟨v22, hq21, hf⟩ := xb1_e hf
    refine x_callVi (As := [.int (xrem a1 (4 : Int32)), .int (xrem a1 (3 : Int32))]) (rest := []) C hm (c_X10_fieldAt l E b M Lm (xrem a1 (4 : Int32)) (xrem a1 (3 : Int32)) hq21) rfl cy_0 tc_X10_fieldAt tm_RX10_352 ti_X10_fieldAt ts_X10_fieldAt tn_RX10 td_X10_fieldAt rfl rfl ⟨Nat.le_of_ble_eq_true rfl, Nat.le_of_ble_eq_true rfl⟩ rfl hl.1 rfl (Nat.le_of_ble_eq_true rfl) ⟨Nat.zero_le _, Nat.zero_le _⟩ dX10_happens_128 (fun H locs hP23 hm => ?_)
    refine lv_iconst (v := (-1 : Int32)) hx hb dX10_happens_131 (by decide) ?_
    refine lv_icmp_eq (tgt := 201) hx hb dX10_happens_132 (by decide) (fun hc24 => ?_) (fun hc24 => ?_)
    · have hf := xif_t hc24 hf
      cases hf
      exact x_vret C hm trivial dX10_happens_201
    have hf := xif_f hc24 hf
    refine lv_aload_n hx hb dX10_happens_135 rfl (lv_at hl 1 rfl) ?_
    refine x_get C hm inX10 rfl 0 (by decide) tf_RX10_7 cy_0 rfl dX10_happens_136 ?_
    refine lv_bipush (v := (41 : Int32)) hx hb dX10_happens_139 (by decide) ?_
    refine lv_aload_n hx hb dX10_happens_141 rfl (lv_at hl 1 rfl) ?_
    refine lv_iload_n hx hb dX10_happens_142 rfl (lv_at hl 2 rfl) ?_
    refine lv_iconst (v := (4 : Int32)) hx hb dX10_happens_143 (by decide) ?_
    refine lv_irem hx hb dX10_happens_144 (by decide) ?_
    refine lv_iload_n hx hb dX10_happens_145 rfl (lv_at hl 2 rfl) ?_
    refine lv_iconst (v := (3 : Int32)) hx hb dX10_happens_146 (by decide) ?_
    refine lv_irem hx hb dX10_happens_147 (by decide) ?_
    obtain ⟨v26, hq25, hf⟩ := xb1_e hf
    refine x_callVi (As := [.int (xrem a1 (4 : Int32)), .int (xrem a1 (3 : Int32))]) (rest := [.int (41 : Int32), .ref (b + 1)]) C hm (c_X10_fieldAt l E b M Lm (xrem a1 (4 : Int32)) (xrem a1 (3 : Int32)) hq25) rfl cy_0 tc_X10_fieldAt tm_RX10_352 ti_X10_fieldAt ts_X10_fieldAt tn_RX10 td_X10_fieldAt rfl rfl ⟨Nat.le_of_ble_eq_true rfl, Nat.le_of_ble_eq_true rfl⟩ rfl hl.1 rfl (Nat.le_of_ble_eq_true rfl) ⟨Nat.zero_le _, Nat.zero_le _⟩ dX10_happens_148 (fun H locs hP27 hm => ?_)
    refine lv_iadd hx hb dX10_happens_151 ?_
    refine lv_aload_n hx hb dX10_happens_152 rfl (lv_at hl 1 rfl) ?_
    refine x_get C hm inX10 rfl 0 (by decide) tf_RX10_7 cy_0 rfl dX10_happens_153 ?_
    refine lv_bipush (v := (29 : Int32)) hx hb dX10_happens_156 (by decide) ?_
    refine lv_iload_n hx hb dX10_happens_158 rfl (lv_at hl 0 rfl) ?_
    refine lv_iadd hx hb dX10_happens_159 ?_
    obtain ⟨hi28, hf⟩ := xif_s hf
    refine x_iald (j := (Int32.toNatClampNeg ((29 : Int32) + v1))) C hm cy_1 hi28 dX10_happens_160 rfl ?_
    obtain ⟨hi29, hf⟩ := xif_s hf
    obtain ⟨M30, eM30, hf⟩ := xlet_x hf
    refine x_iast (j := (Int32.toNatClampNeg ((41 : Int32) + v26))) (cf' := cY E b M30 Lm) C hm cy_1 hi29 dX10_happens_161 rfl (by rw [eM30]; exact cyu_1) (by rw [eM30]; exact cY_o) (fun H locs hm => ?_)
    refine lv_goto (tgt := 201) hx hb dX10_happens_162 (by decide) ?_
    cases hf
    exact x_vret C hm trivial dX10_happens_201
  have hf := xif_f hs20 hf
  by_cases hs31 : (xrem a1 (6 : Int32)) = (3 : Int32)
  · have hf := xif_t hs31 hf
    refine x_tabIn (tgt := 165) hx hb (3 : Int32) hs31 dX10_happens_12 (by decide) (by decide) rfl (by decide) ?_
    refine lv_iload_n hx hb dX10_happens_165 rfl (lv_at hl 2 rfl) ?_
    refine lv_iconst (v := (4 : Int32)) hx hb dX10_happens_166 (by decide) ?_
    refine lv_irem hx hb dX10_happens_167 (by decide) ?_
    refine lv_iconst (v := (1 : Int32)) hx hb dX10_happens_168 (by decide) ?_
    refine lv_icmp_ne (tgt := 201) hx hb dX10_happens_169 (by decide) (fun hc32 => ?_) (fun hc32 => ?_)
    · have hf := xif_f hc32 hf
      cases hf
      exact x_vret C hm trivial dX10_happens_201
    have hf := xif_t hc32 hf
    refine lv_aload_n hx hb dX10_happens_172 rfl (lv_at hl 1 rfl) ?_
    refine x_get C hm inX10 rfl 0 (by decide) tf_RX10_7 cy_0 rfl dX10_happens_173 ?_
    refine lv_bipush (v := (29 : Int32)) hx hb dX10_happens_176 (by decide) ?_
    refine lv_iload_n hx hb dX10_happens_178 rfl (lv_at hl 0 rfl) ?_
    refine lv_iadd hx hb dX10_happens_179 ?_
    refine lv_iconst (v := (-1 : Int32)) hx hb dX10_happens_180 (by decide) ?_
    obtain ⟨hi33, hf⟩ := xif_s hf
    obtain ⟨M34, eM34, hf⟩ := xlet_x hf
    refine x_iast (j := (Int32.toNatClampNeg ((29 : Int32) + v1))) (cf' := cY E b M34 Lm) C hm cy_1 hi33 dX10_happens_181 rfl (by rw [eM34]; exact cyu_1) (by rw [eM34]; exact cY_o) (fun H locs hm => ?_)
    refine lv_goto (tgt := 201) hx hb dX10_happens_182 (by decide) ?_
    cases hf
    exact x_vret C hm trivial dX10_happens_201
  have hf := xif_f hs31 hf
  refine x_tabOut (tgt := 185) hx hb dX10_happens_12 (by decide) (fun i hi => ?_) (by decide) ?_
  · match i, hi with
    | 0, _ => exact hs2
    | 1, _ => exact hs11
    | 2, _ => exact hs20
    | 3, _ => exact hs31
    | (i + 4), hi => exact absurd hi (by omega)
  refine lv_aload_n hx hb dX10_happens_185 rfl (lv_at hl 1 rfl) ?_
  refine x_get C hm inX10 rfl 0 (by decide) tf_RX10_7 cy_0 rfl dX10_happens_186 ?_
  refine lv_iconst (v := (4 : Int32)) hx hb dX10_happens_189 (by decide) ?_
  refine x_iald (j := 4) C hm cy_1 (by decide) dX10_happens_190 (by decide) ?_
  refine lv_sipush (v := (9999 : Int32)) hx hb dX10_happens_191 (by decide) ?_
  refine lv_icmp_ge (tgt := 201) hx hb dX10_happens_194 (by decide) (fun hc35 => ?_) (fun hc35 => ?_)
  · have hf := xif_t hc35 hf
    cases hf
    exact x_vret C hm trivial dX10_happens_201
  have hf := xif_f hc35 hf
  refine lv_aload_n hx hb dX10_happens_197 rfl (lv_at hl 1 rfl) ?_
  obtain ⟨M37, L38, hq36, hf⟩ := xb2_e hf
  refine x_callVv (As := []) (rest := []) C hm (c_X10_tick l E b M Lm hq36) rfl cy_0 tc_X10_tick tm_RX10_403 ti_X10_tick ts_X10_tick tn_RX10 td_X10_tick rfl rfl ⟨Nat.le_of_ble_eq_true rfl, Nat.le_of_ble_eq_true rfl⟩ rfl hl.1 rfl (Nat.le_of_ble_eq_true rfl) ⟨Nat.zero_le _, Nat.zero_le _⟩ dX10_happens_198 (fun H locs hP39 hm => ?_)
  cases hf
  exact x_vret C hm trivial dX10_happens_201
/-! ColouredHeapModel.held(JII)I -/
theorem dX10_held_0 : decode cX10_held 0 = .ok (.lload_n 0, 1) := by decide +kernel
theorem dX10_held_1 : decode cX10_held 1 = .ok (.iload_n 2, 1) := by decide +kernel
theorem dX10_held_2 : decode cX10_held 2 = .ok (.i2l, 1) := by decide +kernel
theorem dX10_held_3 : decode cX10_held 3 = .ok (.lcmp, 1) := by decide +kernel
theorem dX10_held_4 : decode cX10_held 4 = .ok (.ifCond .ge 7, 3) := by decide +kernel
theorem dX10_held_7 : decode cX10_held 7 = .ok (.iload_n 2, 1) := by decide +kernel
theorem dX10_held_8 : decode cX10_held 8 = .ok (.goto 16, 3) := by decide +kernel
theorem dX10_held_11 : decode cX10_held 11 = .ok (.lload_n 0, 1) := by decide +kernel
theorem dX10_held_12 : decode cX10_held 12 = .ok (.iload_n 3, 1) := by decide +kernel
theorem dX10_held_13 : decode cX10_held 13 = .ok (.i2l, 1) := by decide +kernel
theorem dX10_held_14 : decode cX10_held 14 = .ok (.lcmp, 1) := by decide +kernel
theorem dX10_held_15 : decode cX10_held 15 = .ok (.ifCond .le 7, 3) := by decide +kernel
theorem dX10_held_18 : decode cX10_held 18 = .ok (.iload_n 3, 1) := by decide +kernel
theorem dX10_held_19 : decode cX10_held 19 = .ok (.goto 5, 3) := by decide +kernel
theorem dX10_held_22 : decode cX10_held 22 = .ok (.lload_n 0, 1) := by decide +kernel
theorem dX10_held_23 : decode cX10_held 23 = .ok (.l2i, 1) := by decide +kernel
theorem dX10_held_24 : decode cX10_held 24 = .ok (.ireturn, 1) := by decide +kernel
def f_X10_held (a0 : Int64) (a1 : Int32) (a2 : Int32) : Int32 := (if 0 ≤ (lg_cmp a0 (a1.toInt64)) then (if (lg_cmp a0 (a2.toInt64)) ≤ 0 then (a0.toInt32) else a2) else a1)
set_option maxHeartbeats 4000000 in
set_option maxRecDepth 20000 in
theorem c_X10_held (l : Launch) (E : xE) (b : Nat) (M : xm) (Lm : xn) (a0 : Int64) (a1 : Int32) (a2 : Int32) {r : Int32} (hf : f_X10_held a0 a1 a2 = r) :
    xMet l E b NY yX10_held cX10_held 4 (some .int) (xR 1) [.long a0, .int a1, .int a2] (cY E b M Lm) (some (.int r)) True (cY E b M Lm) := by
  refine xMet.ofW (own := RX10) (by decide) rfl (Nat.le_of_ble_eq_true rfl) ?_
  intro p e s m below meth c H locs ls C hm hl
  have hx := C.1.1
  have hb := C.1.2.1
  have hl : lv_has ls 4 [(0, .long a0), (2, .int a1), (3, .int a2)] := hl
  unfold f_X10_held at hf
  refine lv_lload_n hx hb dX10_held_0 rfl (lv_at hl 0 rfl) ?_
  refine lv_iload_n hx hb dX10_held_1 rfl (lv_at hl 1 rfl) ?_
  refine lv_i2l hx hb dX10_held_2 rfl ?_
  refine W.lcmp hx hb dX10_held_3 ?_
  refine lv_if_ge (tgt := 11) hx hb dX10_held_4 (by decide) (fun hc1 => ?_) (fun hc1 => ?_)
  rotate_left
  · have hf := xif_f hc1 hf
    refine lv_iload_n hx hb dX10_held_7 rfl (lv_at hl 1 rfl) ?_
    refine lv_goto (tgt := 24) hx hb dX10_held_8 (by decide) ?_
    cases hf
    exact x_iret C hm trivial dX10_held_24
  have hf := xif_t hc1 hf
  refine lv_lload_n hx hb dX10_held_11 rfl (lv_at hl 0 rfl) ?_
  refine lv_iload_n hx hb dX10_held_12 rfl (lv_at hl 2 rfl) ?_
  refine lv_i2l hx hb dX10_held_13 rfl ?_
  refine W.lcmp hx hb dX10_held_14 ?_
  refine lv_if_le (tgt := 22) hx hb dX10_held_15 (by decide) (fun hc2 => ?_) (fun hc2 => ?_)
  · have hf := xif_t hc2 hf
    refine lv_lload_n hx hb dX10_held_22 rfl (lv_at hl 0 rfl) ?_
    refine lv_l2i hx hb dX10_held_23 rfl ?_
    cases hf
    exact x_iret C hm trivial dX10_held_24
  have hf := xif_f hc2 hf
  refine lv_iload_n hx hb dX10_held_18 rfl (lv_at hl 2 rfl) ?_
  refine lv_goto (tgt := 24) hx hb dX10_held_19 (by decide) ?_
  cases hf
  exact x_iret C hm trivial dX10_held_24
/-! ColouredHeapModel.image()I -/
theorem dX10_image_0 : decode cX10_image 0 = .ok (.aload_n 0, 1) := by decide +kernel
theorem dX10_image_1 : decode cX10_image 1 = .ok (.getfield 7, 3) := by decide +kernel
theorem dX10_image_4 : decode cX10_image 4 = .ok (.aload_n 0, 1) := by decide +kernel
theorem dX10_image_5 : decode cX10_image 5 = .ok (.getfield 13, 3) := by decide +kernel
theorem dX10_image_8 : decode cX10_image 8 = .ok (.invokestatic 55, 3) := by decide +kernel
theorem dX10_image_11 : decode cX10_image 11 = .ok (.aload_n 0, 1) := by decide +kernel
theorem dX10_image_12 : decode cX10_image 12 = .ok (.getfield 7, 3) := by decide +kernel
theorem dX10_image_15 : decode cX10_image 15 = .ok (.iconst 4, 1) := by decide +kernel
theorem dX10_image_16 : decode cX10_image 16 = .ok (.iaload, 1) := by decide +kernel
theorem dX10_image_17 : decode cX10_image 17 = .ok (.ireturn, 1) := by decide +kernel
def f_X10_image (M : xm) : Option (Int32 × xm) := xb1 (f_X10_layRow 1 2 M) (fun M2 => some ((M2 1 4), M2))
set_option maxHeartbeats 4000000 in
set_option maxRecDepth 20000 in
theorem c_X10_image (l : Launch) (E : xE) (b : Nat) (M : xm) (Lm : xn) {r : Int32} {M' : xm} (hf : f_X10_image M = some (r, M')) :
    xMet l E b NY yX10_image cX10_image 1 (some .int) (xR 2) [.ref (b + 0)] (cY E b M Lm) (some (.int r)) True (cY E b M' Lm) := by
  refine xMet.ofW (own := RX10) (by decide) rfl (Nat.le_of_ble_eq_true rfl) ?_
  intro p e s m below meth c H locs ls C hm hl
  have hx := C.1.1
  have hb := C.1.2.1
  have hl : lv_has ls 1 [(0, .ref (b + 0))] := hl
  unfold f_X10_image at hf
  refine lv_aload_n hx hb dX10_image_0 rfl (lv_at hl 0 rfl) ?_
  refine x_get C hm inX10 rfl 0 (by decide) tf_RX10_7 cy_0 rfl dX10_image_1 ?_
  refine lv_aload_n hx hb dX10_image_4 rfl (lv_at hl 0 rfl) ?_
  refine x_get C hm inX10 rfl 1 (by decide) tf_RX10_13 cy_0 rfl dX10_image_5 ?_
  obtain ⟨M2, hq1, hf⟩ := xb1_e hf
  refine x_callSv (As := [.ref (b + 1), .ref (b + 2)]) (rest := []) C hm (c_X10_layRow l E b aY_1 aY_2 M Lm hq1) tc_X10_layRow tm_RX10_55 tz_X10_layRow tn_RX10 td_X10_layRow rfl rfl ⟨Nat.le_of_ble_eq_true rfl, Nat.le_of_ble_eq_true rfl⟩ rfl hl.1 rfl (Nat.le_of_ble_eq_true rfl) ⟨Nat.zero_le _, Nat.zero_le _⟩ dX10_image_8 (fun H locs hP3 hm => ?_)
  refine lv_aload_n hx hb dX10_image_11 rfl (lv_at hl 0 rfl) ?_
  refine x_get C hm inX10 rfl 0 (by decide) tf_RX10_7 cy_0 rfl dX10_image_12 ?_
  refine lv_iconst (v := (4 : Int32)) hx hb dX10_image_15 (by decide) ?_
  refine x_iald (j := 4) C hm cy_1 (by decide) dX10_image_16 (by decide) ?_
  cases hf
  exact x_iret C hm trivial dX10_image_17
/-! ColouredHeapModel.is(I)I -/
theorem dX10_is_0 : decode cX10_is 0 = .ok (.iload_n 1, 1) := by decide +kernel
theorem dX10_is_1 : decode cX10_is 1 = .ok (.iconst 0, 1) := by decide +kernel
theorem dX10_is_2 : decode cX10_is 2 = .ok (.bipush 6, 2) := by decide +kernel
theorem dX10_is_4 : decode cX10_is 4 = .ok (.invokestatic 59, 3) := by decide +kernel
theorem dX10_is_7 : decode cX10_is 7 = .ok (.ifCond .eq 14, 3) := by decide +kernel
theorem dX10_is_10 : decode cX10_is 10 = .ok (.aload_n 0, 1) := by decide +kernel
theorem dX10_is_11 : decode cX10_is 11 = .ok (.getfield 7, 3) := by decide +kernel
theorem dX10_is_14 : decode cX10_is 14 = .ok (.iconst 4, 1) := by decide +kernel
theorem dX10_is_15 : decode cX10_is 15 = .ok (.iload_n 1, 1) := by decide +kernel
theorem dX10_is_16 : decode cX10_is 16 = .ok (.iadd, 1) := by decide +kernel
theorem dX10_is_17 : decode cX10_is 17 = .ok (.iaload, 1) := by decide +kernel
theorem dX10_is_18 : decode cX10_is 18 = .ok (.goto 5, 3) := by decide +kernel
theorem dX10_is_21 : decode cX10_is 21 = .ok (.bipush (-2), 2) := by decide +kernel
theorem dX10_is_23 : decode cX10_is 23 = .ok (.ireturn, 1) := by decide +kernel
def f_X10_is (M : xm) (a1 : Int32) : Option (Int32) := (if (f_X10_isIn a1 (0 : Int32) (6 : Int32)) = 0 then some (-2 : Int32) else if xin ((4 : Int32) + a1) 9878 = true then some (M 1 (Int32.toNatClampNeg ((4 : Int32) + a1))) else none)
set_option maxHeartbeats 4000000 in
set_option maxRecDepth 20000 in
theorem c_X10_is (l : Launch) (E : xE) (b : Nat) (M : xm) (Lm : xn) (a1 : Int32) {r : Int32} (hf : f_X10_is M a1 = some r) :
    xMet l E b NY yX10_is cX10_is 2 (some .int) (xR 2) [.ref (b + 0), .int a1] (cY E b M Lm) (some (.int r)) True (cY E b M Lm) := by
  refine xMet.ofW (own := RX10) (by decide) rfl (Nat.le_of_ble_eq_true rfl) ?_
  intro p e s m below meth c H locs ls C hm hl
  have hx := C.1.1
  have hb := C.1.2.1
  have hl : lv_has ls 2 [(0, .ref (b + 0)), (1, .int a1)] := hl
  unfold f_X10_is at hf
  refine lv_iload_n hx hb dX10_is_0 rfl (lv_at hl 1 rfl) ?_
  refine lv_iconst (v := (0 : Int32)) hx hb dX10_is_1 (by decide) ?_
  refine lv_bipush (v := (6 : Int32)) hx hb dX10_is_2 (by decide) ?_
  refine x_callSi (As := [.int a1, .int (0 : Int32), .int (6 : Int32)]) (rest := []) C hm (c_X10_isIn l E b M Lm a1 (0 : Int32) (6 : Int32) rfl) tc_X10_isIn tm_RX10_59 tz_X10_isIn tn_RX10 td_X10_isIn rfl rfl ⟨Nat.le_of_ble_eq_true rfl, Nat.le_of_ble_eq_true rfl⟩ rfl hl.1 rfl (Nat.le_of_ble_eq_true rfl) ⟨Nat.zero_le _, Nat.zero_le _⟩ dX10_is_4 (fun H locs hP1 hm => ?_)
  refine lv_if_eq (tgt := 21) hx hb dX10_is_7 (by decide) (fun hc2 => ?_) (fun hc2 => ?_)
  · have hf := xif_t hc2 hf
    refine lv_bipush (v := (-2 : Int32)) hx hb dX10_is_21 (by decide) ?_
    cases hf
    exact x_iret C hm trivial dX10_is_23
  have hf := xif_f hc2 hf
  refine lv_aload_n hx hb dX10_is_10 rfl (lv_at hl 0 rfl) ?_
  refine x_get C hm inX10 rfl 0 (by decide) tf_RX10_7 cy_0 rfl dX10_is_11 ?_
  refine lv_iconst (v := (4 : Int32)) hx hb dX10_is_14 (by decide) ?_
  refine lv_iload_n hx hb dX10_is_15 rfl (lv_at hl 1 rfl) ?_
  refine lv_iadd hx hb dX10_is_16 ?_
  obtain ⟨hi3, hf⟩ := xif_s hf
  refine x_iald (j := (Int32.toNatClampNeg ((4 : Int32) + a1))) C hm cy_1 hi3 dX10_is_17 rfl ?_
  refine lv_goto (tgt := 23) hx hb dX10_is_18 (by decide) ?_
  cases hf
  exact x_iret C hm trivial dX10_is_23
/-! ColouredHeapModel.load(III)I -/
theorem dX10_load_0 : decode cX10_load 0 = .ok (.aload_n 0, 1) := by decide +kernel
theorem dX10_load_1 : decode cX10_load 1 = .ok (.iload_n 1, 1) := by decide +kernel
theorem dX10_load_2 : decode cX10_load 2 = .ok (.iload_n 2, 1) := by decide +kernel
theorem dX10_load_3 : decode cX10_load 3 = .ok (.iload_n 3, 1) := by decide +kernel
theorem dX10_load_4 : decode cX10_load 4 = .ok (.invokevirtual 406, 3) := by decide +kernel
theorem dX10_load_7 : decode cX10_load 7 = .ok (.ifCond .ne 6, 3) := by decide +kernel
theorem dX10_load_10 : decode cX10_load 10 = .ok (.bipush (-2), 2) := by decide +kernel
theorem dX10_load_12 : decode cX10_load 12 = .ok (.ireturn, 1) := by decide +kernel
theorem dX10_load_13 : decode cX10_load 13 = .ok (.aload_n 0, 1) := by decide +kernel
theorem dX10_load_14 : decode cX10_load 14 = .ok (.invokevirtual 397, 3) := by decide +kernel
theorem dX10_load_17 : decode cX10_load 17 = .ok (.aload_n 0, 1) := by decide +kernel
theorem dX10_load_18 : decode cX10_load 18 = .ok (.iload_n 1, 1) := by decide +kernel
theorem dX10_load_19 : decode cX10_load 19 = .ok (.iload_n 2, 1) := by decide +kernel
theorem dX10_load_20 : decode cX10_load 20 = .ok (.iload_n 3, 1) := by decide +kernel
theorem dX10_load_21 : decode cX10_load 21 = .ok (.invokevirtual 409, 3) := by decide +kernel
theorem dX10_load_24 : decode cX10_load 24 = .ok (.ireturn, 1) := by decide +kernel
def f_X10_load (M : xm) (a1 : Int32) (a2 : Int32) (a3 : Int32) : Option (Int32 × xm) := xb1 (f_X10_canLoad M a1 a2 a3) (fun v2 => (if v2 = 0 then some ((-2 : Int32), M) else xb1 (f_X10_keep M) (fun M6 => xb2 (f_X10_loadNow M6 a1 a2 a3) (fun v9 M10 => some (v9, M10)))))
set_option maxHeartbeats 4000000 in
set_option maxRecDepth 20000 in
theorem c_X10_load (l : Launch) (E : xE) (b : Nat) (M : xm) (Lm : xn) (a1 : Int32) (a2 : Int32) (a3 : Int32) {r : Int32} {M' : xm} (hf : f_X10_load M a1 a2 a3 = some (r, M')) :
    xMet l E b NY yX10_load cX10_load 4 (some .int) (xR 8) [.ref (b + 0), .int a1, .int a2, .int a3] (cY E b M Lm) (some (.int r)) True (cY E b M' Lm) := by
  refine xMet.ofW (own := RX10) (by decide) rfl (Nat.le_of_ble_eq_true rfl) ?_
  intro p e s m below meth c H locs ls C hm hl
  have hx := C.1.1
  have hb := C.1.2.1
  have hl : lv_has ls 4 [(0, .ref (b + 0)), (1, .int a1), (2, .int a2), (3, .int a3)] := hl
  unfold f_X10_load at hf
  refine lv_aload_n hx hb dX10_load_0 rfl (lv_at hl 0 rfl) ?_
  refine lv_iload_n hx hb dX10_load_1 rfl (lv_at hl 1 rfl) ?_
  refine lv_iload_n hx hb dX10_load_2 rfl (lv_at hl 2 rfl) ?_
  refine lv_iload_n hx hb dX10_load_3 rfl (lv_at hl 3 rfl) ?_
  obtain ⟨v2, hq1, hf⟩ := xb1_e hf
  refine x_callVi (As := [.int a1, .int a2, .int a3]) (rest := []) C hm (c_X10_canLoad l E b M Lm a1 a2 a3 hq1) rfl cy_0 tc_X10_canLoad tm_RX10_406 ti_X10_canLoad ts_X10_canLoad tn_RX10 td_X10_canLoad rfl rfl ⟨Nat.le_of_ble_eq_true rfl, Nat.le_of_ble_eq_true rfl⟩ rfl hl.1 rfl (Nat.le_of_ble_eq_true rfl) ⟨Nat.zero_le _, Nat.zero_le _⟩ dX10_load_4 (fun H locs hP3 hm => ?_)
  refine lv_if_ne (tgt := 13) hx hb dX10_load_7 (by decide) (fun hc4 => ?_) (fun hc4 => ?_)
  rotate_left
  · have hf := xif_t hc4 hf
    refine lv_bipush (v := (-2 : Int32)) hx hb dX10_load_10 (by decide) ?_
    cases hf
    exact x_iret C hm trivial dX10_load_12
  have hf := xif_f hc4 hf
  refine lv_aload_n hx hb dX10_load_13 rfl (lv_at hl 0 rfl) ?_
  obtain ⟨M6, hq5, hf⟩ := xb1_e hf
  refine x_callVv (As := []) (rest := []) C hm (c_X10_keep l E b M Lm hq5) rfl cy_0 tc_X10_keep tm_RX10_397 ti_X10_keep ts_X10_keep tn_RX10 td_X10_keep rfl rfl ⟨Nat.le_of_ble_eq_true rfl, Nat.le_of_ble_eq_true rfl⟩ rfl hl.1 rfl (Nat.le_of_ble_eq_true rfl) ⟨Nat.zero_le _, Nat.zero_le _⟩ dX10_load_14 (fun H locs hP7 hm => ?_)
  refine lv_aload_n hx hb dX10_load_17 rfl (lv_at hl 0 rfl) ?_
  refine lv_iload_n hx hb dX10_load_18 rfl (lv_at hl 1 rfl) ?_
  refine lv_iload_n hx hb dX10_load_19 rfl (lv_at hl 2 rfl) ?_
  refine lv_iload_n hx hb dX10_load_20 rfl (lv_at hl 3 rfl) ?_
  obtain ⟨v9, M10, hq8, hf⟩ := xb2_e hf
  refine x_callVi (As := [.int a1, .int a2, .int a3]) (rest := []) C hm (c_X10_loadNow l E b M6 Lm a1 a2 a3 hq8) rfl cy_0 tc_X10_loadNow tm_RX10_409 ti_X10_loadNow ts_X10_loadNow tn_RX10 td_X10_loadNow rfl rfl ⟨Nat.le_of_ble_eq_true rfl, Nat.le_of_ble_eq_true rfl⟩ rfl hl.1 rfl (Nat.le_of_ble_eq_true rfl) ⟨Nat.zero_le _, Nat.zero_le _⟩ dX10_load_21 (fun H locs hP11 hm => ?_)
  cases hf
  exact x_iret C hm trivial dX10_load_24
/-! ColouredHeapModel.pacesOf(I)I -/
theorem dX10_pacesOf_0 : decode cX10_pacesOf 0 = .ok (.aload_n 0, 1) := by decide +kernel
theorem dX10_pacesOf_1 : decode cX10_pacesOf 1 = .ok (.aload_n 0, 1) := by decide +kernel
theorem dX10_pacesOf_2 : decode cX10_pacesOf 2 = .ok (.getfield 7, 3) := by decide +kernel
theorem dX10_pacesOf_5 : decode cX10_pacesOf 5 = .ok (.iconst 1, 1) := by decide +kernel
theorem dX10_pacesOf_6 : decode cX10_pacesOf 6 = .ok (.iaload, 1) := by decide +kernel
theorem dX10_pacesOf_7 : decode cX10_pacesOf 7 = .ok (.iconst 1, 1) := by decide +kernel
theorem dX10_pacesOf_8 : decode cX10_pacesOf 8 = .ok (.invokevirtual 291, 3) := by decide +kernel
theorem dX10_pacesOf_11 : decode cX10_pacesOf 11 = .ok (.istore_n 2, 1) := by decide +kernel
theorem dX10_pacesOf_12 : decode cX10_pacesOf 12 = .ok (.iload_n 2, 1) := by decide +kernel
theorem dX10_pacesOf_13 : decode cX10_pacesOf 13 = .ok (.iconst (-1), 1) := by decide +kernel
theorem dX10_pacesOf_14 : decode cX10_pacesOf 14 = .ok (.if_icmp .ne 5, 3) := by decide +kernel
theorem dX10_pacesOf_17 : decode cX10_pacesOf 17 = .ok (.iconst 0, 1) := by decide +kernel
theorem dX10_pacesOf_18 : decode cX10_pacesOf 18 = .ok (.ireturn, 1) := by decide +kernel
theorem dX10_pacesOf_19 : decode cX10_pacesOf 19 = .ok (.aload_n 0, 1) := by decide +kernel
theorem dX10_pacesOf_20 : decode cX10_pacesOf 20 = .ok (.invokevirtual 294, 3) := by decide +kernel
theorem dX10_pacesOf_23 : decode cX10_pacesOf 23 = .ok (.aload_n 0, 1) := by decide +kernel
theorem dX10_pacesOf_24 : decode cX10_pacesOf 24 = .ok (.getfield 32, 3) := by decide +kernel
theorem dX10_pacesOf_27 : decode cX10_pacesOf 27 = .ok (.bipush 7, 2) := by decide +kernel
theorem dX10_pacesOf_29 : decode cX10_pacesOf 29 = .ok (.iload_n 1, 1) := by decide +kernel
theorem dX10_pacesOf_30 : decode cX10_pacesOf 30 = .ok (.iastore, 1) := by decide +kernel
theorem dX10_pacesOf_31 : decode cX10_pacesOf 31 = .ok (.aload_n 0, 1) := by decide +kernel
theorem dX10_pacesOf_32 : decode cX10_pacesOf 32 = .ok (.aload_n 0, 1) := by decide +kernel
theorem dX10_pacesOf_33 : decode cX10_pacesOf 33 = .ok (.getfield 7, 3) := by decide +kernel
theorem dX10_pacesOf_36 : decode cX10_pacesOf 36 = .ok (.iconst 1, 1) := by decide +kernel
theorem dX10_pacesOf_37 : decode cX10_pacesOf 37 = .ok (.iaload, 1) := by decide +kernel
theorem dX10_pacesOf_38 : decode cX10_pacesOf 38 = .ok (.iload_n 2, 1) := by decide +kernel
theorem dX10_pacesOf_39 : decode cX10_pacesOf 39 = .ok (.invokevirtual 297, 3) := by decide +kernel
theorem dX10_pacesOf_42 : decode cX10_pacesOf 42 = .ok (.iconst 0, 1) := by decide +kernel
theorem dX10_pacesOf_43 : decode cX10_pacesOf 43 = .ok (.bipush 9, 2) := by decide +kernel
theorem dX10_pacesOf_45 : decode cX10_pacesOf 45 = .ok (.invokestatic 300, 3) := by decide +kernel
theorem dX10_pacesOf_48 : decode cX10_pacesOf 48 = .ok (.ireturn, 1) := by decide +kernel
def f_X10_pacesOf (M : xm) (Lm : xn) (a1 : Int32) : Option (Int32 × xm × xn) := xb1 (f_X10_clauseOf M (M 1 1) (1 : Int32)) (fun v2 => (if v2 = (-1 : Int32) then some ((0 : Int32), M, Lm) else xb1 (f_X10_name M) (fun M6 => xlet (up2 M6 6 7 a1) (fun M8 => xb3 (f_X10_summedUp M8 Lm (M8 1 1) v2) (fun v10 M11 L12 => some ((f_X10_held v10 (0 : Int32) (9 : Int32)), M11, L12))))))
set_option maxHeartbeats 4000000 in
set_option maxRecDepth 20000 in
theorem c_X10_pacesOf (l : Launch) (E : xE) (b : Nat) (M : xm) (Lm : xn) (a1 : Int32) {r : Int32} {M' : xm} {L' : xn} (hf : f_X10_pacesOf M Lm a1 = some (r, M', L')) :
    xMet l E b NY yX10_pacesOf cX10_pacesOf 3 (some .int) (xR 7) [.ref (b + 0), .int a1] (cY E b M Lm) (some (.int r)) True (cY E b M' L') := by
  refine xMet.ofW (own := RX10) (by decide) rfl (Nat.le_of_ble_eq_true rfl) ?_
  intro p e s m below meth c H locs ls C hm hl
  have hx := C.1.1
  have hb := C.1.2.1
  have hl : lv_has ls 3 [(0, .ref (b + 0)), (1, .int a1)] := hl
  unfold f_X10_pacesOf at hf
  refine lv_aload_n hx hb dX10_pacesOf_0 rfl (lv_at hl 0 rfl) ?_
  refine lv_aload_n hx hb dX10_pacesOf_1 rfl (lv_at hl 0 rfl) ?_
  refine x_get C hm inX10 rfl 0 (by decide) tf_RX10_7 cy_0 rfl dX10_pacesOf_2 ?_
  refine lv_iconst (v := (1 : Int32)) hx hb dX10_pacesOf_5 (by decide) ?_
  refine x_iald (j := 1) C hm cy_1 (by decide) dX10_pacesOf_6 (by decide) ?_
  refine lv_iconst (v := (1 : Int32)) hx hb dX10_pacesOf_7 (by decide) ?_
  obtain ⟨v2, hq1, hf⟩ := xb1_e hf
  refine x_callVi (As := [.int (M 1 1), .int (1 : Int32)]) (rest := []) C hm (c_X10_clauseOf l E b M Lm (M 1 1) (1 : Int32) hq1) rfl cy_0 tc_X10_clauseOf tm_RX10_291 ti_X10_clauseOf ts_X10_clauseOf tn_RX10 td_X10_clauseOf rfl rfl ⟨Nat.le_of_ble_eq_true rfl, Nat.le_of_ble_eq_true rfl⟩ rfl hl.1 rfl (Nat.le_of_ble_eq_true rfl) ⟨Nat.zero_le _, Nat.zero_le _⟩ dX10_pacesOf_8 (fun H locs hP3 hm => ?_)
  refine lv_istore_n (lv' := [(2, .int v2), (0, .ref (b + 0)), (1, .int a1)]) hx hb dX10_pacesOf_11 rfl hl (by decide) rfl (fun ls hl => ?_)
  refine lv_iload_n hx hb dX10_pacesOf_12 rfl (lv_at hl 0 rfl) ?_
  refine lv_iconst (v := (-1 : Int32)) hx hb dX10_pacesOf_13 (by decide) ?_
  refine lv_icmp_ne (tgt := 19) hx hb dX10_pacesOf_14 (by decide) (fun hc4 => ?_) (fun hc4 => ?_)
  rotate_left
  · have hf := xif_t hc4 hf
    refine lv_iconst (v := (0 : Int32)) hx hb dX10_pacesOf_17 (by decide) ?_
    cases hf
    exact x_iret C hm trivial dX10_pacesOf_18
  have hf := xif_f hc4 hf
  refine lv_aload_n hx hb dX10_pacesOf_19 rfl (lv_at hl 1 rfl) ?_
  obtain ⟨M6, hq5, hf⟩ := xb1_e hf
  refine x_callVv (As := []) (rest := []) C hm (c_X10_name l E b M Lm hq5) rfl cy_0 tc_X10_name tm_RX10_294 ti_X10_name ts_X10_name tn_RX10 td_X10_name rfl rfl ⟨Nat.le_of_ble_eq_true rfl, Nat.le_of_ble_eq_true rfl⟩ rfl hl.1 rfl (Nat.le_of_ble_eq_true rfl) ⟨Nat.zero_le _, Nat.zero_le _⟩ dX10_pacesOf_20 (fun H locs hP7 hm => ?_)
  refine lv_aload_n hx hb dX10_pacesOf_23 rfl (lv_at hl 1 rfl) ?_
  refine x_get C hm inX10 rfl 20 (by decide) tf_RX10_32 cy_0 rfl dX10_pacesOf_24 ?_
  refine lv_bipush (v := (7 : Int32)) hx hb dX10_pacesOf_27 (by decide) ?_
  refine lv_iload_n hx hb dX10_pacesOf_29 rfl (lv_at hl 2 rfl) ?_
  obtain ⟨M8, eM8, hf⟩ := xlet_x hf
  refine x_iast (j := 7) (cf' := cY E b M8 Lm) C hm cy_6 (by decide) dX10_pacesOf_30 (by decide) (by rw [eM8]; exact cyu_6) (by rw [eM8]; exact cY_o) (fun H locs hm => ?_)
  refine lv_aload_n hx hb dX10_pacesOf_31 rfl (lv_at hl 1 rfl) ?_
  refine lv_aload_n hx hb dX10_pacesOf_32 rfl (lv_at hl 1 rfl) ?_
  refine x_get C hm inX10 rfl 0 (by decide) tf_RX10_7 cy_0 rfl dX10_pacesOf_33 ?_
  refine lv_iconst (v := (1 : Int32)) hx hb dX10_pacesOf_36 (by decide) ?_
  refine x_iald (j := 1) C hm cy_1 (by decide) dX10_pacesOf_37 (by decide) ?_
  refine lv_iload_n hx hb dX10_pacesOf_38 rfl (lv_at hl 0 rfl) ?_
  obtain ⟨v10, M11, L12, hq9, hf⟩ := xb3_e hf
  refine x_callVl (As := [.int (M8 1 1), .int v2]) (rest := []) C hm (c_X10_summedUp l E b M8 Lm (M8 1 1) v2 hq9) rfl cy_0 tc_X10_summedUp tm_RX10_297 ti_X10_summedUp ts_X10_summedUp tn_RX10 td_X10_summedUp rfl rfl ⟨Nat.le_of_ble_eq_true rfl, Nat.le_of_ble_eq_true rfl⟩ rfl hl.1 rfl (Nat.le_of_ble_eq_true rfl) ⟨Nat.zero_le _, Nat.zero_le _⟩ dX10_pacesOf_39 (fun H locs hP13 hm => ?_)
  refine lv_iconst (v := (0 : Int32)) hx hb dX10_pacesOf_42 (by decide) ?_
  refine lv_bipush (v := (9 : Int32)) hx hb dX10_pacesOf_43 (by decide) ?_
  refine x_callSi (As := [.long v10, .int (0 : Int32), .int (9 : Int32)]) (rest := []) C hm (c_X10_held l E b M11 L12 v10 (0 : Int32) (9 : Int32) rfl) tc_X10_held tm_RX10_300 tz_X10_held tn_RX10 td_X10_held rfl rfl ⟨Nat.le_of_ble_eq_true rfl, Nat.le_of_ble_eq_true rfl⟩ rfl hl.1 rfl (Nat.le_of_ble_eq_true rfl) ⟨Nat.zero_le _, Nat.zero_le _⟩ dX10_pacesOf_45 (fun H locs hP14 hm => ?_)
  cases hf
  exact x_iret C hm trivial dX10_pacesOf_48
/-! ColouredHeapModel.make(II)I -/
theorem dX10_make_0 : decode cX10_make 0 = .ok (.iload_n 1, 1) := by decide +kernel
theorem dX10_make_1 : decode cX10_make 1 = .ok (.invokestatic 349, 3) := by decide +kernel
theorem dX10_make_4 : decode cX10_make 4 = .ok (.ifCond .eq 24, 3) := by decide +kernel
theorem dX10_make_7 : decode cX10_make 7 = .ok (.iload_n 2, 1) := by decide +kernel
theorem dX10_make_8 : decode cX10_make 8 = .ok (.iconst 0, 1) := by decide +kernel
theorem dX10_make_9 : decode cX10_make 9 = .ok (.iconst 3, 1) := by decide +kernel
theorem dX10_make_10 : decode cX10_make 10 = .ok (.invokestatic 59, 3) := by decide +kernel
theorem dX10_make_13 : decode cX10_make 13 = .ok (.ifCond .eq 15, 3) := by decide +kernel
theorem dX10_make_16 : decode cX10_make 16 = .ok (.aload_n 0, 1) := by decide +kernel
theorem dX10_make_17 : decode cX10_make 17 = .ok (.iload_n 2, 1) := by decide +kernel
theorem dX10_make_18 : decode cX10_make 18 = .ok (.iconst 1, 1) := by decide +kernel
theorem dX10_make_19 : decode cX10_make 19 = .ok (.iadd, 1) := by decide +kernel
theorem dX10_make_20 : decode cX10_make 20 = .ok (.bipush 9, 2) := by decide +kernel
theorem dX10_make_22 : decode cX10_make 22 = .ok (.invokevirtual 337, 3) := by decide +kernel
theorem dX10_make_25 : decode cX10_make 25 = .ok (.ifCond .ne 5, 3) := by decide +kernel
theorem dX10_make_28 : decode cX10_make 28 = .ok (.iconst (-1), 1) := by decide +kernel
theorem dX10_make_29 : decode cX10_make 29 = .ok (.ireturn, 1) := by decide +kernel
theorem dX10_make_30 : decode cX10_make 30 = .ok (.aload_n 0, 1) := by decide +kernel
theorem dX10_make_31 : decode cX10_make 31 = .ok (.iload_n 2, 1) := by decide +kernel
theorem dX10_make_32 : decode cX10_make 32 = .ok (.invokevirtual 394, 3) := by decide +kernel
theorem dX10_make_35 : decode cX10_make 35 = .ok (.istore_n 3, 1) := by decide +kernel
theorem dX10_make_36 : decode cX10_make 36 = .ok (.aload_n 0, 1) := by decide +kernel
theorem dX10_make_37 : decode cX10_make 37 = .ok (.invokevirtual 397, 3) := by decide +kernel
theorem dX10_make_40 : decode cX10_make 40 = .ok (.aload_n 0, 1) := by decide +kernel
theorem dX10_make_41 : decode cX10_make 41 = .ok (.iload_n 1, 1) := by decide +kernel
theorem dX10_make_42 : decode cX10_make 42 = .ok (.iload_n 2, 1) := by decide +kernel
theorem dX10_make_43 : decode cX10_make 43 = .ok (.invokevirtual 400, 3) := by decide +kernel
theorem dX10_make_46 : decode cX10_make 46 = .ok (.istore 4, 2) := by decide +kernel
theorem dX10_make_48 : decode cX10_make 48 = .ok (.iconst 0, 1) := by decide +kernel
theorem dX10_make_49 : decode cX10_make 49 = .ok (.istore 5, 2) := by decide +kernel
theorem dX10_make_51 : decode cX10_make 51 = .ok (.iload 5, 2) := by decide +kernel
theorem dX10_make_53 : decode cX10_make 53 = .ok (.iload_n 3, 1) := by decide +kernel
theorem dX10_make_54 : decode cX10_make 54 = .ok (.if_icmp .ge 25, 3) := by decide +kernel
theorem dX10_make_57 : decode cX10_make 57 = .ok (.aload_n 0, 1) := by decide +kernel
theorem dX10_make_58 : decode cX10_make 58 = .ok (.getfield 7, 3) := by decide +kernel
theorem dX10_make_61 : decode cX10_make 61 = .ok (.iconst 4, 1) := by decide +kernel
theorem dX10_make_62 : decode cX10_make 62 = .ok (.iaload, 1) := by decide +kernel
theorem dX10_make_63 : decode cX10_make 63 = .ok (.sipush 9999, 3) := by decide +kernel
theorem dX10_make_66 : decode cX10_make 66 = .ok (.if_icmp .ge 13, 3) := by decide +kernel
theorem dX10_make_69 : decode cX10_make 69 = .ok (.aload_n 0, 1) := by decide +kernel
theorem dX10_make_70 : decode cX10_make 70 = .ok (.invokevirtual 403, 3) := by decide +kernel
theorem dX10_make_73 : decode cX10_make 73 = .ok (.iinc 5 1, 3) := by decide +kernel
theorem dX10_make_76 : decode cX10_make 76 = .ok (.goto (-25), 3) := by decide +kernel
theorem dX10_make_79 : decode cX10_make 79 = .ok (.iload 4, 2) := by decide +kernel
theorem dX10_make_81 : decode cX10_make 81 = .ok (.ireturn, 1) := by decide +kernel
def g_X10_make_51 (x21 : Int32) (x22 : Int32) : Nat → xm → xn → Int32 → Option ((xm × xn))
  | 0, _, _, _ => none
  | n + 1, M24, L25, x23 => (if x21 ≤ x23 then some ((M24, L25)) else (if (9999 : Int32) ≤ (M24 1 4) then some ((M24, L25)) else xb2 (f_X10_tick M24 L25) (fun M31 L32 => xlet (x23 + (1 : Int32)) (fun v34 => g_X10_make_51 x21 x22 n M31 L32 v34))))
def f_X10_make (M : xm) (Lm : xn) (a1 : Int32) (a2 : Int32) : Option (Int32 × xm × xn) := (if (f_X10_isRoot a1) = 0 then some ((-1 : Int32), M, Lm) else (if (f_X10_isIn a2 (0 : Int32) (3 : Int32)) = 0 then some ((-1 : Int32), M, Lm) else xb1 (f_X10_hasRoom M (a2 + (1 : Int32)) (9 : Int32)) (fun v6 => (if v6 = 0 then some ((-1 : Int32), M, Lm) else xb3 (f_X10_pacesOf M Lm a2) (fun v10 M11 L12 => xb1 (f_X10_keep M11) (fun M15 => xb2 (f_X10_makeNow M15 a1 a2) (fun v18 M19 => xb2 (g_X10_make_51 v10 v18 xfuel M19 L12 (0 : Int32)) (fun M35 L36 => some (v18, M35, L36)))))))))
set_option maxHeartbeats 4000000 in
set_option maxRecDepth 20000 in
theorem j_X10_make_51 {p : Program} {l : Launch} {e : Env} {s : State} {m : MethodId} {args : Array Value} {below : List Frame} {meth : Method} {c : Code} {Q : State → Prop} {E : xE} {b : Nat} (C : xC p s m args meth c cX10_make 6 RX10 (some .int) E b) (x21 : Int32) (x22 : Int32) {y26 : xm} {y27 : xn}
    (kx0 : ∀ (H : Heap) (locs : List Loc) (ls : Array Slot), xM E b NY (cY E b y26 y27) s.heap H locs → lv_has ls 6 [(4, .int x22)] → W p l e (xR 10) s m args below meth c H locs 0 0 Q (F0 m 79 ls [])) :
    ∀ (n : Nat) (M24 : xm) (L25 : xn) (x23 : Int32) (H : Heap) (locs : List Loc) (ls : Array Slot), g_X10_make_51 x21 x22 n M24 L25 x23 = some (y26, y27) → xM E b NY (cY E b M24 L25) s.heap H locs → lv_has ls 6 [(0, .ref (b + 0)), (3, .int x21), (4, .int x22), (5, .int x23)] → W p l e (xR 10) s m args below meth c H locs 0 0 Q (F0 m 51 ls []) := by
  have hx := C.1.1
  have hb := C.1.2.1
  intro n
  induction n with
  | zero =>
    intro M24 L25 x23 H locs ls hf hm hl
    rw [g_X10_make_51] at hf
    cases hf
  | succ n ih =>
    intro M24 L25 x23 H locs ls hf hm hl
    rw [g_X10_make_51] at hf
    refine lv_iload hx hb dX10_make_51 (lv_at hl 3 rfl) ?_
    refine lv_iload_n hx hb dX10_make_53 rfl (lv_at hl 1 rfl) ?_
    refine lv_icmp_ge (tgt := 79) hx hb dX10_make_54 (by decide) (fun hc28 => ?_) (fun hc28 => ?_)
    · have hf := xif_t hc28 hf
      cases hf
      exact kx0 H locs ls hm (lv_sub hl [2] rfl)
    have hf := xif_f hc28 hf
    refine lv_aload_n hx hb dX10_make_57 rfl (lv_at hl 0 rfl) ?_
    refine x_get C hm inX10 rfl 0 (by decide) tf_RX10_7 cy_0 rfl dX10_make_58 ?_
    refine lv_iconst (v := (4 : Int32)) hx hb dX10_make_61 (by decide) ?_
    refine x_iald (j := 4) C hm cy_1 (by decide) dX10_make_62 (by decide) ?_
    refine lv_sipush (v := (9999 : Int32)) hx hb dX10_make_63 (by decide) ?_
    refine lv_icmp_ge (tgt := 79) hx hb dX10_make_66 (by decide) (fun hc29 => ?_) (fun hc29 => ?_)
    · have hf := xif_t hc29 hf
      cases hf
      exact kx0 H locs ls hm (lv_sub hl [2] rfl)
    have hf := xif_f hc29 hf
    refine lv_aload_n hx hb dX10_make_69 rfl (lv_at hl 0 rfl) ?_
    obtain ⟨M31, L32, hq30, hf⟩ := xb2_e hf
    refine x_callVv (As := []) (rest := []) C hm (c_X10_tick l E b M24 L25 hq30) rfl cy_0 tc_X10_tick tm_RX10_403 ti_X10_tick ts_X10_tick tn_RX10 td_X10_tick rfl rfl ⟨Nat.le_of_ble_eq_true rfl, Nat.le_of_ble_eq_true rfl⟩ rfl hl.1 rfl (Nat.le_of_ble_eq_true rfl) ⟨Nat.zero_le _, Nat.zero_le _⟩ dX10_make_70 (fun H locs hP33 hm => ?_)
    obtain ⟨v34, ev34, hf⟩ := xlet_x hf
    refine lv_iinc (v := v34) (lv' := [(5, .int v34), (0, .ref (b + 0)), (3, .int x21), (4, .int x22)]) hx hb dX10_make_73 hl (k := 3) rfl (by rw [ev34]; rfl) (by decide) rfl (fun ls hl => ?_)
    refine lv_goto (tgt := 51) hx hb dX10_make_76 (by decide) ?_
    exact ih M31 L32 v34 H locs ls hf hm (lv_sub hl [1, 2, 3, 0] rfl)
set_option maxHeartbeats 4000000 in
set_option maxRecDepth 20000 in
theorem c_X10_make (l : Launch) (E : xE) (b : Nat) (M : xm) (Lm : xn) (a1 : Int32) (a2 : Int32) {r : Int32} {M' : xm} {L' : xn} (hf : f_X10_make M Lm a1 a2 = some (r, M', L')) :
    xMet l E b NY yX10_make cX10_make 6 (some .int) (xR 10) [.ref (b + 0), .int a1, .int a2] (cY E b M Lm) (some (.int r)) True (cY E b M' L') := by
  refine xMet.ofW (own := RX10) (by decide) rfl (Nat.le_of_ble_eq_true rfl) ?_
  intro p e s m below meth c H locs ls C hm hl
  have hx := C.1.1
  have hb := C.1.2.1
  have hl : lv_has ls 6 [(0, .ref (b + 0)), (1, .int a1), (2, .int a2)] := hl
  unfold f_X10_make at hf
  refine lv_iload_n hx hb dX10_make_0 rfl (lv_at hl 1 rfl) ?_
  refine x_callSi (As := [.int a1]) (rest := []) C hm (c_X10_isRoot l E b M Lm a1 rfl) tc_X10_isRoot tm_RX10_349 tz_X10_isRoot tn_RX10 td_X10_isRoot rfl rfl ⟨Nat.le_of_ble_eq_true rfl, Nat.le_of_ble_eq_true rfl⟩ rfl hl.1 rfl (Nat.le_of_ble_eq_true rfl) ⟨Nat.zero_le _, Nat.zero_le _⟩ dX10_make_1 (fun H locs hP1 hm => ?_)
  refine lv_if_eq (tgt := 28) hx hb dX10_make_4 (by decide) (fun hc2 => ?_) (fun hc2 => ?_)
  · have hf := xif_t hc2 hf
    refine lv_iconst (v := (-1 : Int32)) hx hb dX10_make_28 (by decide) ?_
    cases hf
    exact x_iret C hm trivial dX10_make_29
  have hf := xif_f hc2 hf
  refine lv_iload_n hx hb dX10_make_7 rfl (lv_at hl 2 rfl) ?_
  refine lv_iconst (v := (0 : Int32)) hx hb dX10_make_8 (by decide) ?_
  refine lv_iconst (v := (3 : Int32)) hx hb dX10_make_9 (by decide) ?_
  refine x_callSi (As := [.int a2, .int (0 : Int32), .int (3 : Int32)]) (rest := []) C hm (c_X10_isIn l E b M Lm a2 (0 : Int32) (3 : Int32) rfl) tc_X10_isIn tm_RX10_59 tz_X10_isIn tn_RX10 td_X10_isIn rfl rfl ⟨Nat.le_of_ble_eq_true rfl, Nat.le_of_ble_eq_true rfl⟩ rfl hl.1 rfl (Nat.le_of_ble_eq_true rfl) ⟨Nat.zero_le _, Nat.zero_le _⟩ dX10_make_10 (fun H locs hP3 hm => ?_)
  refine lv_if_eq (tgt := 28) hx hb dX10_make_13 (by decide) (fun hc4 => ?_) (fun hc4 => ?_)
  · have hf := xif_t hc4 hf
    refine lv_iconst (v := (-1 : Int32)) hx hb dX10_make_28 (by decide) ?_
    cases hf
    exact x_iret C hm trivial dX10_make_29
  have hf := xif_f hc4 hf
  refine lv_aload_n hx hb dX10_make_16 rfl (lv_at hl 0 rfl) ?_
  refine lv_iload_n hx hb dX10_make_17 rfl (lv_at hl 2 rfl) ?_
  refine lv_iconst (v := (1 : Int32)) hx hb dX10_make_18 (by decide) ?_
  refine lv_iadd hx hb dX10_make_19 ?_
  refine lv_bipush (v := (9 : Int32)) hx hb dX10_make_20 (by decide) ?_
  obtain ⟨v6, hq5, hf⟩ := xb1_e hf
  refine x_callVi (As := [.int (a2 + (1 : Int32)), .int (9 : Int32)]) (rest := []) C hm (c_X10_hasRoom l E b M Lm (a2 + (1 : Int32)) (9 : Int32) hq5) rfl cy_0 tc_X10_hasRoom tm_RX10_337 ti_X10_hasRoom ts_X10_hasRoom tn_RX10 td_X10_hasRoom rfl rfl ⟨Nat.le_of_ble_eq_true rfl, Nat.le_of_ble_eq_true rfl⟩ rfl hl.1 rfl (Nat.le_of_ble_eq_true rfl) ⟨Nat.zero_le _, Nat.zero_le _⟩ dX10_make_22 (fun H locs hP7 hm => ?_)
  refine lv_if_ne (tgt := 30) hx hb dX10_make_25 (by decide) (fun hc8 => ?_) (fun hc8 => ?_)
  rotate_left
  · have hf := xif_t hc8 hf
    refine lv_iconst (v := (-1 : Int32)) hx hb dX10_make_28 (by decide) ?_
    cases hf
    exact x_iret C hm trivial dX10_make_29
  have hf := xif_f hc8 hf
  refine lv_aload_n hx hb dX10_make_30 rfl (lv_at hl 0 rfl) ?_
  refine lv_iload_n hx hb dX10_make_31 rfl (lv_at hl 2 rfl) ?_
  obtain ⟨v10, M11, L12, hq9, hf⟩ := xb3_e hf
  refine x_callVi (As := [.int a2]) (rest := []) C hm (c_X10_pacesOf l E b M Lm a2 hq9) rfl cy_0 tc_X10_pacesOf tm_RX10_394 ti_X10_pacesOf ts_X10_pacesOf tn_RX10 td_X10_pacesOf rfl rfl ⟨Nat.le_of_ble_eq_true rfl, Nat.le_of_ble_eq_true rfl⟩ rfl hl.1 rfl (Nat.le_of_ble_eq_true rfl) ⟨Nat.zero_le _, Nat.zero_le _⟩ dX10_make_32 (fun H locs hP13 hm => ?_)
  refine lv_istore_n (lv' := [(3, .int v10), (0, .ref (b + 0)), (1, .int a1), (2, .int a2)]) hx hb dX10_make_35 rfl hl (by decide) rfl (fun ls hl => ?_)
  refine lv_aload_n hx hb dX10_make_36 rfl (lv_at hl 1 rfl) ?_
  obtain ⟨M15, hq14, hf⟩ := xb1_e hf
  refine x_callVv (As := []) (rest := []) C hm (c_X10_keep l E b M11 L12 hq14) rfl cy_0 tc_X10_keep tm_RX10_397 ti_X10_keep ts_X10_keep tn_RX10 td_X10_keep rfl rfl ⟨Nat.le_of_ble_eq_true rfl, Nat.le_of_ble_eq_true rfl⟩ rfl hl.1 rfl (Nat.le_of_ble_eq_true rfl) ⟨Nat.zero_le _, Nat.zero_le _⟩ dX10_make_37 (fun H locs hP16 hm => ?_)
  refine lv_aload_n hx hb dX10_make_40 rfl (lv_at hl 1 rfl) ?_
  refine lv_iload_n hx hb dX10_make_41 rfl (lv_at hl 2 rfl) ?_
  refine lv_iload_n hx hb dX10_make_42 rfl (lv_at hl 3 rfl) ?_
  obtain ⟨v18, M19, hq17, hf⟩ := xb2_e hf
  refine x_callVi (As := [.int a1, .int a2]) (rest := []) C hm (c_X10_makeNow l E b M15 L12 a1 a2 hq17) rfl cy_0 tc_X10_makeNow tm_RX10_400 ti_X10_makeNow ts_X10_makeNow tn_RX10 td_X10_makeNow rfl rfl ⟨Nat.le_of_ble_eq_true rfl, Nat.le_of_ble_eq_true rfl⟩ rfl hl.1 rfl (Nat.le_of_ble_eq_true rfl) ⟨Nat.zero_le _, Nat.zero_le _⟩ dX10_make_43 (fun H locs hP20 hm => ?_)
  refine lv_istore (lv' := [(4, .int v18), (3, .int v10), (0, .ref (b + 0)), (1, .int a1), (2, .int a2)]) hx hb dX10_make_46 hl (by decide) rfl (fun ls hl => ?_)
  refine lv_iconst (v := (0 : Int32)) hx hb dX10_make_48 (by decide) ?_
  refine lv_istore (lv' := [(5, .int (0 : Int32)), (4, .int v18), (3, .int v10), (0, .ref (b + 0)), (1, .int a1), (2, .int a2)]) hx hb dX10_make_49 hl (by decide) rfl (fun ls hl => ?_)
  obtain ⟨M35, L36, hq, hf⟩ := xb2_e hf
  refine j_X10_make_51 C v10 v18 (fun H locs ls hm hl => ?_) xfuel M19 L12 (0 : Int32) H locs ls hq hm (lv_sub hl [3, 2, 1, 0] rfl)
  refine lv_iload hx hb dX10_make_79 (lv_at hl 0 rfl) ?_
  cases hf
  exact x_iret C hm trivial dX10_make_81
/-! ColouredHeapModel.store(III)Z -/
theorem dX10_store_0 : decode cX10_store 0 = .ok (.aload_n 0, 1) := by decide +kernel
theorem dX10_store_1 : decode cX10_store 1 = .ok (.iload_n 1, 1) := by decide +kernel
theorem dX10_store_2 : decode cX10_store 2 = .ok (.iload_n 2, 1) := by decide +kernel
theorem dX10_store_3 : decode cX10_store 3 = .ok (.invokevirtual 352, 3) := by decide +kernel
theorem dX10_store_6 : decode cX10_store 6 = .ok (.istore 4, 2) := by decide +kernel
theorem dX10_store_8 : decode cX10_store 8 = .ok (.iload 4, 2) := by decide +kernel
theorem dX10_store_10 : decode cX10_store 10 = .ok (.iconst (-1), 1) := by decide +kernel
theorem dX10_store_11 : decode cX10_store 11 = .ok (.if_icmp .eq 10, 3) := by decide +kernel
theorem dX10_store_14 : decode cX10_store 14 = .ok (.iload_n 3, 1) := by decide +kernel
theorem dX10_store_15 : decode cX10_store 15 = .ok (.invokestatic 349, 3) := by decide +kernel
theorem dX10_store_18 : decode cX10_store 18 = .ok (.ifCond .ne 5, 3) := by decide +kernel
theorem dX10_store_21 : decode cX10_store 21 = .ok (.iconst 0, 1) := by decide +kernel
theorem dX10_store_22 : decode cX10_store 22 = .ok (.ireturn, 1) := by decide +kernel
theorem dX10_store_23 : decode cX10_store 23 = .ok (.aload_n 0, 1) := by decide +kernel
theorem dX10_store_24 : decode cX10_store 24 = .ok (.invokevirtual 397, 3) := by decide +kernel
theorem dX10_store_27 : decode cX10_store 27 = .ok (.aload_n 0, 1) := by decide +kernel
theorem dX10_store_28 : decode cX10_store 28 = .ok (.getfield 7, 3) := by decide +kernel
theorem dX10_store_31 : decode cX10_store 31 = .ok (.bipush 41, 2) := by decide +kernel
theorem dX10_store_33 : decode cX10_store 33 = .ok (.iload 4, 2) := by decide +kernel
theorem dX10_store_35 : decode cX10_store 35 = .ok (.iadd, 1) := by decide +kernel
theorem dX10_store_36 : decode cX10_store 36 = .ok (.aload_n 0, 1) := by decide +kernel
theorem dX10_store_37 : decode cX10_store 37 = .ok (.getfield 7, 3) := by decide +kernel
theorem dX10_store_40 : decode cX10_store 40 = .ok (.bipush 29, 2) := by decide +kernel
theorem dX10_store_42 : decode cX10_store 42 = .ok (.iload_n 3, 1) := by decide +kernel
theorem dX10_store_43 : decode cX10_store 43 = .ok (.iadd, 1) := by decide +kernel
theorem dX10_store_44 : decode cX10_store 44 = .ok (.iaload, 1) := by decide +kernel
theorem dX10_store_45 : decode cX10_store 45 = .ok (.iastore, 1) := by decide +kernel
theorem dX10_store_46 : decode cX10_store 46 = .ok (.iconst 1, 1) := by decide +kernel
theorem dX10_store_47 : decode cX10_store 47 = .ok (.ireturn, 1) := by decide +kernel
def f_X10_store (M : xm) (a1 : Int32) (a2 : Int32) (a3 : Int32) : Option (Int32 × xm) := xb1 (f_X10_fieldAt M a1 a2) (fun v2 => (if v2 = (-1 : Int32) then some ((0 : Int32), M) else (if (f_X10_isRoot a3) = 0 then some ((0 : Int32), M) else xb1 (f_X10_keep M) (fun M8 => if xin ((29 : Int32) + a3) 9878 = true then if xin ((41 : Int32) + v2) 9878 = true then xlet (up2 M8 1 (Int32.toNatClampNeg ((41 : Int32) + v2)) (M8 1 (Int32.toNatClampNeg ((29 : Int32) + a3)))) (fun M12 => some ((1 : Int32), M12)) else none else none))))
set_option maxHeartbeats 4000000 in
set_option maxRecDepth 20000 in
theorem c_X10_store (l : Launch) (E : xE) (b : Nat) (M : xm) (Lm : xn) (a1 : Int32) (a2 : Int32) (a3 : Int32) {r : Int32} {M' : xm} (hf : f_X10_store M a1 a2 a3 = some (r, M')) :
    xMet l E b NY yX10_store cX10_store 5 (some .boolean) (xR 4) [.ref (b + 0), .int a1, .int a2, .int a3] (cY E b M Lm) (some (.int r)) (xbo r = true) (cY E b M' Lm) := by
  refine xMet.ofW (own := RX10) (by decide) rfl (Nat.le_of_ble_eq_true rfl) ?_
  intro p e s m below meth c H locs ls C hm hl
  have hx := C.1.1
  have hb := C.1.2.1
  have hl : lv_has ls 5 [(0, .ref (b + 0)), (1, .int a1), (2, .int a2), (3, .int a3)] := hl
  unfold f_X10_store at hf
  refine lv_aload_n hx hb dX10_store_0 rfl (lv_at hl 0 rfl) ?_
  refine lv_iload_n hx hb dX10_store_1 rfl (lv_at hl 1 rfl) ?_
  refine lv_iload_n hx hb dX10_store_2 rfl (lv_at hl 2 rfl) ?_
  obtain ⟨v2, hq1, hf⟩ := xb1_e hf
  refine x_callVi (As := [.int a1, .int a2]) (rest := []) C hm (c_X10_fieldAt l E b M Lm a1 a2 hq1) rfl cy_0 tc_X10_fieldAt tm_RX10_352 ti_X10_fieldAt ts_X10_fieldAt tn_RX10 td_X10_fieldAt rfl rfl ⟨Nat.le_of_ble_eq_true rfl, Nat.le_of_ble_eq_true rfl⟩ rfl hl.1 rfl (Nat.le_of_ble_eq_true rfl) ⟨Nat.zero_le _, Nat.zero_le _⟩ dX10_store_3 (fun H locs hP3 hm => ?_)
  refine lv_istore (lv' := [(4, .int v2), (0, .ref (b + 0)), (1, .int a1), (2, .int a2), (3, .int a3)]) hx hb dX10_store_6 hl (by decide) rfl (fun ls hl => ?_)
  refine lv_iload hx hb dX10_store_8 (lv_at hl 0 rfl) ?_
  refine lv_iconst (v := (-1 : Int32)) hx hb dX10_store_10 (by decide) ?_
  refine lv_icmp_eq (tgt := 21) hx hb dX10_store_11 (by decide) (fun hc4 => ?_) (fun hc4 => ?_)
  · have hf := xif_t hc4 hf
    refine lv_iconst (v := (0 : Int32)) hx hb dX10_store_21 (by decide) ?_
    cases hf
    exact x_zret C hm (by decide) (by decide) dX10_store_22
  have hf := xif_f hc4 hf
  refine lv_iload_n hx hb dX10_store_14 rfl (lv_at hl 4 rfl) ?_
  refine x_callSi (As := [.int a3]) (rest := []) C hm (c_X10_isRoot l E b M Lm a3 rfl) tc_X10_isRoot tm_RX10_349 tz_X10_isRoot tn_RX10 td_X10_isRoot rfl rfl ⟨Nat.le_of_ble_eq_true rfl, Nat.le_of_ble_eq_true rfl⟩ rfl hl.1 rfl (Nat.le_of_ble_eq_true rfl) ⟨Nat.zero_le _, Nat.zero_le _⟩ dX10_store_15 (fun H locs hP5 hm => ?_)
  refine lv_if_ne (tgt := 23) hx hb dX10_store_18 (by decide) (fun hc6 => ?_) (fun hc6 => ?_)
  rotate_left
  · have hf := xif_t hc6 hf
    refine lv_iconst (v := (0 : Int32)) hx hb dX10_store_21 (by decide) ?_
    cases hf
    exact x_zret C hm (by decide) (by decide) dX10_store_22
  have hf := xif_f hc6 hf
  refine lv_aload_n hx hb dX10_store_23 rfl (lv_at hl 1 rfl) ?_
  obtain ⟨M8, hq7, hf⟩ := xb1_e hf
  refine x_callVv (As := []) (rest := []) C hm (c_X10_keep l E b M Lm hq7) rfl cy_0 tc_X10_keep tm_RX10_397 ti_X10_keep ts_X10_keep tn_RX10 td_X10_keep rfl rfl ⟨Nat.le_of_ble_eq_true rfl, Nat.le_of_ble_eq_true rfl⟩ rfl hl.1 rfl (Nat.le_of_ble_eq_true rfl) ⟨Nat.zero_le _, Nat.zero_le _⟩ dX10_store_24 (fun H locs hP9 hm => ?_)
  refine lv_aload_n hx hb dX10_store_27 rfl (lv_at hl 1 rfl) ?_
  refine x_get C hm inX10 rfl 0 (by decide) tf_RX10_7 cy_0 rfl dX10_store_28 ?_
  refine lv_bipush (v := (41 : Int32)) hx hb dX10_store_31 (by decide) ?_
  refine lv_iload hx hb dX10_store_33 (lv_at hl 0 rfl) ?_
  refine lv_iadd hx hb dX10_store_35 ?_
  refine lv_aload_n hx hb dX10_store_36 rfl (lv_at hl 1 rfl) ?_
  refine x_get C hm inX10 rfl 0 (by decide) tf_RX10_7 cy_0 rfl dX10_store_37 ?_
  refine lv_bipush (v := (29 : Int32)) hx hb dX10_store_40 (by decide) ?_
  refine lv_iload_n hx hb dX10_store_42 rfl (lv_at hl 4 rfl) ?_
  refine lv_iadd hx hb dX10_store_43 ?_
  obtain ⟨hi10, hf⟩ := xif_s hf
  refine x_iald (j := (Int32.toNatClampNeg ((29 : Int32) + a3))) C hm cy_1 hi10 dX10_store_44 rfl ?_
  obtain ⟨hi11, hf⟩ := xif_s hf
  obtain ⟨M12, eM12, hf⟩ := xlet_x hf
  refine x_iast (j := (Int32.toNatClampNeg ((41 : Int32) + v2))) (cf' := cY E b M12 Lm) C hm cy_1 hi11 dX10_store_45 rfl (by rw [eM12]; exact cyu_1) (by rw [eM12]; exact cY_o) (fun H locs hm => ?_)
  refine lv_iconst (v := (1 : Int32)) hx hb dX10_store_46 (by decide) ?_
  cases hf
  exact x_zret C hm (by decide) (by decide) dX10_store_47
/-! ColouredHeapModel.isPlayed(I)Z -/
theorem dX10_isPlayed_0 : decode cX10_isPlayed 0 = .ok (.aload_n 0, 1) := by decide +kernel
theorem dX10_isPlayed_1 : decode cX10_isPlayed 1 = .ok (.getfield 16, 3) := by decide +kernel
theorem dX10_isPlayed_4 : decode cX10_isPlayed 4 = .ok (.iload_n 1, 1) := by decide +kernel
theorem dX10_isPlayed_5 : decode cX10_isPlayed 5 = .ok (.iconst 1, 1) := by decide +kernel
theorem dX10_isPlayed_6 : decode cX10_isPlayed 6 = .ok (.iadd, 1) := by decide +kernel
theorem dX10_isPlayed_7 : decode cX10_isPlayed 7 = .ok (.iaload, 1) := by decide +kernel
theorem dX10_isPlayed_8 : decode cX10_isPlayed 8 = .ok (.istore_n 2, 1) := by decide +kernel
theorem dX10_isPlayed_9 : decode cX10_isPlayed 9 = .ok (.aload_n 0, 1) := by decide +kernel
theorem dX10_isPlayed_10 : decode cX10_isPlayed 10 = .ok (.getfield 16, 3) := by decide +kernel
theorem dX10_isPlayed_13 : decode cX10_isPlayed 13 = .ok (.iload_n 1, 1) := by decide +kernel
theorem dX10_isPlayed_14 : decode cX10_isPlayed 14 = .ok (.iconst 2, 1) := by decide +kernel
theorem dX10_isPlayed_15 : decode cX10_isPlayed 15 = .ok (.iadd, 1) := by decide +kernel
theorem dX10_isPlayed_16 : decode cX10_isPlayed 16 = .ok (.iaload, 1) := by decide +kernel
theorem dX10_isPlayed_17 : decode cX10_isPlayed 17 = .ok (.istore_n 3, 1) := by decide +kernel
theorem dX10_isPlayed_18 : decode cX10_isPlayed 18 = .ok (.aload_n 0, 1) := by decide +kernel
theorem dX10_isPlayed_19 : decode cX10_isPlayed 19 = .ok (.getfield 16, 3) := by decide +kernel
theorem dX10_isPlayed_22 : decode cX10_isPlayed 22 = .ok (.iload_n 1, 1) := by decide +kernel
theorem dX10_isPlayed_23 : decode cX10_isPlayed 23 = .ok (.iconst 3, 1) := by decide +kernel
theorem dX10_isPlayed_24 : decode cX10_isPlayed 24 = .ok (.iadd, 1) := by decide +kernel
theorem dX10_isPlayed_25 : decode cX10_isPlayed 25 = .ok (.iaload, 1) := by decide +kernel
theorem dX10_isPlayed_26 : decode cX10_isPlayed 26 = .ok (.istore 4, 2) := by decide +kernel
theorem dX10_isPlayed_28 : decode cX10_isPlayed 28 = .ok (.aload_n 0, 1) := by decide +kernel
theorem dX10_isPlayed_29 : decode cX10_isPlayed 29 = .ok (.getfield 16, 3) := by decide +kernel
theorem dX10_isPlayed_32 : decode cX10_isPlayed 32 = .ok (.iload_n 1, 1) := by decide +kernel
theorem dX10_isPlayed_33 : decode cX10_isPlayed 33 = .ok (.iaload, 1) := by decide +kernel
theorem dX10_isPlayed_34 : decode cX10_isPlayed 34 = .ok (.tableswitch 89 2 6 #[34, 49, 68, 77, 83], 34) := by decide +kernel
theorem dX10_isPlayed_68 : decode cX10_isPlayed 68 = .ok (.aload_n 0, 1) := by decide +kernel
theorem dX10_isPlayed_69 : decode cX10_isPlayed 69 = .ok (.iload_n 2, 1) := by decide +kernel
theorem dX10_isPlayed_70 : decode cX10_isPlayed 70 = .ok (.iload_n 3, 1) := by decide +kernel
theorem dX10_isPlayed_71 : decode cX10_isPlayed 71 = .ok (.invokevirtual 424, 3) := by decide +kernel
theorem dX10_isPlayed_74 : decode cX10_isPlayed 74 = .ok (.ifCond .lt 7, 3) := by decide +kernel
theorem dX10_isPlayed_77 : decode cX10_isPlayed 77 = .ok (.iconst 1, 1) := by decide +kernel
theorem dX10_isPlayed_78 : decode cX10_isPlayed 78 = .ok (.goto 4, 3) := by decide +kernel
theorem dX10_isPlayed_81 : decode cX10_isPlayed 81 = .ok (.iconst 0, 1) := by decide +kernel
theorem dX10_isPlayed_82 : decode cX10_isPlayed 82 = .ok (.ireturn, 1) := by decide +kernel
theorem dX10_isPlayed_83 : decode cX10_isPlayed 83 = .ok (.aload_n 0, 1) := by decide +kernel
theorem dX10_isPlayed_84 : decode cX10_isPlayed 84 = .ok (.iload_n 2, 1) := by decide +kernel
theorem dX10_isPlayed_85 : decode cX10_isPlayed 85 = .ok (.iload_n 3, 1) := by decide +kernel
theorem dX10_isPlayed_86 : decode cX10_isPlayed 86 = .ok (.iload 4, 2) := by decide +kernel
theorem dX10_isPlayed_88 : decode cX10_isPlayed 88 = .ok (.invokevirtual 427, 3) := by decide +kernel
theorem dX10_isPlayed_91 : decode cX10_isPlayed 91 = .ok (.bipush (-2), 2) := by decide +kernel
theorem dX10_isPlayed_93 : decode cX10_isPlayed 93 = .ok (.if_icmp .eq 7, 3) := by decide +kernel
theorem dX10_isPlayed_96 : decode cX10_isPlayed 96 = .ok (.iconst 1, 1) := by decide +kernel
theorem dX10_isPlayed_97 : decode cX10_isPlayed 97 = .ok (.goto 4, 3) := by decide +kernel
theorem dX10_isPlayed_100 : decode cX10_isPlayed 100 = .ok (.iconst 0, 1) := by decide +kernel
theorem dX10_isPlayed_101 : decode cX10_isPlayed 101 = .ok (.ireturn, 1) := by decide +kernel
theorem dX10_isPlayed_102 : decode cX10_isPlayed 102 = .ok (.aload_n 0, 1) := by decide +kernel
theorem dX10_isPlayed_103 : decode cX10_isPlayed 103 = .ok (.iload_n 3, 1) := by decide +kernel
theorem dX10_isPlayed_104 : decode cX10_isPlayed 104 = .ok (.iload 4, 2) := by decide +kernel
theorem dX10_isPlayed_106 : decode cX10_isPlayed 106 = .ok (.iload_n 2, 1) := by decide +kernel
theorem dX10_isPlayed_107 : decode cX10_isPlayed 107 = .ok (.invokevirtual 430, 3) := by decide +kernel
theorem dX10_isPlayed_110 : decode cX10_isPlayed 110 = .ok (.ireturn, 1) := by decide +kernel
theorem dX10_isPlayed_111 : decode cX10_isPlayed 111 = .ok (.aload_n 0, 1) := by decide +kernel
theorem dX10_isPlayed_112 : decode cX10_isPlayed 112 = .ok (.iload_n 2, 1) := by decide +kernel
theorem dX10_isPlayed_113 : decode cX10_isPlayed 113 = .ok (.invokevirtual 433, 3) := by decide +kernel
theorem dX10_isPlayed_116 : decode cX10_isPlayed 116 = .ok (.ireturn, 1) := by decide +kernel
theorem dX10_isPlayed_117 : decode cX10_isPlayed 117 = .ok (.aload_n 0, 1) := by decide +kernel
theorem dX10_isPlayed_118 : decode cX10_isPlayed 118 = .ok (.iload_n 2, 1) := by decide +kernel
theorem dX10_isPlayed_119 : decode cX10_isPlayed 119 = .ok (.invokevirtual 421, 3) := by decide +kernel
theorem dX10_isPlayed_122 : decode cX10_isPlayed 122 = .ok (.ireturn, 1) := by decide +kernel
theorem dX10_isPlayed_123 : decode cX10_isPlayed 123 = .ok (.iconst 1, 1) := by decide +kernel
theorem dX10_isPlayed_124 : decode cX10_isPlayed 124 = .ok (.ireturn, 1) := by decide +kernel
def f_X10_isPlayed (M : xm) (Lm : xn) (a1 : Int32) : Option (Int32 × xm × xn) := if xin (a1 + (1 : Int32)) 2820 = true then xlet (M 3 (Int32.toNatClampNeg (a1 + (1 : Int32)))) (fun v2 => if xin (a1 + (2 : Int32)) 2820 = true then xlet (M 3 (Int32.toNatClampNeg (a1 + (2 : Int32)))) (fun v4 => if xin (a1 + (3 : Int32)) 2820 = true then xlet (M 3 (Int32.toNatClampNeg (a1 + (3 : Int32)))) (fun v6 => if xin a1 2820 = true then (if (M 3 (Int32.toNatClampNeg a1)) = (2 : Int32) then xb3 (f_X10_make M Lm v2 v4) (fun v10 M11 L12 => (if v10 < 0 then some ((0 : Int32), M11, L12) else some ((1 : Int32), M11, L12))) else (if (M 3 (Int32.toNatClampNeg a1)) = (3 : Int32) then xb2 (f_X10_load M v2 v4 v6) (fun v17 M18 => (if v17 = (-2 : Int32) then some ((0 : Int32), M18, Lm) else some ((1 : Int32), M18, Lm))) else (if (M 3 (Int32.toNatClampNeg a1)) = (4 : Int32) then xb2 (f_X10_store M v4 v6 v2) (fun v23 M24 => some (v23, M24, Lm)) else (if (M 3 (Int32.toNatClampNeg a1)) = (5 : Int32) then xb2 (f_X10_drop M v2) (fun v28 M29 => some (v28, M29, Lm)) else (if (M 3 (Int32.toNatClampNeg a1)) = (6 : Int32) then xb3 (f_X10_arePassed M Lm v2) (fun v33 M34 L35 => some (v33, M34, L35)) else some ((1 : Int32), M, Lm)))))) else none) else none) else none) else none
set_option maxHeartbeats 4000000 in
set_option maxRecDepth 20000 in
theorem c_X10_isPlayed (l : Launch) (E : xE) (b : Nat) (M : xm) (Lm : xn) (a1 : Int32) {r : Int32} {M' : xm} {L' : xn} (hf : f_X10_isPlayed M Lm a1 = some (r, M', L')) :
    xMet l E b NY yX10_isPlayed cX10_isPlayed 5 (some .boolean) (xR 11) [.ref (b + 0), .int a1] (cY E b M Lm) (some (.int r)) (xbo r = true) (cY E b M' L') := by
  refine xMet.ofW (own := RX10) (by decide) rfl (Nat.le_of_ble_eq_true rfl) ?_
  intro p e s m below meth c H locs ls C hm hl
  have hx := C.1.1
  have hb := C.1.2.1
  have hl : lv_has ls 5 [(0, .ref (b + 0)), (1, .int a1)] := hl
  unfold f_X10_isPlayed at hf
  refine lv_aload_n hx hb dX10_isPlayed_0 rfl (lv_at hl 0 rfl) ?_
  refine x_get C hm inX10 rfl 2 (by decide) tf_RX10_16 cy_0 rfl dX10_isPlayed_1 ?_
  refine lv_iload_n hx hb dX10_isPlayed_4 rfl (lv_at hl 1 rfl) ?_
  refine lv_iconst (v := (1 : Int32)) hx hb dX10_isPlayed_5 (by decide) ?_
  refine lv_iadd hx hb dX10_isPlayed_6 ?_
  obtain ⟨hi1, hf⟩ := xif_s hf
  refine x_iald (j := (Int32.toNatClampNeg (a1 + (1 : Int32)))) C hm cy_3 hi1 dX10_isPlayed_7 rfl ?_
  refine lv_topi (fun v2 ev2 => ?_)
  have hf := xlet_e ev2 hf
  refine lv_istore_n (lv' := [(2, .int v2), (0, .ref (b + 0)), (1, .int a1)]) hx hb dX10_isPlayed_8 rfl hl (by decide) rfl (fun ls hl => ?_)
  refine lv_aload_n hx hb dX10_isPlayed_9 rfl (lv_at hl 1 rfl) ?_
  refine x_get C hm inX10 rfl 2 (by decide) tf_RX10_16 cy_0 rfl dX10_isPlayed_10 ?_
  refine lv_iload_n hx hb dX10_isPlayed_13 rfl (lv_at hl 2 rfl) ?_
  refine lv_iconst (v := (2 : Int32)) hx hb dX10_isPlayed_14 (by decide) ?_
  refine lv_iadd hx hb dX10_isPlayed_15 ?_
  obtain ⟨hi3, hf⟩ := xif_s hf
  refine x_iald (j := (Int32.toNatClampNeg (a1 + (2 : Int32)))) C hm cy_3 hi3 dX10_isPlayed_16 rfl ?_
  refine lv_topi (fun v4 ev4 => ?_)
  have hf := xlet_e ev4 hf
  refine lv_istore_n (lv' := [(3, .int v4), (2, .int v2), (0, .ref (b + 0)), (1, .int a1)]) hx hb dX10_isPlayed_17 rfl hl (by decide) rfl (fun ls hl => ?_)
  refine lv_aload_n hx hb dX10_isPlayed_18 rfl (lv_at hl 2 rfl) ?_
  refine x_get C hm inX10 rfl 2 (by decide) tf_RX10_16 cy_0 rfl dX10_isPlayed_19 ?_
  refine lv_iload_n hx hb dX10_isPlayed_22 rfl (lv_at hl 3 rfl) ?_
  refine lv_iconst (v := (3 : Int32)) hx hb dX10_isPlayed_23 (by decide) ?_
  refine lv_iadd hx hb dX10_isPlayed_24 ?_
  obtain ⟨hi5, hf⟩ := xif_s hf
  refine x_iald (j := (Int32.toNatClampNeg (a1 + (3 : Int32)))) C hm cy_3 hi5 dX10_isPlayed_25 rfl ?_
  refine lv_topi (fun v6 ev6 => ?_)
  have hf := xlet_e ev6 hf
  refine lv_istore (lv' := [(4, .int v6), (3, .int v4), (2, .int v2), (0, .ref (b + 0)), (1, .int a1)]) hx hb dX10_isPlayed_26 hl (by decide) rfl (fun ls hl => ?_)
  refine lv_aload_n hx hb dX10_isPlayed_28 rfl (lv_at hl 3 rfl) ?_
  refine x_get C hm inX10 rfl 2 (by decide) tf_RX10_16 cy_0 rfl dX10_isPlayed_29 ?_
  refine lv_iload_n hx hb dX10_isPlayed_32 rfl (lv_at hl 4 rfl) ?_
  obtain ⟨hi7, hf⟩ := xif_s hf
  refine x_iald (j := (Int32.toNatClampNeg a1)) C hm cy_3 hi7 dX10_isPlayed_33 rfl ?_
  by_cases hs8 : (M 3 (Int32.toNatClampNeg a1)) = (2 : Int32)
  · have hf := xif_t hs8 hf
    refine x_tabIn (tgt := 68) hx hb (2 : Int32) hs8 dX10_isPlayed_34 (by decide) (by decide) rfl (by decide) ?_
    refine lv_aload_n hx hb dX10_isPlayed_68 rfl (lv_at hl 3 rfl) ?_
    refine lv_iload_n hx hb dX10_isPlayed_69 rfl (lv_at hl 2 rfl) ?_
    refine lv_iload_n hx hb dX10_isPlayed_70 rfl (lv_at hl 1 rfl) ?_
    obtain ⟨v10, M11, L12, hq9, hf⟩ := xb3_e hf
    refine x_callVi (As := [.int v2, .int v4]) (rest := []) C hm (c_X10_make l E b M Lm v2 v4 hq9) rfl cy_0 tc_X10_make tm_RX10_424 ti_X10_make ts_X10_make tn_RX10 td_X10_make rfl rfl ⟨Nat.le_of_ble_eq_true rfl, Nat.le_of_ble_eq_true rfl⟩ rfl hl.1 rfl (Nat.le_of_ble_eq_true rfl) ⟨Nat.zero_le _, Nat.zero_le _⟩ dX10_isPlayed_71 (fun H locs hP13 hm => ?_)
    refine lv_if_lt (tgt := 81) hx hb dX10_isPlayed_74 (by decide) (fun hc14 => ?_) (fun hc14 => ?_)
    · have hf := xif_t hc14 hf
      refine lv_iconst (v := (0 : Int32)) hx hb dX10_isPlayed_81 (by decide) ?_
      cases hf
      exact x_zret C hm (by decide) (by decide) dX10_isPlayed_82
    have hf := xif_f hc14 hf
    refine lv_iconst (v := (1 : Int32)) hx hb dX10_isPlayed_77 (by decide) ?_
    refine lv_goto (tgt := 82) hx hb dX10_isPlayed_78 (by decide) ?_
    cases hf
    exact x_zret C hm (by decide) (by decide) dX10_isPlayed_82
  have hf := xif_f hs8 hf
  by_cases hs15 : (M 3 (Int32.toNatClampNeg a1)) = (3 : Int32)
  · have hf := xif_t hs15 hf
    refine x_tabIn (tgt := 83) hx hb (3 : Int32) hs15 dX10_isPlayed_34 (by decide) (by decide) rfl (by decide) ?_
    refine lv_aload_n hx hb dX10_isPlayed_83 rfl (lv_at hl 3 rfl) ?_
    refine lv_iload_n hx hb dX10_isPlayed_84 rfl (lv_at hl 2 rfl) ?_
    refine lv_iload_n hx hb dX10_isPlayed_85 rfl (lv_at hl 1 rfl) ?_
    refine lv_iload hx hb dX10_isPlayed_86 (lv_at hl 0 rfl) ?_
    obtain ⟨v17, M18, hq16, hf⟩ := xb2_e hf
    refine x_callVi (As := [.int v2, .int v4, .int v6]) (rest := []) C hm (c_X10_load l E b M Lm v2 v4 v6 hq16) rfl cy_0 tc_X10_load tm_RX10_427 ti_X10_load ts_X10_load tn_RX10 td_X10_load rfl rfl ⟨Nat.le_of_ble_eq_true rfl, Nat.le_of_ble_eq_true rfl⟩ rfl hl.1 rfl (Nat.le_of_ble_eq_true rfl) ⟨Nat.zero_le _, Nat.zero_le _⟩ dX10_isPlayed_88 (fun H locs hP19 hm => ?_)
    refine lv_bipush (v := (-2 : Int32)) hx hb dX10_isPlayed_91 (by decide) ?_
    refine lv_icmp_eq (tgt := 100) hx hb dX10_isPlayed_93 (by decide) (fun hc20 => ?_) (fun hc20 => ?_)
    · have hf := xif_t hc20 hf
      refine lv_iconst (v := (0 : Int32)) hx hb dX10_isPlayed_100 (by decide) ?_
      cases hf
      exact x_zret C hm (by decide) (by decide) dX10_isPlayed_101
    have hf := xif_f hc20 hf
    refine lv_iconst (v := (1 : Int32)) hx hb dX10_isPlayed_96 (by decide) ?_
    refine lv_goto (tgt := 101) hx hb dX10_isPlayed_97 (by decide) ?_
    cases hf
    exact x_zret C hm (by decide) (by decide) dX10_isPlayed_101
  have hf := xif_f hs15 hf
  by_cases hs21 : (M 3 (Int32.toNatClampNeg a1)) = (4 : Int32)
  · have hf := xif_t hs21 hf
    refine x_tabIn (tgt := 102) hx hb (4 : Int32) hs21 dX10_isPlayed_34 (by decide) (by decide) rfl (by decide) ?_
    refine lv_aload_n hx hb dX10_isPlayed_102 rfl (lv_at hl 3 rfl) ?_
    refine lv_iload_n hx hb dX10_isPlayed_103 rfl (lv_at hl 1 rfl) ?_
    refine lv_iload hx hb dX10_isPlayed_104 (lv_at hl 0 rfl) ?_
    refine lv_iload_n hx hb dX10_isPlayed_106 rfl (lv_at hl 2 rfl) ?_
    obtain ⟨v23, M24, hq22, hf⟩ := xb2_e hf
    refine x_callVi (As := [.int v4, .int v6, .int v2]) (rest := []) C hm (c_X10_store l E b M Lm v4 v6 v2 hq22) rfl cy_0 tc_X10_store tm_RX10_430 ti_X10_store ts_X10_store tn_RX10 td_X10_store rfl rfl ⟨Nat.le_of_ble_eq_true rfl, Nat.le_of_ble_eq_true rfl⟩ rfl hl.1 rfl (Nat.le_of_ble_eq_true rfl) ⟨Nat.zero_le _, Nat.zero_le _⟩ dX10_isPlayed_107 (fun H locs hP25 hm => ?_)
    cases hf
    exact x_zret C hm hP25 hP25 dX10_isPlayed_110
  have hf := xif_f hs21 hf
  by_cases hs26 : (M 3 (Int32.toNatClampNeg a1)) = (5 : Int32)
  · have hf := xif_t hs26 hf
    refine x_tabIn (tgt := 111) hx hb (5 : Int32) hs26 dX10_isPlayed_34 (by decide) (by decide) rfl (by decide) ?_
    refine lv_aload_n hx hb dX10_isPlayed_111 rfl (lv_at hl 3 rfl) ?_
    refine lv_iload_n hx hb dX10_isPlayed_112 rfl (lv_at hl 2 rfl) ?_
    obtain ⟨v28, M29, hq27, hf⟩ := xb2_e hf
    refine x_callVi (As := [.int v2]) (rest := []) C hm (c_X10_drop l E b M Lm v2 hq27) rfl cy_0 tc_X10_drop tm_RX10_433 ti_X10_drop ts_X10_drop tn_RX10 td_X10_drop rfl rfl ⟨Nat.le_of_ble_eq_true rfl, Nat.le_of_ble_eq_true rfl⟩ rfl hl.1 rfl (Nat.le_of_ble_eq_true rfl) ⟨Nat.zero_le _, Nat.zero_le _⟩ dX10_isPlayed_113 (fun H locs hP30 hm => ?_)
    cases hf
    exact x_zret C hm hP30 hP30 dX10_isPlayed_116
  have hf := xif_f hs26 hf
  by_cases hs31 : (M 3 (Int32.toNatClampNeg a1)) = (6 : Int32)
  · have hf := xif_t hs31 hf
    refine x_tabIn (tgt := 117) hx hb (6 : Int32) hs31 dX10_isPlayed_34 (by decide) (by decide) rfl (by decide) ?_
    refine lv_aload_n hx hb dX10_isPlayed_117 rfl (lv_at hl 3 rfl) ?_
    refine lv_iload_n hx hb dX10_isPlayed_118 rfl (lv_at hl 2 rfl) ?_
    obtain ⟨v33, M34, L35, hq32, hf⟩ := xb3_e hf
    refine x_callVi (As := [.int v2]) (rest := []) C hm (c_X10_arePassed l E b M Lm v2 hq32) rfl cy_0 tc_X10_arePassed tm_RX10_421 ti_X10_arePassed ts_X10_arePassed tn_RX10 td_X10_arePassed rfl rfl ⟨Nat.le_of_ble_eq_true rfl, Nat.le_of_ble_eq_true rfl⟩ rfl hl.1 rfl (Nat.le_of_ble_eq_true rfl) ⟨Nat.zero_le _, Nat.zero_le _⟩ dX10_isPlayed_119 (fun H locs hP36 hm => ?_)
    cases hf
    exact x_zret C hm hP36 hP36 dX10_isPlayed_122
  have hf := xif_f hs31 hf
  refine x_tabOut (tgt := 123) hx hb dX10_isPlayed_34 (by decide) (fun i hi => ?_) (by decide) ?_
  · match i, hi with
    | 0, _ => exact hs8
    | 1, _ => exact hs15
    | 2, _ => exact hs21
    | 3, _ => exact hs26
    | 4, _ => exact hs31
    | (i + 5), hi => exact absurd hi (by omega)
  refine lv_iconst (v := (1 : Int32)) hx hb dX10_isPlayed_123 (by decide) ?_
  cases hf
  exact x_zret C hm (by decide) (by decide) dX10_isPlayed_124
/-! ColouredHeapModel.isSafe(I)Z -/
theorem dX10_isSafe_0 : decode cX10_isSafe 0 = .ok (.iload_n 1, 1) := by decide +kernel
theorem dX10_isSafe_1 : decode cX10_isSafe 1 = .ok (.iconst (-1), 1) := by decide +kernel
theorem dX10_isSafe_2 : decode cX10_isSafe 2 = .ok (.if_icmp .eq 34, 3) := by decide +kernel
theorem dX10_isSafe_5 : decode cX10_isSafe 5 = .ok (.aload_n 0, 1) := by decide +kernel
theorem dX10_isSafe_6 : decode cX10_isSafe 6 = .ok (.aload_n 0, 1) := by decide +kernel
theorem dX10_isSafe_7 : decode cX10_isSafe 7 = .ok (.iload_n 1, 1) := by decide +kernel
theorem dX10_isSafe_8 : decode cX10_isSafe 8 = .ok (.invokevirtual 331, 3) := by decide +kernel
theorem dX10_isSafe_11 : decode cX10_isSafe 11 = .ok (.invokevirtual 74, 3) := by decide +kernel
theorem dX10_isSafe_14 : decode cX10_isSafe 14 = .ok (.ifCond .eq 26, 3) := by decide +kernel
theorem dX10_isSafe_17 : decode cX10_isSafe 17 = .ok (.aload_n 0, 1) := by decide +kernel
theorem dX10_isSafe_18 : decode cX10_isSafe 18 = .ok (.getfield 7, 3) := by decide +kernel
theorem dX10_isSafe_21 : decode cX10_isSafe 21 = .ok (.bipush 13, 2) := by decide +kernel
theorem dX10_isSafe_23 : decode cX10_isSafe 23 = .ok (.aload_n 0, 1) := by decide +kernel
theorem dX10_isSafe_24 : decode cX10_isSafe 24 = .ok (.iload_n 1, 1) := by decide +kernel
theorem dX10_isSafe_25 : decode cX10_isSafe 25 = .ok (.invokevirtual 331, 3) := by decide +kernel
theorem dX10_isSafe_28 : decode cX10_isSafe 28 = .ok (.bipush 8, 2) := by decide +kernel
theorem dX10_isSafe_30 : decode cX10_isSafe 30 = .ok (.idiv, 1) := by decide +kernel
theorem dX10_isSafe_31 : decode cX10_isSafe 31 = .ok (.iadd, 1) := by decide +kernel
theorem dX10_isSafe_32 : decode cX10_isSafe 32 = .ok (.iaload, 1) := by decide +kernel
theorem dX10_isSafe_33 : decode cX10_isSafe 33 = .ok (.ifCond .eq 7, 3) := by decide +kernel
theorem dX10_isSafe_36 : decode cX10_isSafe 36 = .ok (.iconst 1, 1) := by decide +kernel
theorem dX10_isSafe_37 : decode cX10_isSafe 37 = .ok (.goto 4, 3) := by decide +kernel
theorem dX10_isSafe_40 : decode cX10_isSafe 40 = .ok (.iconst 0, 1) := by decide +kernel
theorem dX10_isSafe_41 : decode cX10_isSafe 41 = .ok (.ireturn, 1) := by decide +kernel
def f_X10_isSafe (M : xm) (a1 : Int32) : Option (Int32) := (if a1 = (-1 : Int32) then some (1 : Int32) else xb1 (f_X10_whereOf M a1) (fun v3 => xb1 (f_X10_isHead M v3) (fun v6 => (if v6 = 0 then some (0 : Int32) else xb1 (f_X10_whereOf M a1) (fun v10 => if xin ((13 : Int32) + (v10 / (8 : Int32))) 9878 = true then (if (M 1 (Int32.toNatClampNeg ((13 : Int32) + (v10 / (8 : Int32))))) = 0 then some (0 : Int32) else some (1 : Int32)) else none)))))
set_option maxHeartbeats 4000000 in
set_option maxRecDepth 20000 in
theorem c_X10_isSafe (l : Launch) (E : xE) (b : Nat) (M : xm) (Lm : xn) (a1 : Int32) {r : Int32} (hf : f_X10_isSafe M a1 = some r) :
    xMet l E b NY yX10_isSafe cX10_isSafe 2 (some .boolean) (xR 4) [.ref (b + 0), .int a1] (cY E b M Lm) (some (.int r)) (xbo r = true) (cY E b M Lm) := by
  refine xMet.ofW (own := RX10) (by decide) rfl (Nat.le_of_ble_eq_true rfl) ?_
  intro p e s m below meth c H locs ls C hm hl
  have hx := C.1.1
  have hb := C.1.2.1
  have hl : lv_has ls 2 [(0, .ref (b + 0)), (1, .int a1)] := hl
  unfold f_X10_isSafe at hf
  refine lv_iload_n hx hb dX10_isSafe_0 rfl (lv_at hl 1 rfl) ?_
  refine lv_iconst (v := (-1 : Int32)) hx hb dX10_isSafe_1 (by decide) ?_
  refine lv_icmp_eq (tgt := 36) hx hb dX10_isSafe_2 (by decide) (fun hc1 => ?_) (fun hc1 => ?_)
  · have hf := xif_t hc1 hf
    refine lv_iconst (v := (1 : Int32)) hx hb dX10_isSafe_36 (by decide) ?_
    refine lv_goto (tgt := 41) hx hb dX10_isSafe_37 (by decide) ?_
    cases hf
    exact x_zret C hm (by decide) (by decide) dX10_isSafe_41
  have hf := xif_f hc1 hf
  refine lv_aload_n hx hb dX10_isSafe_5 rfl (lv_at hl 0 rfl) ?_
  refine lv_aload_n hx hb dX10_isSafe_6 rfl (lv_at hl 0 rfl) ?_
  refine lv_iload_n hx hb dX10_isSafe_7 rfl (lv_at hl 1 rfl) ?_
  obtain ⟨v3, hq2, hf⟩ := xb1_e hf
  refine x_callVi (As := [.int a1]) (rest := [.ref (b + 0)]) C hm (c_X10_whereOf l E b M Lm a1 hq2) rfl cy_0 tc_X10_whereOf tm_RX10_331 ti_X10_whereOf ts_X10_whereOf tn_RX10 td_X10_whereOf rfl rfl ⟨Nat.le_of_ble_eq_true rfl, Nat.le_of_ble_eq_true rfl⟩ rfl hl.1 rfl (Nat.le_of_ble_eq_true rfl) ⟨Nat.zero_le _, Nat.zero_le _⟩ dX10_isSafe_8 (fun H locs hP4 hm => ?_)
  obtain ⟨v6, hq5, hf⟩ := xb1_e hf
  refine x_callVi (As := [.int v3]) (rest := []) C hm (c_X10_isHead l E b M Lm v3 hq5) rfl cy_0 tc_X10_isHead tm_RX10_74 ti_X10_isHead ts_X10_isHead tn_RX10 td_X10_isHead rfl rfl ⟨Nat.le_of_ble_eq_true rfl, Nat.le_of_ble_eq_true rfl⟩ rfl hl.1 rfl (Nat.le_of_ble_eq_true rfl) ⟨Nat.zero_le _, Nat.zero_le _⟩ dX10_isSafe_11 (fun H locs hP7 hm => ?_)
  refine lv_if_eq (tgt := 40) hx hb dX10_isSafe_14 (by decide) (fun hc8 => ?_) (fun hc8 => ?_)
  · have hf := xif_t hc8 hf
    refine lv_iconst (v := (0 : Int32)) hx hb dX10_isSafe_40 (by decide) ?_
    cases hf
    exact x_zret C hm (by decide) (by decide) dX10_isSafe_41
  have hf := xif_f hc8 hf
  refine lv_aload_n hx hb dX10_isSafe_17 rfl (lv_at hl 0 rfl) ?_
  refine x_get C hm inX10 rfl 0 (by decide) tf_RX10_7 cy_0 rfl dX10_isSafe_18 ?_
  refine lv_bipush (v := (13 : Int32)) hx hb dX10_isSafe_21 (by decide) ?_
  refine lv_aload_n hx hb dX10_isSafe_23 rfl (lv_at hl 0 rfl) ?_
  refine lv_iload_n hx hb dX10_isSafe_24 rfl (lv_at hl 1 rfl) ?_
  obtain ⟨v10, hq9, hf⟩ := xb1_e hf
  refine x_callVi (As := [.int a1]) (rest := [.int (13 : Int32), .ref (b + 1)]) C hm (c_X10_whereOf l E b M Lm a1 hq9) rfl cy_0 tc_X10_whereOf tm_RX10_331 ti_X10_whereOf ts_X10_whereOf tn_RX10 td_X10_whereOf rfl rfl ⟨Nat.le_of_ble_eq_true rfl, Nat.le_of_ble_eq_true rfl⟩ rfl hl.1 rfl (Nat.le_of_ble_eq_true rfl) ⟨Nat.zero_le _, Nat.zero_le _⟩ dX10_isSafe_25 (fun H locs hP11 hm => ?_)
  refine lv_bipush (v := (8 : Int32)) hx hb dX10_isSafe_28 (by decide) ?_
  refine lv_idiv hx hb dX10_isSafe_30 (by decide) ?_
  refine lv_iadd hx hb dX10_isSafe_31 ?_
  obtain ⟨hi12, hf⟩ := xif_s hf
  refine x_iald (j := (Int32.toNatClampNeg ((13 : Int32) + (v10 / (8 : Int32))))) C hm cy_1 hi12 dX10_isSafe_32 rfl ?_
  refine lv_if_eq (tgt := 40) hx hb dX10_isSafe_33 (by decide) (fun hc13 => ?_) (fun hc13 => ?_)
  · have hf := xif_t hc13 hf
    refine lv_iconst (v := (0 : Int32)) hx hb dX10_isSafe_40 (by decide) ?_
    cases hf
    exact x_zret C hm (by decide) (by decide) dX10_isSafe_41
  have hf := xif_f hc13 hf
  refine lv_iconst (v := (1 : Int32)) hx hb dX10_isSafe_36 (by decide) ?_
  refine lv_goto (tgt := 41) hx hb dX10_isSafe_37 (by decide) ?_
  cases hf
  exact x_zret C hm (by decide) (by decide) dX10_isSafe_41
/-! ColouredHeapModel.ledger(I)I -/
theorem dX10_ledger_0 : decode cX10_ledger 0 = .ok (.iload_n 1, 1) := by decide +kernel
theorem dX10_ledger_1 : decode cX10_ledger 1 = .ok (.iconst 0, 1) := by decide +kernel
theorem dX10_ledger_2 : decode cX10_ledger 2 = .ok (.iconst 5, 1) := by decide +kernel
theorem dX10_ledger_3 : decode cX10_ledger 3 = .ok (.invokestatic 59, 3) := by decide +kernel
theorem dX10_ledger_6 : decode cX10_ledger 6 = .ok (.ifCond .ne 6, 3) := by decide +kernel
theorem dX10_ledger_9 : decode cX10_ledger 9 = .ok (.bipush (-2), 2) := by decide +kernel
theorem dX10_ledger_11 : decode cX10_ledger 11 = .ok (.ireturn, 1) := by decide +kernel
theorem dX10_ledger_12 : decode cX10_ledger 12 = .ok (.iconst 0, 1) := by decide +kernel
theorem dX10_ledger_13 : decode cX10_ledger 13 = .ok (.istore_n 2, 1) := by decide +kernel
theorem dX10_ledger_14 : decode cX10_ledger 14 = .ok (.iconst 0, 1) := by decide +kernel
theorem dX10_ledger_15 : decode cX10_ledger 15 = .ok (.istore_n 3, 1) := by decide +kernel
theorem dX10_ledger_16 : decode cX10_ledger 16 = .ok (.iload_n 3, 1) := by decide +kernel
theorem dX10_ledger_17 : decode cX10_ledger 17 = .ok (.aload_n 0, 1) := by decide +kernel
theorem dX10_ledger_18 : decode cX10_ledger 18 = .ok (.getfield 7, 3) := by decide +kernel
theorem dX10_ledger_21 : decode cX10_ledger 21 = .ok (.bipush 12, 2) := by decide +kernel
theorem dX10_ledger_23 : decode cX10_ledger 23 = .ok (.iaload, 1) := by decide +kernel
theorem dX10_ledger_24 : decode cX10_ledger 24 = .ok (.if_icmp .ge 27, 3) := by decide +kernel
theorem dX10_ledger_27 : decode cX10_ledger 27 = .ok (.iload_n 2, 1) := by decide +kernel
theorem dX10_ledger_28 : decode cX10_ledger 28 = .ok (.aload_n 0, 1) := by decide +kernel
theorem dX10_ledger_29 : decode cX10_ledger 29 = .ok (.iload_n 3, 1) := by decide +kernel
theorem dX10_ledger_30 : decode cX10_ledger 30 = .ok (.iconst 1, 1) := by decide +kernel
theorem dX10_ledger_31 : decode cX10_ledger 31 = .ok (.invokevirtual 448, 3) := by decide +kernel
theorem dX10_ledger_34 : decode cX10_ledger 34 = .ok (.iload_n 1, 1) := by decide +kernel
theorem dX10_ledger_35 : decode cX10_ledger 35 = .ok (.if_icmp .ne 7, 3) := by decide +kernel
theorem dX10_ledger_38 : decode cX10_ledger 38 = .ok (.iconst 1, 1) := by decide +kernel
theorem dX10_ledger_39 : decode cX10_ledger 39 = .ok (.goto 4, 3) := by decide +kernel
theorem dX10_ledger_42 : decode cX10_ledger 42 = .ok (.iconst 0, 1) := by decide +kernel
theorem dX10_ledger_43 : decode cX10_ledger 43 = .ok (.iadd, 1) := by decide +kernel
theorem dX10_ledger_44 : decode cX10_ledger 44 = .ok (.istore_n 2, 1) := by decide +kernel
theorem dX10_ledger_45 : decode cX10_ledger 45 = .ok (.iinc 3 1, 3) := by decide +kernel
theorem dX10_ledger_48 : decode cX10_ledger 48 = .ok (.goto (-32), 3) := by decide +kernel
theorem dX10_ledger_51 : decode cX10_ledger 51 = .ok (.iload_n 2, 1) := by decide +kernel
theorem dX10_ledger_52 : decode cX10_ledger 52 = .ok (.ireturn, 1) := by decide +kernel
def g_X10_ledger_16 (M : xm) (x3 : Int32) : Nat → Int32 → Int32 → Option ((Int32))
  | 0, _, _ => none
  | n + 1, x4, x5 => (if (M 1 12) ≤ x5 then some (x4) else xb1 (f_X10_lineOf M x5 (1 : Int32)) (fun v9 => (if v9 = x3 then xlet (x4 + (1 : Int32)) (fun v14 => xlet (x5 + (1 : Int32)) (fun v15 => g_X10_ledger_16 M x3 n v14 v15)) else xlet (x4 + (0 : Int32)) (fun v12 => xlet (x5 + (1 : Int32)) (fun v13 => g_X10_ledger_16 M x3 n v12 v13)))))
def f_X10_ledger (M : xm) (a1 : Int32) : Option (Int32) := (if (f_X10_isIn a1 (0 : Int32) (5 : Int32)) = 0 then some (-2 : Int32) else xb1 (g_X10_ledger_16 M a1 xfuel (0 : Int32) (0 : Int32)) (fun v16 => some v16))
set_option maxHeartbeats 4000000 in
set_option maxRecDepth 20000 in
theorem j_X10_ledger_16 {p : Program} {l : Launch} {e : Env} {s : State} {m : MethodId} {args : Array Value} {below : List Frame} {meth : Method} {c : Code} {Q : State → Prop} {E : xE} {b : Nat} (C : xC p s m args meth c cX10_ledger 4 RX10 (some .int) E b) (M : xm) {Lm : xn} (x3 : Int32) {y6 : Int32}
    (kx0 : ∀ (H : Heap) (locs : List Loc) (ls : Array Slot), xM E b NY (cY E b M Lm) s.heap H locs → lv_has ls 4 [(2, .int y6)] → W p l e (xR 2) s m args below meth c H locs 0 0 Q (F0 m 51 ls [])) :
    ∀ (n : Nat) (x4 : Int32) (x5 : Int32) (H : Heap) (locs : List Loc) (ls : Array Slot), g_X10_ledger_16 M x3 n x4 x5 = some y6 → xM E b NY (cY E b M Lm) s.heap H locs → lv_has ls 4 [(0, .ref (b + 0)), (1, .int x3), (2, .int x4), (3, .int x5)] → W p l e (xR 2) s m args below meth c H locs 0 0 Q (F0 m 16 ls []) := by
  have hx := C.1.1
  have hb := C.1.2.1
  intro n
  induction n with
  | zero =>
    intro x4 x5 H locs ls hf hm hl
    rw [g_X10_ledger_16] at hf
    cases hf
  | succ n ih =>
    intro x4 x5 H locs ls hf hm hl
    rw [g_X10_ledger_16] at hf
    refine lv_iload_n hx hb dX10_ledger_16 rfl (lv_at hl 3 rfl) ?_
    refine lv_aload_n hx hb dX10_ledger_17 rfl (lv_at hl 0 rfl) ?_
    refine x_get C hm inX10 rfl 0 (by decide) tf_RX10_7 cy_0 rfl dX10_ledger_18 ?_
    refine lv_bipush (v := (12 : Int32)) hx hb dX10_ledger_21 (by decide) ?_
    refine x_iald (j := 12) C hm cy_1 (by decide) dX10_ledger_23 (by decide) ?_
    refine lv_icmp_ge (tgt := 51) hx hb dX10_ledger_24 (by decide) (fun hc7 => ?_) (fun hc7 => ?_)
    · have hf := xif_t hc7 hf
      cases hf
      exact kx0 H locs ls hm (lv_sub hl [2] rfl)
    have hf := xif_f hc7 hf
    refine lv_iload_n hx hb dX10_ledger_27 rfl (lv_at hl 2 rfl) ?_
    refine lv_aload_n hx hb dX10_ledger_28 rfl (lv_at hl 0 rfl) ?_
    refine lv_iload_n hx hb dX10_ledger_29 rfl (lv_at hl 3 rfl) ?_
    refine lv_iconst (v := (1 : Int32)) hx hb dX10_ledger_30 (by decide) ?_
    obtain ⟨v9, hq8, hf⟩ := xb1_e hf
    refine x_callVi (As := [.int x5, .int (1 : Int32)]) (rest := [.int x4]) C hm (c_X10_lineOf l E b M Lm x5 (1 : Int32) hq8) rfl cy_0 tc_X10_lineOf tm_RX10_448 ti_X10_lineOf ts_X10_lineOf tn_RX10 td_X10_lineOf rfl rfl ⟨Nat.le_of_ble_eq_true rfl, Nat.le_of_ble_eq_true rfl⟩ rfl hl.1 rfl (Nat.le_of_ble_eq_true rfl) ⟨Nat.zero_le _, Nat.zero_le _⟩ dX10_ledger_31 (fun H locs hP10 hm => ?_)
    refine lv_iload_n hx hb dX10_ledger_34 rfl (lv_at hl 1 rfl) ?_
    refine lv_icmp_ne (tgt := 42) hx hb dX10_ledger_35 (by decide) (fun hc11 => ?_) (fun hc11 => ?_)
    · have hf := xif_f hc11 hf
      refine lv_iconst (v := (0 : Int32)) hx hb dX10_ledger_42 (by decide) ?_
      refine lv_iadd hx hb dX10_ledger_43 ?_
      refine lv_topi (fun v12 ev12 => ?_)
      have hf := xlet_e ev12 hf
      refine lv_istore_n (lv' := [(2, .int v12), (0, .ref (b + 0)), (1, .int x3), (3, .int x5)]) hx hb dX10_ledger_44 rfl hl (by decide) rfl (fun ls hl => ?_)
      obtain ⟨v13, ev13, hf⟩ := xlet_x hf
      refine lv_iinc (v := v13) (lv' := [(3, .int v13), (2, .int v12), (0, .ref (b + 0)), (1, .int x3)]) hx hb dX10_ledger_45 hl (k := 3) rfl (by rw [ev13]; rfl) (by decide) rfl (fun ls hl => ?_)
      refine lv_goto (tgt := 16) hx hb dX10_ledger_48 (by decide) ?_
      exact ih v12 v13 H locs ls hf hm (lv_sub hl [2, 3, 1, 0] rfl)
    have hf := xif_t hc11 hf
    refine lv_iconst (v := (1 : Int32)) hx hb dX10_ledger_38 (by decide) ?_
    refine lv_goto (tgt := 43) hx hb dX10_ledger_39 (by decide) ?_
    refine lv_iadd hx hb dX10_ledger_43 ?_
    refine lv_topi (fun v14 ev14 => ?_)
    have hf := xlet_e ev14 hf
    refine lv_istore_n (lv' := [(2, .int v14), (0, .ref (b + 0)), (1, .int x3), (3, .int x5)]) hx hb dX10_ledger_44 rfl hl (by decide) rfl (fun ls hl => ?_)
    obtain ⟨v15, ev15, hf⟩ := xlet_x hf
    refine lv_iinc (v := v15) (lv' := [(3, .int v15), (2, .int v14), (0, .ref (b + 0)), (1, .int x3)]) hx hb dX10_ledger_45 hl (k := 3) rfl (by rw [ev15]; rfl) (by decide) rfl (fun ls hl => ?_)
    refine lv_goto (tgt := 16) hx hb dX10_ledger_48 (by decide) ?_
    exact ih v14 v15 H locs ls hf hm (lv_sub hl [2, 3, 1, 0] rfl)
set_option maxHeartbeats 4000000 in
set_option maxRecDepth 20000 in
theorem c_X10_ledger (l : Launch) (E : xE) (b : Nat) (M : xm) (Lm : xn) (a1 : Int32) {r : Int32} (hf : f_X10_ledger M a1 = some r) :
    xMet l E b NY yX10_ledger cX10_ledger 4 (some .int) (xR 2) [.ref (b + 0), .int a1] (cY E b M Lm) (some (.int r)) True (cY E b M Lm) := by
  refine xMet.ofW (own := RX10) (by decide) rfl (Nat.le_of_ble_eq_true rfl) ?_
  intro p e s m below meth c H locs ls C hm hl
  have hx := C.1.1
  have hb := C.1.2.1
  have hl : lv_has ls 4 [(0, .ref (b + 0)), (1, .int a1)] := hl
  unfold f_X10_ledger at hf
  refine lv_iload_n hx hb dX10_ledger_0 rfl (lv_at hl 1 rfl) ?_
  refine lv_iconst (v := (0 : Int32)) hx hb dX10_ledger_1 (by decide) ?_
  refine lv_iconst (v := (5 : Int32)) hx hb dX10_ledger_2 (by decide) ?_
  refine x_callSi (As := [.int a1, .int (0 : Int32), .int (5 : Int32)]) (rest := []) C hm (c_X10_isIn l E b M Lm a1 (0 : Int32) (5 : Int32) rfl) tc_X10_isIn tm_RX10_59 tz_X10_isIn tn_RX10 td_X10_isIn rfl rfl ⟨Nat.le_of_ble_eq_true rfl, Nat.le_of_ble_eq_true rfl⟩ rfl hl.1 rfl (Nat.le_of_ble_eq_true rfl) ⟨Nat.zero_le _, Nat.zero_le _⟩ dX10_ledger_3 (fun H locs hP1 hm => ?_)
  refine lv_if_ne (tgt := 12) hx hb dX10_ledger_6 (by decide) (fun hc2 => ?_) (fun hc2 => ?_)
  rotate_left
  · have hf := xif_t hc2 hf
    refine lv_bipush (v := (-2 : Int32)) hx hb dX10_ledger_9 (by decide) ?_
    cases hf
    exact x_iret C hm trivial dX10_ledger_11
  have hf := xif_f hc2 hf
  refine lv_iconst (v := (0 : Int32)) hx hb dX10_ledger_12 (by decide) ?_
  refine lv_istore_n (lv' := [(2, .int (0 : Int32)), (0, .ref (b + 0)), (1, .int a1)]) hx hb dX10_ledger_13 rfl hl (by decide) rfl (fun ls hl => ?_)
  refine lv_iconst (v := (0 : Int32)) hx hb dX10_ledger_14 (by decide) ?_
  refine lv_istore_n (lv' := [(3, .int (0 : Int32)), (2, .int (0 : Int32)), (0, .ref (b + 0)), (1, .int a1)]) hx hb dX10_ledger_15 rfl hl (by decide) rfl (fun ls hl => ?_)
  obtain ⟨v16, hq, hf⟩ := xb1_e hf
  refine j_X10_ledger_16 C M a1 (fun H locs ls hm hl => ?_) xfuel (0 : Int32) (0 : Int32) H locs ls hq hm (lv_sub hl [2, 3, 1, 0] rfl)
  refine lv_iload_n hx hb dX10_ledger_51 rfl (lv_at hl 0 rfl) ?_
  cases hf
  exact x_iret C hm trivial dX10_ledger_52
/-! ColouredHeapModel.marked(I)Z -/
theorem dX10_marked_0 : decode cX10_marked 0 = .ok (.aload_n 0, 1) := by decide +kernel
theorem dX10_marked_1 : decode cX10_marked 1 = .ok (.iload_n 1, 1) := by decide +kernel
theorem dX10_marked_2 : decode cX10_marked 2 = .ok (.invokevirtual 74, 3) := by decide +kernel
theorem dX10_marked_5 : decode cX10_marked 5 = .ok (.ifCond .eq 15, 3) := by decide +kernel
theorem dX10_marked_8 : decode cX10_marked 8 = .ok (.aload_n 0, 1) := by decide +kernel
theorem dX10_marked_9 : decode cX10_marked 9 = .ok (.iload_n 1, 1) := by decide +kernel
theorem dX10_marked_10 : decode cX10_marked 10 = .ok (.invokevirtual 77, 3) := by decide +kernel
theorem dX10_marked_13 : decode cX10_marked 13 = .ok (.ifCond .eq 7, 3) := by decide +kernel
theorem dX10_marked_16 : decode cX10_marked 16 = .ok (.iconst 1, 1) := by decide +kernel
theorem dX10_marked_17 : decode cX10_marked 17 = .ok (.goto 4, 3) := by decide +kernel
theorem dX10_marked_20 : decode cX10_marked 20 = .ok (.iconst 0, 1) := by decide +kernel
theorem dX10_marked_21 : decode cX10_marked 21 = .ok (.ireturn, 1) := by decide +kernel
def f_X10_marked (M : xm) (a1 : Int32) : Option (Int32) := xb1 (f_X10_isHead M a1) (fun v2 => (if v2 = 0 then some (0 : Int32) else xb1 (f_X10_isMarked M a1) (fun v6 => (if v6 = 0 then some (0 : Int32) else some (1 : Int32)))))
set_option maxHeartbeats 4000000 in
set_option maxRecDepth 20000 in
theorem c_X10_marked (l : Launch) (E : xE) (b : Nat) (M : xm) (Lm : xn) (a1 : Int32) {r : Int32} (hf : f_X10_marked M a1 = some r) :
    xMet l E b NY yX10_marked cX10_marked 2 (some .boolean) (xR 4) [.ref (b + 0), .int a1] (cY E b M Lm) (some (.int r)) (xbo r = true) (cY E b M Lm) := by
  refine xMet.ofW (own := RX10) (by decide) rfl (Nat.le_of_ble_eq_true rfl) ?_
  intro p e s m below meth c H locs ls C hm hl
  have hx := C.1.1
  have hb := C.1.2.1
  have hl : lv_has ls 2 [(0, .ref (b + 0)), (1, .int a1)] := hl
  unfold f_X10_marked at hf
  refine lv_aload_n hx hb dX10_marked_0 rfl (lv_at hl 0 rfl) ?_
  refine lv_iload_n hx hb dX10_marked_1 rfl (lv_at hl 1 rfl) ?_
  obtain ⟨v2, hq1, hf⟩ := xb1_e hf
  refine x_callVi (As := [.int a1]) (rest := []) C hm (c_X10_isHead l E b M Lm a1 hq1) rfl cy_0 tc_X10_isHead tm_RX10_74 ti_X10_isHead ts_X10_isHead tn_RX10 td_X10_isHead rfl rfl ⟨Nat.le_of_ble_eq_true rfl, Nat.le_of_ble_eq_true rfl⟩ rfl hl.1 rfl (Nat.le_of_ble_eq_true rfl) ⟨Nat.zero_le _, Nat.zero_le _⟩ dX10_marked_2 (fun H locs hP3 hm => ?_)
  refine lv_if_eq (tgt := 20) hx hb dX10_marked_5 (by decide) (fun hc4 => ?_) (fun hc4 => ?_)
  · have hf := xif_t hc4 hf
    refine lv_iconst (v := (0 : Int32)) hx hb dX10_marked_20 (by decide) ?_
    cases hf
    exact x_zret C hm (by decide) (by decide) dX10_marked_21
  have hf := xif_f hc4 hf
  refine lv_aload_n hx hb dX10_marked_8 rfl (lv_at hl 0 rfl) ?_
  refine lv_iload_n hx hb dX10_marked_9 rfl (lv_at hl 1 rfl) ?_
  obtain ⟨v6, hq5, hf⟩ := xb1_e hf
  refine x_callVi (As := [.int a1]) (rest := []) C hm (c_X10_isMarked l E b M Lm a1 hq5) rfl cy_0 tc_X10_isMarked tm_RX10_77 ti_X10_isMarked ts_X10_isMarked tn_RX10 td_X10_isMarked rfl rfl ⟨Nat.le_of_ble_eq_true rfl, Nat.le_of_ble_eq_true rfl⟩ rfl hl.1 rfl (Nat.le_of_ble_eq_true rfl) ⟨Nat.zero_le _, Nat.zero_le _⟩ dX10_marked_10 (fun H locs hP7 hm => ?_)
  refine lv_if_eq (tgt := 20) hx hb dX10_marked_13 (by decide) (fun hc8 => ?_) (fun hc8 => ?_)
  · have hf := xif_t hc8 hf
    refine lv_iconst (v := (0 : Int32)) hx hb dX10_marked_20 (by decide) ?_
    cases hf
    exact x_zret C hm (by decide) (by decide) dX10_marked_21
  have hf := xif_f hc8 hf
  refine lv_iconst (v := (1 : Int32)) hx hb dX10_marked_16 (by decide) ?_
  refine lv_goto (tgt := 21) hx hb dX10_marked_17 (by decide) ?_
  cases hf
  exact x_zret C hm (by decide) (by decide) dX10_marked_21
