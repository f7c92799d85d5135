/-! ColouredHeapModel.isWord(J)Z -/
theorem dX10_isWord_0 : decode cX10_isWord 0 = .ok (.aload_n 0, 1) := by decide +kernel
theorem dX10_isWord_1 : decode cX10_isWord 1 = .ok (.getfield 99, 3) := by decide +kernel
theorem dX10_isWord_4 : decode cX10_isWord 4 = .ok (.iconst 2, 1) := by decide +kernel
theorem dX10_isWord_5 : decode cX10_isWord 5 = .ok (.if_icmp .ne 16, 3) := by decide +kernel
theorem dX10_isWord_8 : decode cX10_isWord 8 = .ok (.aload_n 0, 1) := by decide +kernel
theorem dX10_isWord_9 : decode cX10_isWord 9 = .ok (.getfield 112, 3) := by decide +kernel
theorem dX10_isWord_12 : decode cX10_isWord 12 = .ok (.lload_n 1, 1) := by decide +kernel
theorem dX10_isWord_13 : decode cX10_isWord 13 = .ok (.lcmp, 1) := by decide +kernel
theorem dX10_isWord_14 : decode cX10_isWord 14 = .ok (.ifCond .ne 7, 3) := by decide +kernel
theorem dX10_isWord_17 : decode cX10_isWord 17 = .ok (.iconst 1, 1) := by decide +kernel
theorem dX10_isWord_18 : decode cX10_isWord 18 = .ok (.goto 4, 3) := by decide +kernel
theorem dX10_isWord_21 : decode cX10_isWord 21 = .ok (.iconst 0, 1) := by decide +kernel
theorem dX10_isWord_22 : decode cX10_isWord 22 = .ok (.ireturn, 1) := by decide +kernel
def f_X10_isWord (M : xm) (Lm : xn) (a1 : Int64) : Int32 := (if (M 0 9) = (2 : Int32) then (if (lg_cmp (Lm 0 11) a1) = 0 then (1 : Int32) else (0 : Int32)) else (0 : Int32))
set_option maxHeartbeats 4000000 in
set_option maxRecDepth 20000 in
theorem c_X10_isWord (l : Launch) (E : xE) (b : Nat) (M : xm) (Lm : xn) (a1 : Int64) {r : Int32} (hf : f_X10_isWord M Lm a1 = r) :
    xMet l E b NY yX10_isWord cX10_isWord 3 (some .boolean) (xR 1) [.ref (b + 0), .long a1] (cY E b M Lm) (some (.int r)) (xbo r = true) (cY E b M Lm) := by
  refine xMet.ofW (own := RX10) (by decide) rfl (Nat.le_of_ble_eq_true rfl) ?_
  intro p e s m below meth c H locs ls C hm hl
  have hx := C.1.1
  have hb := C.1.2.1
  have hl : lv_has ls 3 [(0, .ref (b + 0)), (1, .long a1)] := hl
  unfold f_X10_isWord at hf
  refine lv_aload_n hx hb dX10_isWord_0 rfl (lv_at hl 0 rfl) ?_
  refine x_get C hm inX10 rfl 9 (by decide) tf_RX10_99 cy_0 rfl dX10_isWord_1 ?_
  refine lv_iconst (v := (2 : Int32)) hx hb dX10_isWord_4 (by decide) ?_
  refine lv_icmp_ne (tgt := 21) hx hb dX10_isWord_5 (by decide) (fun hc1 => ?_) (fun hc1 => ?_)
  · have hf := xif_f hc1 hf
    refine lv_iconst (v := (0 : Int32)) hx hb dX10_isWord_21 (by decide) ?_
    cases hf
    exact x_zret C hm (by decide) (by decide) dX10_isWord_22
  have hf := xif_t hc1 hf
  refine lv_aload_n hx hb dX10_isWord_8 rfl (lv_at hl 0 rfl) ?_
  refine x_get C hm inX10 rfl 11 (by decide) tf_RX10_112 cy_0 rfl dX10_isWord_9 ?_
  refine lv_lload_n hx hb dX10_isWord_12 rfl (lv_at hl 1 rfl) ?_
  refine W.lcmp hx hb dX10_isWord_13 ?_
  refine lv_if_ne (tgt := 21) hx hb dX10_isWord_14 (by decide) (fun hc2 => ?_) (fun hc2 => ?_)
  · have hf := xif_f hc2 hf
    refine lv_iconst (v := (0 : Int32)) hx hb dX10_isWord_21 (by decide) ?_
    cases hf
    exact x_zret C hm (by decide) (by decide) dX10_isWord_22
  have hf := xif_t hc2 hf
  refine lv_iconst (v := (1 : Int32)) hx hb dX10_isWord_17 (by decide) ?_
  refine lv_goto (tgt := 22) hx hb dX10_isWord_18 (by decide) ?_
  cases hf
  exact x_zret C hm (by decide) (by decide) dX10_isWord_22
/-! ColouredHeapModel.w2(II)J -/
theorem dX10_w2_0 : decode cX10_w2 0 = .ok (.iload_n 0, 1) := by decide +kernel
theorem dX10_w2_1 : decode cX10_w2 1 = .ok (.i2l, 1) := by decide +kernel
theorem dX10_w2_2 : decode cX10_w2 2 = .ok (.bipush 8, 2) := by decide +kernel
theorem dX10_w2_4 : decode cX10_w2 4 = .ok (.lshl, 1) := by decide +kernel
theorem dX10_w2_5 : decode cX10_w2 5 = .ok (.iload_n 1, 1) := by decide +kernel
theorem dX10_w2_6 : decode cX10_w2 6 = .ok (.i2l, 1) := by decide +kernel
theorem dX10_w2_7 : decode cX10_w2 7 = .ok (.lor, 1) := by decide +kernel
theorem dX10_w2_8 : decode cX10_w2 8 = .ok (.lreturn, 1) := by decide +kernel
def f_X10_w2 (a0 : Int32) (a1 : Int32) : Int64 := (((a0.toInt64) <<< ((8 : Int32).toInt64 &&& 63)) ||| (a1.toInt64))
set_option maxHeartbeats 4000000 in
set_option maxRecDepth 20000 in
theorem c_X10_w2 (l : Launch) (E : xE) (b : Nat) (M : xm) (Lm : xn) (a0 : Int32) (a1 : Int32) {r : Int64} (hf : f_X10_w2 a0 a1 = r) :
    xMet l E b NY yX10_w2 cX10_w2 2 (some .long) (xR 1) [.int a0, .int a1] (cY E b M Lm) (some (.long r)) True (cY E b M Lm) := by
  refine xMet.ofW (own := RX10) (by decide) rfl (Nat.le_of_ble_eq_true rfl) ?_
  intro p e s m below meth c H locs ls C hm hl
  have hx := C.1.1
  have hb := C.1.2.1
  have hl : lv_has ls 2 [(0, .int a0), (1, .int a1)] := hl
  unfold f_X10_w2 at hf
  refine lv_iload_n hx hb dX10_w2_0 rfl (lv_at hl 0 rfl) ?_
  refine lv_i2l hx hb dX10_w2_1 rfl ?_
  refine lv_bipush (v := (8 : Int32)) hx hb dX10_w2_2 (by decide) ?_
  refine lv_lshl hx hb dX10_w2_4 rfl ?_
  refine lv_iload_n hx hb dX10_w2_5 rfl (lv_at hl 1 rfl) ?_
  refine lv_i2l hx hb dX10_w2_6 rfl ?_
  refine lv_lor hx hb dX10_w2_7 ?_
  cases hf
  exact x_lret C hm trivial dX10_w2_8
/-! ColouredHeapModel.w3(III)J -/
theorem dX10_w3_0 : decode cX10_w3 0 = .ok (.iload_n 0, 1) := by decide +kernel
theorem dX10_w3_1 : decode cX10_w3 1 = .ok (.iload_n 1, 1) := by decide +kernel
theorem dX10_w3_2 : decode cX10_w3 2 = .ok (.invokestatic 121, 3) := by decide +kernel
theorem dX10_w3_5 : decode cX10_w3 5 = .ok (.bipush 8, 2) := by decide +kernel
theorem dX10_w3_7 : decode cX10_w3 7 = .ok (.lshl, 1) := by decide +kernel
theorem dX10_w3_8 : decode cX10_w3 8 = .ok (.iload_n 2, 1) := by decide +kernel
theorem dX10_w3_9 : decode cX10_w3 9 = .ok (.i2l, 1) := by decide +kernel
theorem dX10_w3_10 : decode cX10_w3 10 = .ok (.lor, 1) := by decide +kernel
theorem dX10_w3_11 : decode cX10_w3 11 = .ok (.lreturn, 1) := by decide +kernel
def f_X10_w3 (a0 : Int32) (a1 : Int32) (a2 : Int32) : Int64 := (((f_X10_w2 a0 a1) <<< ((8 : Int32).toInt64 &&& 63)) ||| (a2.toInt64))
set_option maxHeartbeats 4000000 in
set_option maxRecDepth 20000 in
theorem c_X10_w3 (l : Launch) (E : xE) (b : Nat) (M : xm) (Lm : xn) (a0 : Int32) (a1 : Int32) (a2 : Int32) {r : Int64} (hf : f_X10_w3 a0 a1 a2 = r) :
    xMet l E b NY yX10_w3 cX10_w3 3 (some .long) (xR 2) [.int a0, .int a1, .int a2] (cY E b M Lm) (some (.long r)) True (cY E b M Lm) := by
  refine xMet.ofW (own := RX10) (by decide) rfl (Nat.le_of_ble_eq_true rfl) ?_
  intro p e s m below meth c H locs ls C hm hl
  have hx := C.1.1
  have hb := C.1.2.1
  have hl : lv_has ls 3 [(0, .int a0), (1, .int a1), (2, .int a2)] := hl
  unfold f_X10_w3 at hf
  refine lv_iload_n hx hb dX10_w3_0 rfl (lv_at hl 0 rfl) ?_
  refine lv_iload_n hx hb dX10_w3_1 rfl (lv_at hl 1 rfl) ?_
  refine x_callSl (As := [.int a0, .int a1]) (rest := []) C hm (c_X10_w2 l E b M Lm a0 a1 rfl) tc_X10_w2 tm_RX10_121 tz_X10_w2 tn_RX10 td_X10_w2 rfl rfl ⟨Nat.le_of_ble_eq_true rfl, Nat.le_of_ble_eq_true rfl⟩ rfl hl.1 rfl (Nat.le_of_ble_eq_true rfl) ⟨Nat.zero_le _, Nat.zero_le _⟩ dX10_w3_2 (fun H locs hP1 hm => ?_)
  refine lv_bipush (v := (8 : Int32)) hx hb dX10_w3_5 (by decide) ?_
  refine lv_lshl hx hb dX10_w3_7 rfl ?_
  refine lv_iload_n hx hb dX10_w3_8 rfl (lv_at hl 2 rfl) ?_
  refine lv_i2l hx hb dX10_w3_9 rfl ?_
  refine lv_lor hx hb dX10_w3_10 ?_
  cases hf
  exact x_lret C hm trivial dX10_w3_11
/-! ColouredHeapModel.w4(IIII)J -/
theorem dX10_w4_0 : decode cX10_w4 0 = .ok (.iload_n 0, 1) := by decide +kernel
theorem dX10_w4_1 : decode cX10_w4 1 = .ok (.iload_n 1, 1) := by decide +kernel
theorem dX10_w4_2 : decode cX10_w4 2 = .ok (.iload_n 2, 1) := by decide +kernel
theorem dX10_w4_3 : decode cX10_w4 3 = .ok (.invokestatic 125, 3) := by decide +kernel
theorem dX10_w4_6 : decode cX10_w4 6 = .ok (.bipush 8, 2) := by decide +kernel
theorem dX10_w4_8 : decode cX10_w4 8 = .ok (.lshl, 1) := by decide +kernel
theorem dX10_w4_9 : decode cX10_w4 9 = .ok (.iload_n 3, 1) := by decide +kernel
theorem dX10_w4_10 : decode cX10_w4 10 = .ok (.i2l, 1) := by decide +kernel
theorem dX10_w4_11 : decode cX10_w4 11 = .ok (.lor, 1) := by decide +kernel
theorem dX10_w4_12 : decode cX10_w4 12 = .ok (.lreturn, 1) := by decide +kernel
def f_X10_w4 (a0 : Int32) (a1 : Int32) (a2 : Int32) (a3 : Int32) : Int64 := (((f_X10_w3 a0 a1 a2) <<< ((8 : Int32).toInt64 &&& 63)) ||| (a3.toInt64))
set_option maxHeartbeats 4000000 in
set_option maxRecDepth 20000 in
theorem c_X10_w4 (l : Launch) (E : xE) (b : Nat) (M : xm) (Lm : xn) (a0 : Int32) (a1 : Int32) (a2 : Int32) (a3 : Int32) {r : Int64} (hf : f_X10_w4 a0 a1 a2 a3 = r) :
    xMet l E b NY yX10_w4 cX10_w4 4 (some .long) (xR 3) [.int a0, .int a1, .int a2, .int a3] (cY E b M Lm) (some (.long r)) True (cY E b M Lm) := by
  refine xMet.ofW (own := RX10) (by decide) rfl (Nat.le_of_ble_eq_true rfl) ?_
  intro p e s m below meth c H locs ls C hm hl
  have hx := C.1.1
  have hb := C.1.2.1
  have hl : lv_has ls 4 [(0, .int a0), (1, .int a1), (2, .int a2), (3, .int a3)] := hl
  unfold f_X10_w4 at hf
  refine lv_iload_n hx hb dX10_w4_0 rfl (lv_at hl 0 rfl) ?_
  refine lv_iload_n hx hb dX10_w4_1 rfl (lv_at hl 1 rfl) ?_
  refine lv_iload_n hx hb dX10_w4_2 rfl (lv_at hl 2 rfl) ?_
  refine x_callSl (As := [.int a0, .int a1, .int a2]) (rest := []) C hm (c_X10_w3 l E b M Lm a0 a1 a2 rfl) tc_X10_w3 tm_RX10_125 tz_X10_w3 tn_RX10 td_X10_w3 rfl rfl ⟨Nat.le_of_ble_eq_true rfl, Nat.le_of_ble_eq_true rfl⟩ rfl hl.1 rfl (Nat.le_of_ble_eq_true rfl) ⟨Nat.zero_le _, Nat.zero_le _⟩ dX10_w4_3 (fun H locs hP1 hm => ?_)
  refine lv_bipush (v := (8 : Int32)) hx hb dX10_w4_6 (by decide) ?_
  refine lv_lshl hx hb dX10_w4_8 rfl ?_
  refine lv_iload_n hx hb dX10_w4_9 rfl (lv_at hl 3 rfl) ?_
  refine lv_i2l hx hb dX10_w4_10 rfl ?_
  refine lv_lor hx hb dX10_w4_11 ?_
  cases hf
  exact x_lret C hm trivial dX10_w4_12
/-! ColouredHeapModel.w5(IIIII)J -/
theorem dX10_w5_0 : decode cX10_w5 0 = .ok (.iload_n 0, 1) := by decide +kernel
theorem dX10_w5_1 : decode cX10_w5 1 = .ok (.iload_n 1, 1) := by decide +kernel
theorem dX10_w5_2 : decode cX10_w5 2 = .ok (.iload_n 2, 1) := by decide +kernel
theorem dX10_w5_3 : decode cX10_w5 3 = .ok (.iload_n 3, 1) := by decide +kernel
theorem dX10_w5_4 : decode cX10_w5 4 = .ok (.invokestatic 129, 3) := by decide +kernel
theorem dX10_w5_7 : decode cX10_w5 7 = .ok (.bipush 8, 2) := by decide +kernel
theorem dX10_w5_9 : decode cX10_w5 9 = .ok (.lshl, 1) := by decide +kernel
theorem dX10_w5_10 : decode cX10_w5 10 = .ok (.iload 4, 2) := by decide +kernel
theorem dX10_w5_12 : decode cX10_w5 12 = .ok (.i2l, 1) := by decide +kernel
theorem dX10_w5_13 : decode cX10_w5 13 = .ok (.lor, 1) := by decide +kernel
theorem dX10_w5_14 : decode cX10_w5 14 = .ok (.lreturn, 1) := by decide +kernel
def f_X10_w5 (a0 : Int32) (a1 : Int32) (a2 : Int32) (a3 : Int32) (a4 : Int32) : Int64 := (((f_X10_w4 a0 a1 a2 a3) <<< ((8 : Int32).toInt64 &&& 63)) ||| (a4.toInt64))
set_option maxHeartbeats 4000000 in
set_option maxRecDepth 20000 in
theorem c_X10_w5 (l : Launch) (E : xE) (b : Nat) (M : xm) (Lm : xn) (a0 : Int32) (a1 : Int32) (a2 : Int32) (a3 : Int32) (a4 : Int32) {r : Int64} (hf : f_X10_w5 a0 a1 a2 a3 a4 = r) :
    xMet l E b NY yX10_w5 cX10_w5 5 (some .long) (xR 4) [.int a0, .int a1, .int a2, .int a3, .int a4] (cY E b M Lm) (some (.long r)) True (cY E b M Lm) := by
  refine xMet.ofW (own := RX10) (by decide) rfl (Nat.le_of_ble_eq_true rfl) ?_
  intro p e s m below meth c H locs ls C hm hl
  have hx := C.1.1
  have hb := C.1.2.1
  have hl : lv_has ls 5 [(0, .int a0), (1, .int a1), (2, .int a2), (3, .int a3), (4, .int a4)] := hl
  unfold f_X10_w5 at hf
  refine lv_iload_n hx hb dX10_w5_0 rfl (lv_at hl 0 rfl) ?_
  refine lv_iload_n hx hb dX10_w5_1 rfl (lv_at hl 1 rfl) ?_
  refine lv_iload_n hx hb dX10_w5_2 rfl (lv_at hl 2 rfl) ?_
  refine lv_iload_n hx hb dX10_w5_3 rfl (lv_at hl 3 rfl) ?_
  refine x_callSl (As := [.int a0, .int a1, .int a2, .int a3]) (rest := []) C hm (c_X10_w4 l E b M Lm a0 a1 a2 a3 rfl) tc_X10_w4 tm_RX10_129 tz_X10_w4 tn_RX10 td_X10_w4 rfl rfl ⟨Nat.le_of_ble_eq_true rfl, Nat.le_of_ble_eq_true rfl⟩ rfl hl.1 rfl (Nat.le_of_ble_eq_true rfl) ⟨Nat.zero_le _, Nat.zero_le _⟩ dX10_w5_4 (fun H locs hP1 hm => ?_)
  refine lv_bipush (v := (8 : Int32)) hx hb dX10_w5_7 (by decide) ?_
  refine lv_lshl hx hb dX10_w5_9 rfl ?_
  refine lv_iload hx hb dX10_w5_10 (lv_at hl 4 rfl) ?_
  refine lv_i2l hx hb dX10_w5_12 rfl ?_
  refine lv_lor hx hb dX10_w5_13 ?_
  cases hf
  exact x_lret C hm trivial dX10_w5_14
/-! ColouredHeapModel.w6(IIIIII)J -/
theorem dX10_w6_0 : decode cX10_w6 0 = .ok (.iload_n 0, 1) := by decide +kernel
theorem dX10_w6_1 : decode cX10_w6 1 = .ok (.iload_n 1, 1) := by decide +kernel
theorem dX10_w6_2 : decode cX10_w6 2 = .ok (.iload_n 2, 1) := by decide +kernel
theorem dX10_w6_3 : decode cX10_w6 3 = .ok (.iload_n 3, 1) := by decide +kernel
theorem dX10_w6_4 : decode cX10_w6 4 = .ok (.iload 4, 2) := by decide +kernel
theorem dX10_w6_6 : decode cX10_w6 6 = .ok (.invokestatic 133, 3) := by decide +kernel
theorem dX10_w6_9 : decode cX10_w6 9 = .ok (.bipush 8, 2) := by decide +kernel
theorem dX10_w6_11 : decode cX10_w6 11 = .ok (.lshl, 1) := by decide +kernel
theorem dX10_w6_12 : decode cX10_w6 12 = .ok (.iload 5, 2) := by decide +kernel
theorem dX10_w6_14 : decode cX10_w6 14 = .ok (.i2l, 1) := by decide +kernel
theorem dX10_w6_15 : decode cX10_w6 15 = .ok (.lor, 1) := by decide +kernel
theorem dX10_w6_16 : decode cX10_w6 16 = .ok (.lreturn, 1) := by decide +kernel
def f_X10_w6 (a0 : Int32) (a1 : Int32) (a2 : Int32) (a3 : Int32) (a4 : Int32) (a5 : Int32) : Int64 := (((f_X10_w5 a0 a1 a2 a3 a4) <<< ((8 : Int32).toInt64 &&& 63)) ||| (a5.toInt64))
set_option maxHeartbeats 4000000 in
set_option maxRecDepth 20000 in
theorem c_X10_w6 (l : Launch) (E : xE) (b : Nat) (M : xm) (Lm : xn) (a0 : Int32) (a1 : Int32) (a2 : Int32) (a3 : Int32) (a4 : Int32) (a5 : Int32) {r : Int64} (hf : f_X10_w6 a0 a1 a2 a3 a4 a5 = r) :
    xMet l E b NY yX10_w6 cX10_w6 6 (some .long) (xR 5) [.int a0, .int a1, .int a2, .int a3, .int a4, .int a5] (cY E b M Lm) (some (.long r)) True (cY E b M Lm) := by
  refine xMet.ofW (own := RX10) (by decide) rfl (Nat.le_of_ble_eq_true rfl) ?_
  intro p e s m below meth c H locs ls C hm hl
  have hx := C.1.1
  have hb := C.1.2.1
  have hl : lv_has ls 6 [(0, .int a0), (1, .int a1), (2, .int a2), (3, .int a3), (4, .int a4), (5, .int a5)] := hl
  unfold f_X10_w6 at hf
  refine lv_iload_n hx hb dX10_w6_0 rfl (lv_at hl 0 rfl) ?_
  refine lv_iload_n hx hb dX10_w6_1 rfl (lv_at hl 1 rfl) ?_
  refine lv_iload_n hx hb dX10_w6_2 rfl (lv_at hl 2 rfl) ?_
  refine lv_iload_n hx hb dX10_w6_3 rfl (lv_at hl 3 rfl) ?_
  refine lv_iload hx hb dX10_w6_4 (lv_at hl 4 rfl) ?_
  refine x_callSl (As := [.int a0, .int a1, .int a2, .int a3, .int a4]) (rest := []) C hm (c_X10_w5 l E b M Lm a0 a1 a2 a3 a4 rfl) tc_X10_w5 tm_RX10_133 tz_X10_w5 tn_RX10 td_X10_w5 rfl rfl ⟨Nat.le_of_ble_eq_true rfl, Nat.le_of_ble_eq_true rfl⟩ rfl hl.1 rfl (Nat.le_of_ble_eq_true rfl) ⟨Nat.zero_le _, Nat.zero_le _⟩ dX10_w6_6 (fun H locs hP1 hm => ?_)
  refine lv_bipush (v := (8 : Int32)) hx hb dX10_w6_9 (by decide) ?_
  refine lv_lshl hx hb dX10_w6_11 rfl ?_
  refine lv_iload hx hb dX10_w6_12 (lv_at hl 5 rfl) ?_
  refine lv_i2l hx hb dX10_w6_14 rfl ?_
  refine lv_lor hx hb dX10_w6_15 ?_
  cases hf
  exact x_lret C hm trivial dX10_w6_16
/-! ColouredHeapModel.nameOf()I -/
theorem dX10_nameOf_0 : decode cX10_nameOf 0 = .ok (.aload_n 0, 1) := by decide +kernel
theorem dX10_nameOf_1 : decode cX10_nameOf 1 = .ok (.getfield 99, 3) := by decide +kernel
theorem dX10_nameOf_4 : decode cX10_nameOf 4 = .ok (.iconst 2, 1) := by decide +kernel
theorem dX10_nameOf_5 : decode cX10_nameOf 5 = .ok (.if_icmp .eq 5, 3) := by decide +kernel
theorem dX10_nameOf_8 : decode cX10_nameOf 8 = .ok (.iconst (-1), 1) := by decide +kernel
theorem dX10_nameOf_9 : decode cX10_nameOf 9 = .ok (.ireturn, 1) := by decide +kernel
theorem dX10_nameOf_10 : decode cX10_nameOf 10 = .ok (.aload_n 0, 1) := by decide +kernel
theorem dX10_nameOf_11 : decode cX10_nameOf 11 = .ok (.getfield 112, 3) := by decide +kernel
theorem dX10_nameOf_14 : decode cX10_nameOf 14 = .ok (.bipush 99, 2) := by decide +kernel
theorem dX10_nameOf_16 : decode cX10_nameOf 16 = .ok (.bipush 108, 2) := by decide +kernel
theorem dX10_nameOf_18 : decode cX10_nameOf 18 = .ok (.bipush 111, 2) := by decide +kernel
theorem dX10_nameOf_20 : decode cX10_nameOf 20 = .ok (.bipush 99, 2) := by decide +kernel
theorem dX10_nameOf_22 : decode cX10_nameOf 22 = .ok (.bipush 107, 2) := by decide +kernel
theorem dX10_nameOf_24 : decode cX10_nameOf 24 = .ok (.invokestatic 133, 3) := by decide +kernel
theorem dX10_nameOf_27 : decode cX10_nameOf 27 = .ok (.lcmp, 1) := by decide +kernel
theorem dX10_nameOf_28 : decode cX10_nameOf 28 = .ok (.ifCond .ne 5, 3) := by decide +kernel
theorem dX10_nameOf_31 : decode cX10_nameOf 31 = .ok (.iconst 0, 1) := by decide +kernel
theorem dX10_nameOf_32 : decode cX10_nameOf 32 = .ok (.ireturn, 1) := by decide +kernel
theorem dX10_nameOf_33 : decode cX10_nameOf 33 = .ok (.aload_n 0, 1) := by decide +kernel
theorem dX10_nameOf_34 : decode cX10_nameOf 34 = .ok (.getfield 112, 3) := by decide +kernel
theorem dX10_nameOf_37 : decode cX10_nameOf 37 = .ok (.bipush 112, 2) := by decide +kernel
theorem dX10_nameOf_39 : decode cX10_nameOf 39 = .ok (.bipush 104, 2) := by decide +kernel
theorem dX10_nameOf_41 : decode cX10_nameOf 41 = .ok (.bipush 97, 2) := by decide +kernel
theorem dX10_nameOf_43 : decode cX10_nameOf 43 = .ok (.bipush 115, 2) := by decide +kernel
theorem dX10_nameOf_45 : decode cX10_nameOf 45 = .ok (.bipush 101, 2) := by decide +kernel
theorem dX10_nameOf_47 : decode cX10_nameOf 47 = .ok (.invokestatic 133, 3) := by decide +kernel
theorem dX10_nameOf_50 : decode cX10_nameOf 50 = .ok (.lcmp, 1) := by decide +kernel
theorem dX10_nameOf_51 : decode cX10_nameOf 51 = .ok (.ifCond .ne 5, 3) := by decide +kernel
theorem dX10_nameOf_54 : decode cX10_nameOf 54 = .ok (.iconst 1, 1) := by decide +kernel
theorem dX10_nameOf_55 : decode cX10_nameOf 55 = .ok (.ireturn, 1) := by decide +kernel
theorem dX10_nameOf_56 : decode cX10_nameOf 56 = .ok (.aload_n 0, 1) := by decide +kernel
theorem dX10_nameOf_57 : decode cX10_nameOf 57 = .ok (.getfield 112, 3) := by decide +kernel
theorem dX10_nameOf_60 : decode cX10_nameOf 60 = .ok (.bipush 102, 2) := by decide +kernel
theorem dX10_nameOf_62 : decode cX10_nameOf 62 = .ok (.bipush 114, 2) := by decide +kernel
theorem dX10_nameOf_64 : decode cX10_nameOf 64 = .ok (.bipush 101, 2) := by decide +kernel
theorem dX10_nameOf_66 : decode cX10_nameOf 66 = .ok (.bipush 101, 2) := by decide +kernel
theorem dX10_nameOf_68 : decode cX10_nameOf 68 = .ok (.invokestatic 129, 3) := by decide +kernel
theorem dX10_nameOf_71 : decode cX10_nameOf 71 = .ok (.lcmp, 1) := by decide +kernel
theorem dX10_nameOf_72 : decode cX10_nameOf 72 = .ok (.ifCond .ne 5, 3) := by decide +kernel
theorem dX10_nameOf_75 : decode cX10_nameOf 75 = .ok (.iconst 2, 1) := by decide +kernel
theorem dX10_nameOf_76 : decode cX10_nameOf 76 = .ok (.ireturn, 1) := by decide +kernel
theorem dX10_nameOf_77 : decode cX10_nameOf 77 = .ok (.aload_n 0, 1) := by decide +kernel
theorem dX10_nameOf_78 : decode cX10_nameOf 78 = .ok (.getfield 112, 3) := by decide +kernel
theorem dX10_nameOf_81 : decode cX10_nameOf 81 = .ok (.bipush 115, 2) := by decide +kernel
theorem dX10_nameOf_83 : decode cX10_nameOf 83 = .ok (.bipush 116, 2) := by decide +kernel
theorem dX10_nameOf_85 : decode cX10_nameOf 85 = .ok (.bipush 97, 2) := by decide +kernel
theorem dX10_nameOf_87 : decode cX10_nameOf 87 = .ok (.bipush 99, 2) := by decide +kernel
theorem dX10_nameOf_89 : decode cX10_nameOf 89 = .ok (.bipush 107, 2) := by decide +kernel
theorem dX10_nameOf_91 : decode cX10_nameOf 91 = .ok (.invokestatic 133, 3) := by decide +kernel
theorem dX10_nameOf_94 : decode cX10_nameOf 94 = .ok (.lcmp, 1) := by decide +kernel
theorem dX10_nameOf_95 : decode cX10_nameOf 95 = .ok (.ifCond .ne 5, 3) := by decide +kernel
theorem dX10_nameOf_98 : decode cX10_nameOf 98 = .ok (.iconst 3, 1) := by decide +kernel
theorem dX10_nameOf_99 : decode cX10_nameOf 99 = .ok (.ireturn, 1) := by decide +kernel
theorem dX10_nameOf_100 : decode cX10_nameOf 100 = .ok (.aload_n 0, 1) := by decide +kernel
theorem dX10_nameOf_101 : decode cX10_nameOf 101 = .ok (.getfield 112, 3) := by decide +kernel
theorem dX10_nameOf_104 : decode cX10_nameOf 104 = .ok (.bipush 112, 2) := by decide +kernel
theorem dX10_nameOf_106 : decode cX10_nameOf 106 = .ok (.bipush 97, 2) := by decide +kernel
theorem dX10_nameOf_108 : decode cX10_nameOf 108 = .ok (.bipush 103, 2) := by decide +kernel
theorem dX10_nameOf_110 : decode cX10_nameOf 110 = .ok (.bipush 101, 2) := by decide +kernel
theorem dX10_nameOf_112 : decode cX10_nameOf 112 = .ok (.invokestatic 129, 3) := by decide +kernel
theorem dX10_nameOf_115 : decode cX10_nameOf 115 = .ok (.lcmp, 1) := by decide +kernel
theorem dX10_nameOf_116 : decode cX10_nameOf 116 = .ok (.ifCond .ne 5, 3) := by decide +kernel
theorem dX10_nameOf_119 : decode cX10_nameOf 119 = .ok (.iconst 4, 1) := by decide +kernel
theorem dX10_nameOf_120 : decode cX10_nameOf 120 = .ok (.ireturn, 1) := by decide +kernel
theorem dX10_nameOf_121 : decode cX10_nameOf 121 = .ok (.aload_n 0, 1) := by decide +kernel
theorem dX10_nameOf_122 : decode cX10_nameOf 122 = .ok (.getfield 112, 3) := by decide +kernel
theorem dX10_nameOf_125 : decode cX10_nameOf 125 = .ok (.bipush 108, 2) := by decide +kernel
theorem dX10_nameOf_127 : decode cX10_nameOf 127 = .ok (.bipush 105, 2) := by decide +kernel
theorem dX10_nameOf_129 : decode cX10_nameOf 129 = .ok (.bipush 118, 2) := by decide +kernel
theorem dX10_nameOf_131 : decode cX10_nameOf 131 = .ok (.bipush 101, 2) := by decide +kernel
theorem dX10_nameOf_133 : decode cX10_nameOf 133 = .ok (.bipush 115, 2) := by decide +kernel
theorem dX10_nameOf_135 : decode cX10_nameOf 135 = .ok (.invokestatic 133, 3) := by decide +kernel
theorem dX10_nameOf_138 : decode cX10_nameOf 138 = .ok (.lcmp, 1) := by decide +kernel
theorem dX10_nameOf_139 : decode cX10_nameOf 139 = .ok (.ifCond .ne 5, 3) := by decide +kernel
theorem dX10_nameOf_142 : decode cX10_nameOf 142 = .ok (.iconst 5, 1) := by decide +kernel
theorem dX10_nameOf_143 : decode cX10_nameOf 143 = .ok (.ireturn, 1) := by decide +kernel
theorem dX10_nameOf_144 : decode cX10_nameOf 144 = .ok (.aload_n 0, 1) := by decide +kernel
theorem dX10_nameOf_145 : decode cX10_nameOf 145 = .ok (.getfield 112, 3) := by decide +kernel
theorem dX10_nameOf_148 : decode cX10_nameOf 148 = .ok (.bipush 119, 2) := by decide +kernel
theorem dX10_nameOf_150 : decode cX10_nameOf 150 = .ok (.bipush 111, 2) := by decide +kernel
theorem dX10_nameOf_152 : decode cX10_nameOf 152 = .ok (.bipush 114, 2) := by decide +kernel
theorem dX10_nameOf_154 : decode cX10_nameOf 154 = .ok (.bipush 100, 2) := by decide +kernel
theorem dX10_nameOf_156 : decode cX10_nameOf 156 = .ok (.bipush 115, 2) := by decide +kernel
theorem dX10_nameOf_158 : decode cX10_nameOf 158 = .ok (.invokestatic 133, 3) := by decide +kernel
theorem dX10_nameOf_161 : decode cX10_nameOf 161 = .ok (.lcmp, 1) := by decide +kernel
theorem dX10_nameOf_162 : decode cX10_nameOf 162 = .ok (.ifCond .ne 8, 3) := by decide +kernel
theorem dX10_nameOf_165 : decode cX10_nameOf 165 = .ok (.bipush 6, 2) := by decide +kernel
theorem dX10_nameOf_167 : decode cX10_nameOf 167 = .ok (.goto 32, 3) := by decide +kernel
theorem dX10_nameOf_170 : decode cX10_nameOf 170 = .ok (.aload_n 0, 1) := by decide +kernel
theorem dX10_nameOf_171 : decode cX10_nameOf 171 = .ok (.getfield 112, 3) := by decide +kernel
theorem dX10_nameOf_174 : decode cX10_nameOf 174 = .ok (.bipush 102, 2) := by decide +kernel
theorem dX10_nameOf_176 : decode cX10_nameOf 176 = .ok (.bipush 105, 2) := by decide +kernel
theorem dX10_nameOf_178 : decode cX10_nameOf 178 = .ok (.bipush 101, 2) := by decide +kernel
theorem dX10_nameOf_180 : decode cX10_nameOf 180 = .ok (.bipush 108, 2) := by decide +kernel
theorem dX10_nameOf_182 : decode cX10_nameOf 182 = .ok (.bipush 100, 2) := by decide +kernel
theorem dX10_nameOf_184 : decode cX10_nameOf 184 = .ok (.bipush 115, 2) := by decide +kernel
theorem dX10_nameOf_186 : decode cX10_nameOf 186 = .ok (.invokestatic 143, 3) := by decide +kernel
theorem dX10_nameOf_189 : decode cX10_nameOf 189 = .ok (.lcmp, 1) := by decide +kernel
theorem dX10_nameOf_190 : decode cX10_nameOf 190 = .ok (.ifCond .ne 8, 3) := by decide +kernel
theorem dX10_nameOf_193 : decode cX10_nameOf 193 = .ok (.bipush 7, 2) := by decide +kernel
theorem dX10_nameOf_195 : decode cX10_nameOf 195 = .ok (.goto 4, 3) := by decide +kernel
theorem dX10_nameOf_198 : decode cX10_nameOf 198 = .ok (.iconst (-1), 1) := by decide +kernel
theorem dX10_nameOf_199 : decode cX10_nameOf 199 = .ok (.ireturn, 1) := by decide +kernel
def f_X10_nameOf (M : xm) (Lm : xn) : Int32 := (if (M 0 9) = (2 : Int32) then (if (lg_cmp (Lm 0 11) (f_X10_w5 (99 : Int32) (108 : Int32) (111 : Int32) (99 : Int32) (107 : Int32))) = 0 then (0 : Int32) else (if (lg_cmp (Lm 0 11) (f_X10_w5 (112 : Int32) (104 : Int32) (97 : Int32) (115 : Int32) (101 : Int32))) = 0 then (1 : Int32) else (if (lg_cmp (Lm 0 11) (f_X10_w4 (102 : Int32) (114 : Int32) (101 : Int32) (101 : Int32))) = 0 then (2 : Int32) else (if (lg_cmp (Lm 0 11) (f_X10_w5 (115 : Int32) (116 : Int32) (97 : Int32) (99 : Int32) (107 : Int32))) = 0 then (3 : Int32) else (if (lg_cmp (Lm 0 11) (f_X10_w4 (112 : Int32) (97 : Int32) (103 : Int32) (101 : Int32))) = 0 then (4 : Int32) else (if (lg_cmp (Lm 0 11) (f_X10_w5 (108 : Int32) (105 : Int32) (118 : Int32) (101 : Int32) (115 : Int32))) = 0 then (5 : Int32) else (if (lg_cmp (Lm 0 11) (f_X10_w5 (119 : Int32) (111 : Int32) (114 : Int32) (100 : Int32) (115 : Int32))) = 0 then (6 : Int32) else (if (lg_cmp (Lm 0 11) (f_X10_w6 (102 : Int32) (105 : Int32) (101 : Int32) (108 : Int32) (100 : Int32) (115 : Int32))) = 0 then (7 : Int32) else (-1 : Int32))))))))) else (-1 : Int32))
set_option maxHeartbeats 4000000 in
set_option maxRecDepth 20000 in
theorem c_X10_nameOf (l : Launch) (E : xE) (b : Nat) (M : xm) (Lm : xn) {r : Int32} (hf : f_X10_nameOf M Lm = r) :
    xMet l E b NY yX10_nameOf cX10_nameOf 1 (some .int) (xR 6) [.ref (b + 0)] (cY E b M Lm) (some (.int r)) True (cY E b M Lm) := by
  refine xMet.ofW (own := RX10) (by decide) rfl (Nat.le_of_ble_eq_true rfl) ?_
  intro p e s m below meth c H locs ls C hm hl
  have hx := C.1.1
  have hb := C.1.2.1
  have hl : lv_has ls 1 [(0, .ref (b + 0))] := hl
  unfold f_X10_nameOf at hf
  refine lv_aload_n hx hb dX10_nameOf_0 rfl (lv_at hl 0 rfl) ?_
  refine x_get C hm inX10 rfl 9 (by decide) tf_RX10_99 cy_0 rfl dX10_nameOf_1 ?_
  refine lv_iconst (v := (2 : Int32)) hx hb dX10_nameOf_4 (by decide) ?_
  refine lv_icmp_eq (tgt := 10) hx hb dX10_nameOf_5 (by decide) (fun hc1 => ?_) (fun hc1 => ?_)
  rotate_left
  · have hf := xif_f hc1 hf
    refine lv_iconst (v := (-1 : Int32)) hx hb dX10_nameOf_8 (by decide) ?_
    cases hf
    exact x_iret C hm trivial dX10_nameOf_9
  have hf := xif_t hc1 hf
  refine lv_aload_n hx hb dX10_nameOf_10 rfl (lv_at hl 0 rfl) ?_
  refine x_get C hm inX10 rfl 11 (by decide) tf_RX10_112 cy_0 rfl dX10_nameOf_11 ?_
  refine lv_bipush (v := (99 : Int32)) hx hb dX10_nameOf_14 (by decide) ?_
  refine lv_bipush (v := (108 : Int32)) hx hb dX10_nameOf_16 (by decide) ?_
  refine lv_bipush (v := (111 : Int32)) hx hb dX10_nameOf_18 (by decide) ?_
  refine lv_bipush (v := (99 : Int32)) hx hb dX10_nameOf_20 (by decide) ?_
  refine lv_bipush (v := (107 : Int32)) hx hb dX10_nameOf_22 (by decide) ?_
  refine x_callSl (As := [.int (99 : Int32), .int (108 : Int32), .int (111 : Int32), .int (99 : Int32), .int (107 : Int32)]) (rest := [.long (Lm 0 11)]) C hm (c_X10_w5 l E b M Lm (99 : Int32) (108 : Int32) (111 : Int32) (99 : Int32) (107 : Int32) rfl) tc_X10_w5 tm_RX10_133 tz_X10_w5 tn_RX10 td_X10_w5 rfl rfl ⟨Nat.le_of_ble_eq_true rfl, Nat.le_of_ble_eq_true rfl⟩ rfl hl.1 rfl (Nat.le_of_ble_eq_true rfl) ⟨Nat.zero_le _, Nat.zero_le _⟩ dX10_nameOf_24 (fun H locs hP2 hm => ?_)
  refine W.lcmp hx hb dX10_nameOf_27 ?_
  refine lv_if_ne (tgt := 33) hx hb dX10_nameOf_28 (by decide) (fun hc3 => ?_) (fun hc3 => ?_)
  rotate_left
  · have hf := xif_t hc3 hf
    refine lv_iconst (v := (0 : Int32)) hx hb dX10_nameOf_31 (by decide) ?_
    cases hf
    exact x_iret C hm trivial dX10_nameOf_32
  have hf := xif_f hc3 hf
  refine lv_aload_n hx hb dX10_nameOf_33 rfl (lv_at hl 0 rfl) ?_
  refine x_get C hm inX10 rfl 11 (by decide) tf_RX10_112 cy_0 rfl dX10_nameOf_34 ?_
  refine lv_bipush (v := (112 : Int32)) hx hb dX10_nameOf_37 (by decide) ?_
  refine lv_bipush (v := (104 : Int32)) hx hb dX10_nameOf_39 (by decide) ?_
  refine lv_bipush (v := (97 : Int32)) hx hb dX10_nameOf_41 (by decide) ?_
  refine lv_bipush (v := (115 : Int32)) hx hb dX10_nameOf_43 (by decide) ?_
  refine lv_bipush (v := (101 : Int32)) hx hb dX10_nameOf_45 (by decide) ?_
  refine x_callSl (As := [.int (112 : Int32), .int (104 : Int32), .int (97 : Int32), .int (115 : Int32), .int (101 : Int32)]) (rest := [.long (Lm 0 11)]) C hm (c_X10_w5 l E b M Lm (112 : Int32) (104 : Int32) (97 : Int32) (115 : Int32) (101 : Int32) rfl) tc_X10_w5 tm_RX10_133 tz_X10_w5 tn_RX10 td_X10_w5 rfl rfl ⟨Nat.le_of_ble_eq_true rfl, Nat.le_of_ble_eq_true rfl⟩ rfl hl.1 rfl (Nat.le_of_ble_eq_true rfl) ⟨Nat.zero_le _, Nat.zero_le _⟩ dX10_nameOf_47 (fun H locs hP4 hm => ?_)
  refine W.lcmp hx hb dX10_nameOf_50 ?_
  refine lv_if_ne (tgt := 56) hx hb dX10_nameOf_51 (by decide) (fun hc5 => ?_) (fun hc5 => ?_)
  rotate_left
  · have hf := xif_t hc5 hf
    refine lv_iconst (v := (1 : Int32)) hx hb dX10_nameOf_54 (by decide) ?_
    cases hf
    exact x_iret C hm trivial dX10_nameOf_55
  have hf := xif_f hc5 hf
  refine lv_aload_n hx hb dX10_nameOf_56 rfl (lv_at hl 0 rfl) ?_
  refine x_get C hm inX10 rfl 11 (by decide) tf_RX10_112 cy_0 rfl dX10_nameOf_57 ?_
  refine lv_bipush (v := (102 : Int32)) hx hb dX10_nameOf_60 (by decide) ?_
  refine lv_bipush (v := (114 : Int32)) hx hb dX10_nameOf_62 (by decide) ?_
  refine lv_bipush (v := (101 : Int32)) hx hb dX10_nameOf_64 (by decide) ?_
  refine lv_bipush (v := (101 : Int32)) hx hb dX10_nameOf_66 (by decide) ?_
  refine x_callSl (As := [.int (102 : Int32), .int (114 : Int32), .int (101 : Int32), .int (101 : Int32)]) (rest := [.long (Lm 0 11)]) C hm (c_X10_w4 l E b M Lm (102 : Int32) (114 : Int32) (101 : Int32) (101 : Int32) rfl) tc_X10_w4 tm_RX10_129 tz_X10_w4 tn_RX10 td_X10_w4 rfl rfl ⟨Nat.le_of_ble_eq_true rfl, Nat.le_of_ble_eq_true rfl⟩ rfl hl.1 rfl (Nat.le_of_ble_eq_true rfl) ⟨Nat.zero_le _, Nat.zero_le _⟩ dX10_nameOf_68 (fun H locs hP6 hm => ?_)
  refine W.lcmp hx hb dX10_nameOf_71 ?_
  refine lv_if_ne (tgt := 77) hx hb dX10_nameOf_72 (by decide) (fun hc7 => ?_) (fun hc7 => ?_)
  rotate_left
  · have hf := xif_t hc7 hf
    refine lv_iconst (v := (2 : Int32)) hx hb dX10_nameOf_75 (by decide) ?_
    cases hf
    exact x_iret C hm trivial dX10_nameOf_76
  have hf := xif_f hc7 hf
  refine lv_aload_n hx hb dX10_nameOf_77 rfl (lv_at hl 0 rfl) ?_
  refine x_get C hm inX10 rfl 11 (by decide) tf_RX10_112 cy_0 rfl dX10_nameOf_78 ?_
  refine lv_bipush (v := (115 : Int32)) hx hb dX10_nameOf_81 (by decide) ?_
  refine lv_bipush (v := (116 : Int32)) hx hb dX10_nameOf_83 (by decide) ?_
  refine lv_bipush (v := (97 : Int32)) hx hb dX10_nameOf_85 (by decide) ?_
  refine lv_bipush (v := (99 : Int32)) hx hb dX10_nameOf_87 (by decide) ?_
  refine lv_bipush (v := (107 : Int32)) hx hb dX10_nameOf_89 (by decide) ?_
  refine x_callSl (As := [.int (115 : Int32), .int (116 : Int32), .int (97 : Int32), .int (99 : Int32), .int (107 : Int32)]) (rest := [.long (Lm 0 11)]) C hm (c_X10_w5 l E b M Lm (115 : Int32) (116 : Int32) (97 : Int32) (99 : Int32) (107 : Int32) rfl) tc_X10_w5 tm_RX10_133 tz_X10_w5 tn_RX10 td_X10_w5 rfl rfl ⟨Nat.le_of_ble_eq_true rfl, Nat.le_of_ble_eq_true rfl⟩ rfl hl.1 rfl (Nat.le_of_ble_eq_true rfl) ⟨Nat.zero_le _, Nat.zero_le _⟩ dX10_nameOf_91 (fun H locs hP8 hm => ?_)
  refine W.lcmp hx hb dX10_nameOf_94 ?_
  refine lv_if_ne (tgt := 100) hx hb dX10_nameOf_95 (by decide) (fun hc9 => ?_) (fun hc9 => ?_)
  rotate_left
  · have hf := xif_t hc9 hf
    refine lv_iconst (v := (3 : Int32)) hx hb dX10_nameOf_98 (by decide) ?_
    cases hf
    exact x_iret C hm trivial dX10_nameOf_99
  have hf := xif_f hc9 hf
  refine lv_aload_n hx hb dX10_nameOf_100 rfl (lv_at hl 0 rfl) ?_
  refine x_get C hm inX10 rfl 11 (by decide) tf_RX10_112 cy_0 rfl dX10_nameOf_101 ?_
  refine lv_bipush (v := (112 : Int32)) hx hb dX10_nameOf_104 (by decide) ?_
  refine lv_bipush (v := (97 : Int32)) hx hb dX10_nameOf_106 (by decide) ?_
  refine lv_bipush (v := (103 : Int32)) hx hb dX10_nameOf_108 (by decide) ?_
  refine lv_bipush (v := (101 : Int32)) hx hb dX10_nameOf_110 (by decide) ?_
  refine x_callSl (As := [.int (112 : Int32), .int (97 : Int32), .int (103 : Int32), .int (101 : Int32)]) (rest := [.long (Lm 0 11)]) C hm (c_X10_w4 l E b M Lm (112 : Int32) (97 : Int32) (103 : Int32) (101 : Int32) rfl) tc_X10_w4 tm_RX10_129 tz_X10_w4 tn_RX10 td_X10_w4 rfl rfl ⟨Nat.le_of_ble_eq_true rfl, Nat.le_of_ble_eq_true rfl⟩ rfl hl.1 rfl (Nat.le_of_ble_eq_true rfl) ⟨Nat.zero_le _, Nat.zero_le _⟩ dX10_nameOf_112 (fun H locs hP10 hm => ?_)
  refine W.lcmp hx hb dX10_nameOf_115 ?_
  refine lv_if_ne (tgt := 121) hx hb dX10_nameOf_116 (by decide) (fun hc11 => ?_) (fun hc11 => ?_)
  rotate_left
  · have hf := xif_t hc11 hf
    refine lv_iconst (v := (4 : Int32)) hx hb dX10_nameOf_119 (by decide) ?_
    cases hf
    exact x_iret C hm trivial dX10_nameOf_120
  have hf := xif_f hc11 hf
  refine lv_aload_n hx hb dX10_nameOf_121 rfl (lv_at hl 0 rfl) ?_
  refine x_get C hm inX10 rfl 11 (by decide) tf_RX10_112 cy_0 rfl dX10_nameOf_122 ?_
  refine lv_bipush (v := (108 : Int32)) hx hb dX10_nameOf_125 (by decide) ?_
  refine lv_bipush (v := (105 : Int32)) hx hb dX10_nameOf_127 (by decide) ?_
  refine lv_bipush (v := (118 : Int32)) hx hb dX10_nameOf_129 (by decide) ?_
  refine lv_bipush (v := (101 : Int32)) hx hb dX10_nameOf_131 (by decide) ?_
  refine lv_bipush (v := (115 : Int32)) hx hb dX10_nameOf_133 (by decide) ?_
  refine x_callSl (As := [.int (108 : Int32), .int (105 : Int32), .int (118 : Int32), .int (101 : Int32), .int (115 : Int32)]) (rest := [.long (Lm 0 11)]) C hm (c_X10_w5 l E b M Lm (108 : Int32) (105 : Int32) (118 : Int32) (101 : Int32) (115 : Int32) rfl) tc_X10_w5 tm_RX10_133 tz_X10_w5 tn_RX10 td_X10_w5 rfl rfl ⟨Nat.le_of_ble_eq_true rfl, Nat.le_of_ble_eq_true rfl⟩ rfl hl.1 rfl (Nat.le_of_ble_eq_true rfl) ⟨Nat.zero_le _, Nat.zero_le _⟩ dX10_nameOf_135 (fun H locs hP12 hm => ?_)
  refine W.lcmp hx hb dX10_nameOf_138 ?_
  refine lv_if_ne (tgt := 144) hx hb dX10_nameOf_139 (by decide) (fun hc13 => ?_) (fun hc13 => ?_)
  rotate_left
  · have hf := xif_t hc13 hf
    refine lv_iconst (v := (5 : Int32)) hx hb dX10_nameOf_142 (by decide) ?_
    cases hf
    exact x_iret C hm trivial dX10_nameOf_143
  have hf := xif_f hc13 hf
  refine lv_aload_n hx hb dX10_nameOf_144 rfl (lv_at hl 0 rfl) ?_
  refine x_get C hm inX10 rfl 11 (by decide) tf_RX10_112 cy_0 rfl dX10_nameOf_145 ?_
  refine lv_bipush (v := (119 : Int32)) hx hb dX10_nameOf_148 (by decide) ?_
  refine lv_bipush (v := (111 : Int32)) hx hb dX10_nameOf_150 (by decide) ?_
  refine lv_bipush (v := (114 : Int32)) hx hb dX10_nameOf_152 (by decide) ?_
  refine lv_bipush (v := (100 : Int32)) hx hb dX10_nameOf_154 (by decide) ?_
  refine lv_bipush (v := (115 : Int32)) hx hb dX10_nameOf_156 (by decide) ?_
  refine x_callSl (As := [.int (119 : Int32), .int (111 : Int32), .int (114 : Int32), .int (100 : Int32), .int (115 : Int32)]) (rest := [.long (Lm 0 11)]) C hm (c_X10_w5 l E b M Lm (119 : Int32) (111 : Int32) (114 : Int32) (100 : Int32) (115 : Int32) rfl) tc_X10_w5 tm_RX10_133 tz_X10_w5 tn_RX10 td_X10_w5 rfl rfl ⟨Nat.le_of_ble_eq_true rfl, Nat.le_of_ble_eq_true rfl⟩ rfl hl.1 rfl (Nat.le_of_ble_eq_true rfl) ⟨Nat.zero_le _, Nat.zero_le _⟩ dX10_nameOf_158 (fun H locs hP14 hm => ?_)
  refine W.lcmp hx hb dX10_nameOf_161 ?_
  refine lv_if_ne (tgt := 170) hx hb dX10_nameOf_162 (by decide) (fun hc15 => ?_) (fun hc15 => ?_)
  rotate_left
  · have hf := xif_t hc15 hf
    refine lv_bipush (v := (6 : Int32)) hx hb dX10_nameOf_165 (by decide) ?_
    refine lv_goto (tgt := 199) hx hb dX10_nameOf_167 (by decide) ?_
    cases hf
    exact x_iret C hm trivial dX10_nameOf_199
  have hf := xif_f hc15 hf
  refine lv_aload_n hx hb dX10_nameOf_170 rfl (lv_at hl 0 rfl) ?_
  refine x_get C hm inX10 rfl 11 (by decide) tf_RX10_112 cy_0 rfl dX10_nameOf_171 ?_
  refine lv_bipush (v := (102 : Int32)) hx hb dX10_nameOf_174 (by decide) ?_
  refine lv_bipush (v := (105 : Int32)) hx hb dX10_nameOf_176 (by decide) ?_
  refine lv_bipush (v := (101 : Int32)) hx hb dX10_nameOf_178 (by decide) ?_
  refine lv_bipush (v := (108 : Int32)) hx hb dX10_nameOf_180 (by decide) ?_
  refine lv_bipush (v := (100 : Int32)) hx hb dX10_nameOf_182 (by decide) ?_
  refine lv_bipush (v := (115 : Int32)) hx hb dX10_nameOf_184 (by decide) ?_
  refine x_callSl (As := [.int (102 : Int32), .int (105 : Int32), .int (101 : Int32), .int (108 : Int32), .int (100 : Int32), .int (115 : Int32)]) (rest := [.long (Lm 0 11)]) C hm (c_X10_w6 l E b M Lm (102 : Int32) (105 : Int32) (101 : Int32) (108 : Int32) (100 : Int32) (115 : Int32) rfl) tc_X10_w6 tm_RX10_143 tz_X10_w6 tn_RX10 td_X10_w6 rfl rfl ⟨Nat.le_of_ble_eq_true rfl, Nat.le_of_ble_eq_true rfl⟩ rfl hl.1 rfl (Nat.le_of_ble_eq_true rfl) ⟨Nat.zero_le _, Nat.zero_le _⟩ dX10_nameOf_186 (fun H locs hP16 hm => ?_)
  refine W.lcmp hx hb dX10_nameOf_189 ?_
  refine lv_if_ne (tgt := 198) hx hb dX10_nameOf_190 (by decide) (fun hc17 => ?_) (fun hc17 => ?_)
  · have hf := xif_f hc17 hf
    refine lv_iconst (v := (-1 : Int32)) hx hb dX10_nameOf_198 (by decide) ?_
    cases hf
    exact x_iret C hm trivial dX10_nameOf_199
  have hf := xif_t hc17 hf
  refine lv_bipush (v := (7 : Int32)) hx hb dX10_nameOf_193 (by decide) ?_
  refine lv_goto (tgt := 199) hx hb dX10_nameOf_195 (by decide) ?_
  cases hf
  exact x_iret C hm trivial dX10_nameOf_199
/-! ColouredHeapModel.byteAt(I)I -/
theorem dX10_byteAt_0 : decode cX10_byteAt 0 = .ok (.iload_n 1, 1) := by decide +kernel
theorem dX10_byteAt_1 : decode cX10_byteAt 1 = .ok (.aload_n 0, 1) := by decide +kernel
theorem dX10_byteAt_2 : decode cX10_byteAt 2 = .ok (.getfield 83, 3) := by decide +kernel
theorem dX10_byteAt_5 : decode cX10_byteAt 5 = .ok (.if_icmp .ge 12, 3) := by decide +kernel
theorem dX10_byteAt_8 : decode cX10_byteAt 8 = .ok (.aload_n 0, 1) := by decide +kernel
theorem dX10_byteAt_9 : decode cX10_byteAt 9 = .ok (.getfield 19, 3) := by decide +kernel
theorem dX10_byteAt_12 : decode cX10_byteAt 12 = .ok (.iload_n 1, 1) := by decide +kernel
theorem dX10_byteAt_13 : decode cX10_byteAt 13 = .ok (.iaload, 1) := by decide +kernel
theorem dX10_byteAt_14 : decode cX10_byteAt 14 = .ok (.goto 4, 3) := by decide +kernel
theorem dX10_byteAt_17 : decode cX10_byteAt 17 = .ok (.iconst (-1), 1) := by decide +kernel
theorem dX10_byteAt_18 : decode cX10_byteAt 18 = .ok (.ireturn, 1) := by decide +kernel
def f_X10_byteAt (M : xm) (a1 : Int32) : Option (Int32) := (if (M 0 4) ≤ a1 then some (-1 : Int32) else if xin a1 300 = true then some (M 4 (Int32.toNatClampNeg a1)) else none)
set_option maxHeartbeats 4000000 in
set_option maxRecDepth 20000 in
theorem c_X10_byteAt (l : Launch) (E : xE) (b : Nat) (M : xm) (Lm : xn) (a1 : Int32) {r : Int32} (hf : f_X10_byteAt M a1 = some r) :
    xMet l E b NY yX10_byteAt cX10_byteAt 2 (some .int) (xR 1) [.ref (b + 0), .int a1] (cY E b M Lm) (some (.int r)) True (cY E b M Lm) := by
  refine xMet.ofW (own := RX10) (by decide) rfl (Nat.le_of_ble_eq_true rfl) ?_
  intro p e s m below meth c H locs ls C hm hl
  have hx := C.1.1
  have hb := C.1.2.1
  have hl : lv_has ls 2 [(0, .ref (b + 0)), (1, .int a1)] := hl
  unfold f_X10_byteAt at hf
  refine lv_iload_n hx hb dX10_byteAt_0 rfl (lv_at hl 1 rfl) ?_
  refine lv_aload_n hx hb dX10_byteAt_1 rfl (lv_at hl 0 rfl) ?_
  refine x_get C hm inX10 rfl 4 (by decide) tf_RX10_83 cy_0 rfl dX10_byteAt_2 ?_
  refine lv_icmp_ge (tgt := 17) hx hb dX10_byteAt_5 (by decide) (fun hc1 => ?_) (fun hc1 => ?_)
  · have hf := xif_t hc1 hf
    refine lv_iconst (v := (-1 : Int32)) hx hb dX10_byteAt_17 (by decide) ?_
    cases hf
    exact x_iret C hm trivial dX10_byteAt_18
  have hf := xif_f hc1 hf
  refine lv_aload_n hx hb dX10_byteAt_8 rfl (lv_at hl 0 rfl) ?_
  refine x_get C hm inX10 rfl 3 (by decide) tf_RX10_19 cy_0 rfl dX10_byteAt_9 ?_
  refine lv_iload_n hx hb dX10_byteAt_12 rfl (lv_at hl 1 rfl) ?_
  obtain ⟨hi2, hf⟩ := xif_s hf
  refine x_iald (j := (Int32.toNatClampNeg a1)) C hm cy_4 hi2 dX10_byteAt_13 rfl ?_
  refine lv_goto (tgt := 18) hx hb dX10_byteAt_14 (by decide) ?_
  cases hf
  exact x_iret C hm trivial dX10_byteAt_18
/-! ColouredHeapModel.isFigure(I)Z -/
theorem dX10_isFigure_0 : decode cX10_isFigure 0 = .ok (.iload_n 0, 1) := by decide +kernel
theorem dX10_isFigure_1 : decode cX10_isFigure 1 = .ok (.bipush 48, 2) := by decide +kernel
theorem dX10_isFigure_3 : decode cX10_isFigure 3 = .ok (.if_icmp .lt 13, 3) := by decide +kernel
theorem dX10_isFigure_6 : decode cX10_isFigure 6 = .ok (.iload_n 0, 1) := by decide +kernel
theorem dX10_isFigure_7 : decode cX10_isFigure 7 = .ok (.bipush 57, 2) := by decide +kernel
theorem dX10_isFigure_9 : decode cX10_isFigure 9 = .ok (.if_icmp .gt 7, 3) := by decide +kernel
theorem dX10_isFigure_12 : decode cX10_isFigure 12 = .ok (.iconst 1, 1) := by decide +kernel
theorem dX10_isFigure_13 : decode cX10_isFigure 13 = .ok (.goto 4, 3) := by decide +kernel
theorem dX10_isFigure_16 : decode cX10_isFigure 16 = .ok (.iconst 0, 1) := by decide +kernel
theorem dX10_isFigure_17 : decode cX10_isFigure 17 = .ok (.ireturn, 1) := by decide +kernel
def f_X10_isFigure (a0 : Int32) : Int32 := (if a0 < (48 : Int32) then (0 : Int32) else (if (57 : Int32) < a0 then (0 : Int32) else (1 : Int32)))
set_option maxHeartbeats 4000000 in
set_option maxRecDepth 20000 in
theorem c_X10_isFigure (l : Launch) (E : xE) (b : Nat) (M : xm) (Lm : xn) (a0 : Int32) {r : Int32} (hf : f_X10_isFigure a0 = r) :
    xMet l E b NY yX10_isFigure cX10_isFigure 1 (some .boolean) (xR 1) [.int a0] (cY E b M Lm) (some (.int r)) (xbo r = true) (cY E b M Lm) := by
  refine xMet.ofW (own := RX10) (by decide) rfl (Nat.le_of_ble_eq_true rfl) ?_
  intro p e s m below meth c H locs ls C hm hl
  have hx := C.1.1
  have hb := C.1.2.1
  have hl : lv_has ls 1 [(0, .int a0)] := hl
  unfold f_X10_isFigure at hf
  refine lv_iload_n hx hb dX10_isFigure_0 rfl (lv_at hl 0 rfl) ?_
  refine lv_bipush (v := (48 : Int32)) hx hb dX10_isFigure_1 (by decide) ?_
  refine lv_icmp_lt (tgt := 16) hx hb dX10_isFigure_3 (by decide) (fun hc1 => ?_) (fun hc1 => ?_)
  · have hf := xif_t hc1 hf
    refine lv_iconst (v := (0 : Int32)) hx hb dX10_isFigure_16 (by decide) ?_
    cases hf
    exact x_zret C hm (by decide) (by decide) dX10_isFigure_17
  have hf := xif_f hc1 hf
  refine lv_iload_n hx hb dX10_isFigure_6 rfl (lv_at hl 0 rfl) ?_
  refine lv_bipush (v := (57 : Int32)) hx hb dX10_isFigure_7 (by decide) ?_
  refine lv_icmp_gt (tgt := 16) hx hb dX10_isFigure_9 (by decide) (fun hc2 => ?_) (fun hc2 => ?_)
  · have hf := xif_t hc2 hf
    refine lv_iconst (v := (0 : Int32)) hx hb dX10_isFigure_16 (by decide) ?_
    cases hf
    exact x_zret C hm (by decide) (by decide) dX10_isFigure_17
  have hf := xif_f hc2 hf
  refine lv_iconst (v := (1 : Int32)) hx hb dX10_isFigure_12 (by decide) ?_
  refine lv_goto (tgt := 17) hx hb dX10_isFigure_13 (by decide) ?_
  cases hf
  exact x_zret C hm (by decide) (by decide) dX10_isFigure_17
/-! ColouredHeapModel.isLetterByte(I)Z -/
theorem dX10_isLetterByte_0 : decode cX10_isLetterByte 0 = .ok (.iload_n 0, 1) := by decide +kernel
theorem dX10_isLetterByte_1 : decode cX10_isLetterByte 1 = .ok (.bipush 97, 2) := by decide +kernel
theorem dX10_isLetterByte_3 : decode cX10_isLetterByte 3 = .ok (.if_icmp .lt 9, 3) := by decide +kernel
theorem dX10_isLetterByte_6 : decode cX10_isLetterByte 6 = .ok (.iload_n 0, 1) := by decide +kernel
theorem dX10_isLetterByte_7 : decode cX10_isLetterByte 7 = .ok (.bipush 122, 2) := by decide +kernel
theorem dX10_isLetterByte_9 : decode cX10_isLetterByte 9 = .ok (.if_icmp .le 15, 3) := by decide +kernel
theorem dX10_isLetterByte_12 : decode cX10_isLetterByte 12 = .ok (.iload_n 0, 1) := by decide +kernel
theorem dX10_isLetterByte_13 : decode cX10_isLetterByte 13 = .ok (.bipush 65, 2) := by decide +kernel
theorem dX10_isLetterByte_15 : decode cX10_isLetterByte 15 = .ok (.if_icmp .lt 13, 3) := by decide +kernel
theorem dX10_isLetterByte_18 : decode cX10_isLetterByte 18 = .ok (.iload_n 0, 1) := by decide +kernel
theorem dX10_isLetterByte_19 : decode cX10_isLetterByte 19 = .ok (.bipush 90, 2) := by decide +kernel
theorem dX10_isLetterByte_21 : decode cX10_isLetterByte 21 = .ok (.if_icmp .gt 7, 3) := by decide +kernel
theorem dX10_isLetterByte_24 : decode cX10_isLetterByte 24 = .ok (.iconst 1, 1) := by decide +kernel
theorem dX10_isLetterByte_25 : decode cX10_isLetterByte 25 = .ok (.goto 4, 3) := by decide +kernel
theorem dX10_isLetterByte_28 : decode cX10_isLetterByte 28 = .ok (.iconst 0, 1) := by decide +kernel
theorem dX10_isLetterByte_29 : decode cX10_isLetterByte 29 = .ok (.ireturn, 1) := by decide +kernel
def f_X10_isLetterByte (a0 : Int32) : Int32 := xlet ((if a0 < (65 : Int32) then (0 : Int32) else (if (90 : Int32) < a0 then (0 : Int32) else (1 : Int32)))) (fun k1 => (if a0 < (97 : Int32) then k1 else (if a0 ≤ (122 : Int32) then (1 : Int32) else k1)))
set_option maxHeartbeats 4000000 in
set_option maxRecDepth 20000 in
theorem c_X10_isLetterByte (l : Launch) (E : xE) (b : Nat) (M : xm) (Lm : xn) (a0 : Int32) {r : Int32} (hf : f_X10_isLetterByte a0 = r) :
    xMet l E b NY yX10_isLetterByte cX10_isLetterByte 1 (some .boolean) (xR 1) [.int a0] (cY E b M Lm) (some (.int r)) (xbo r = true) (cY E b M Lm) := by
  refine xMet.ofW (own := RX10) (by decide) rfl (Nat.le_of_ble_eq_true rfl) ?_
  intro p e s m below meth c H locs ls C hm hl
  have hx := C.1.1
  have hb := C.1.2.1
  have hl : lv_has ls 1 [(0, .int a0)] := hl
  unfold f_X10_isLetterByte at hf
  refine lv_iload_n hx hb dX10_isLetterByte_0 rfl (lv_at hl 0 rfl) ?_
  refine lv_bipush (v := (97 : Int32)) hx hb dX10_isLetterByte_1 (by decide) ?_
  obtain ⟨k1, ek1, hf⟩ := xlet_x hf
  have jk1 : ∀  (H : Heap) (locs : List Loc) (ls : Array Slot), k1 = r → xM E b NY (cY E b M Lm) s.heap H locs → lv_has ls 1 [(0, .int a0)] → W p l e (xR 1) s m ([.int a0] : List Value).toArray below meth c H locs 0 0 (MQ below (xQ E b NY (some (.int r)) (xbo r = true) (cY E b M Lm)) ([.int a0] : List Value).toArray s 0 0 (xA b NY)) (F0 m 12 ls []) := by
    intro  H locs ls hf hm hl
    have hf := xap0 ek1 hf
    refine lv_iload_n hx hb dX10_isLetterByte_12 rfl (lv_at hl 0 rfl) ?_
    refine lv_bipush (v := (65 : Int32)) hx hb dX10_isLetterByte_13 (by decide) ?_
    refine lv_icmp_lt (tgt := 28) hx hb dX10_isLetterByte_15 (by decide) (fun hc2 => ?_) (fun hc2 => ?_)
    · have hf := xif_t hc2 hf
      refine lv_iconst (v := (0 : Int32)) hx hb dX10_isLetterByte_28 (by decide) ?_
      cases hf
      exact x_zret C hm (by decide) (by decide) dX10_isLetterByte_29
    have hf := xif_f hc2 hf
    refine lv_iload_n hx hb dX10_isLetterByte_18 rfl (lv_at hl 0 rfl) ?_
    refine lv_bipush (v := (90 : Int32)) hx hb dX10_isLetterByte_19 (by decide) ?_
    refine lv_icmp_gt (tgt := 28) hx hb dX10_isLetterByte_21 (by decide) (fun hc3 => ?_) (fun hc3 => ?_)
    · have hf := xif_t hc3 hf
      refine lv_iconst (v := (0 : Int32)) hx hb dX10_isLetterByte_28 (by decide) ?_
      cases hf
      exact x_zret C hm (by decide) (by decide) dX10_isLetterByte_29
    have hf := xif_f hc3 hf
    refine lv_iconst (v := (1 : Int32)) hx hb dX10_isLetterByte_24 (by decide) ?_
    refine lv_goto (tgt := 29) hx hb dX10_isLetterByte_25 (by decide) ?_
    cases hf
    exact x_zret C hm (by decide) (by decide) dX10_isLetterByte_29
  refine lv_icmp_lt (tgt := 12) hx hb dX10_isLetterByte_3 (by decide) (fun hc4 => ?_) (fun hc4 => ?_)
  · have hf := xif_t hc4 hf
    exact jk1  H locs ls  hf hm (lv_sub hl [0] rfl)
  have hf := xif_f hc4 hf
  refine lv_iload_n hx hb dX10_isLetterByte_6 rfl (lv_at hl 0 rfl) ?_
  refine lv_bipush (v := (122 : Int32)) hx hb dX10_isLetterByte_7 (by decide) ?_
  refine lv_icmp_le (tgt := 24) hx hb dX10_isLetterByte_9 (by decide) (fun hc5 => ?_) (fun hc5 => ?_)
  rotate_left
  · have hf := xif_f hc5 hf
    exact jk1  H locs ls  hf hm (lv_sub hl [0] rfl)
  have hf := xif_t hc5 hf
  refine lv_iconst (v := (1 : Int32)) hx hb dX10_isLetterByte_24 (by decide) ?_
  refine lv_goto (tgt := 29) hx hb dX10_isLetterByte_25 (by decide) ?_
  cases hf
  exact x_zret C hm (by decide) (by decide) dX10_isLetterByte_29
/-! ColouredHeapModel.isSign(I)Z -/
theorem dX10_isSign_0 : decode cX10_isSign 0 = .ok (.iload_n 0, 1) := by decide +kernel
theorem dX10_isSign_1 : decode cX10_isSign 1 = .ok (.tableswitch 129 35 62 #[127, 129, 129, 129, 129, 127, 127, 127, 127, 129, 127, 129, 127, 129, 129, 129, 129, 129, 129, 129, 129, 129, 129, 127, 127, 127, 127, 127], 127) := by decide +kernel
theorem dX10_isSign_128 : decode cX10_isSign 128 = .ok (.iconst 1, 1) := by decide +kernel
theorem dX10_isSign_129 : decode cX10_isSign 129 = .ok (.ireturn, 1) := by decide +kernel
theorem dX10_isSign_130 : decode cX10_isSign 130 = .ok (.iconst 0, 1) := by decide +kernel
theorem dX10_isSign_131 : decode cX10_isSign 131 = .ok (.ireturn, 1) := by decide +kernel
def f_X10_isSign (a0 : Int32) : Int32 := (if a0 = (35 : Int32) then (1 : Int32) else (if a0 = (36 : Int32) then (0 : Int32) else (if a0 = (37 : Int32) then (0 : Int32) else (if a0 = (38 : Int32) then (0 : Int32) else (if a0 = (39 : Int32) then (0 : Int32) else (if a0 = (40 : Int32) then (1 : Int32) else (if a0 = (41 : Int32) then (1 : Int32) else (if a0 = (42 : Int32) then (1 : Int32) else (if a0 = (43 : Int32) then (1 : Int32) else (if a0 = (44 : Int32) then (0 : Int32) else (if a0 = (45 : Int32) then (1 : Int32) else (if a0 = (46 : Int32) then (0 : Int32) else (if a0 = (47 : Int32) then (1 : Int32) else (if a0 = (48 : Int32) then (0 : Int32) else (if a0 = (49 : Int32) then (0 : Int32) else (if a0 = (50 : Int32) then (0 : Int32) else (if a0 = (51 : Int32) then (0 : Int32) else (if a0 = (52 : Int32) then (0 : Int32) else (if a0 = (53 : Int32) then (0 : Int32) else (if a0 = (54 : Int32) then (0 : Int32) else (if a0 = (55 : Int32) then (0 : Int32) else (if a0 = (56 : Int32) then (0 : Int32) else (if a0 = (57 : Int32) then (0 : Int32) else (if a0 = (58 : Int32) then (1 : Int32) else (if a0 = (59 : Int32) then (1 : Int32) else (if a0 = (60 : Int32) then (1 : Int32) else (if a0 = (61 : Int32) then (1 : Int32) else (if a0 = (62 : Int32) then (1 : Int32) else (0 : Int32)))))))))))))))))))))))))))))
set_option maxHeartbeats 4000000 in
set_option maxRecDepth 20000 in
theorem c_X10_isSign (l : Launch) (E : xE) (b : Nat) (M : xm) (Lm : xn) (a0 : Int32) {r : Int32} (hf : f_X10_isSign a0 = r) :
    xMet l E b NY yX10_isSign cX10_isSign 1 (some .boolean) (xR 1) [.int a0] (cY E b M Lm) (some (.int r)) (xbo r = true) (cY E b M Lm) := by
  refine xMet.ofW (own := RX10) (by decide) rfl (Nat.le_of_ble_eq_true rfl) ?_
  intro p e s m below meth c H locs ls C hm hl
  have hx := C.1.1
  have hb := C.1.2.1
  have hl : lv_has ls 1 [(0, .int a0)] := hl
  unfold f_X10_isSign at hf
  refine lv_iload_n hx hb dX10_isSign_0 rfl (lv_at hl 0 rfl) ?_
  by_cases hs1 : a0 = (35 : Int32)
  · have hf := xif_t hs1 hf
    refine x_tabIn (tgt := 128) hx hb (35 : Int32) hs1 dX10_isSign_1 (by decide) (by decide) rfl (by decide) ?_
    refine lv_iconst (v := (1 : Int32)) hx hb dX10_isSign_128 (by decide) ?_
    cases hf
    exact x_zret C hm (by decide) (by decide) dX10_isSign_129
  have hf := xif_f hs1 hf
  by_cases hs2 : a0 = (36 : Int32)
  · have hf := xif_t hs2 hf
    refine x_tabIn (tgt := 130) hx hb (36 : Int32) hs2 dX10_isSign_1 (by decide) (by decide) rfl (by decide) ?_
    refine lv_iconst (v := (0 : Int32)) hx hb dX10_isSign_130 (by decide) ?_
    cases hf
    exact x_zret C hm (by decide) (by decide) dX10_isSign_131
  have hf := xif_f hs2 hf
  by_cases hs3 : a0 = (37 : Int32)
  · have hf := xif_t hs3 hf
    refine x_tabIn (tgt := 130) hx hb (37 : Int32) hs3 dX10_isSign_1 (by decide) (by decide) rfl (by decide) ?_
    refine lv_iconst (v := (0 : Int32)) hx hb dX10_isSign_130 (by decide) ?_
    cases hf
    exact x_zret C hm (by decide) (by decide) dX10_isSign_131
  have hf := xif_f hs3 hf
  by_cases hs4 : a0 = (38 : Int32)
  · have hf := xif_t hs4 hf
    refine x_tabIn (tgt := 130) hx hb (38 : Int32) hs4 dX10_isSign_1 (by decide) (by decide) rfl (by decide) ?_
    refine lv_iconst (v := (0 : Int32)) hx hb dX10_isSign_130 (by decide) ?_
    cases hf
    exact x_zret C hm (by decide) (by decide) dX10_isSign_131
  have hf := xif_f hs4 hf
  by_cases hs5 : a0 = (39 : Int32)
  · have hf := xif_t hs5 hf
    refine x_tabIn (tgt := 130) hx hb (39 : Int32) hs5 dX10_isSign_1 (by decide) (by decide) rfl (by decide) ?_
    refine lv_iconst (v := (0 : Int32)) hx hb dX10_isSign_130 (by decide) ?_
    cases hf
    exact x_zret C hm (by decide) (by decide) dX10_isSign_131
  have hf := xif_f hs5 hf
  by_cases hs6 : a0 = (40 : Int32)
  · have hf := xif_t hs6 hf
    refine x_tabIn (tgt := 128) hx hb (40 : Int32) hs6 dX10_isSign_1 (by decide) (by decide) rfl (by decide) ?_
    refine lv_iconst (v := (1 : Int32)) hx hb dX10_isSign_128 (by decide) ?_
    cases hf
    exact x_zret C hm (by decide) (by decide) dX10_isSign_129
  have hf := xif_f hs6 hf
  by_cases hs7 : a0 = (41 : Int32)
  · have hf := xif_t hs7 hf
    refine x_tabIn (tgt := 128) hx hb (41 : Int32) hs7 dX10_isSign_1 (by decide) (by decide) rfl (by decide) ?_
    refine lv_iconst (v := (1 : Int32)) hx hb dX10_isSign_128 (by decide) ?_
    cases hf
    exact x_zret C hm (by decide) (by decide) dX10_isSign_129
  have hf := xif_f hs7 hf
  by_cases hs8 : a0 = (42 : Int32)
  · have hf := xif_t hs8 hf
    refine x_tabIn (tgt := 128) hx hb (42 : Int32) hs8 dX10_isSign_1 (by decide) (by decide) rfl (by decide) ?_
    refine lv_iconst (v := (1 : Int32)) hx hb dX10_isSign_128 (by decide) ?_
    cases hf
    exact x_zret C hm (by decide) (by decide) dX10_isSign_129
  have hf := xif_f hs8 hf
  by_cases hs9 : a0 = (43 : Int32)
  · have hf := xif_t hs9 hf
    refine x_tabIn (tgt := 128) hx hb (43 : Int32) hs9 dX10_isSign_1 (by decide) (by decide) rfl (by decide) ?_
    refine lv_iconst (v := (1 : Int32)) hx hb dX10_isSign_128 (by decide) ?_
    cases hf
    exact x_zret C hm (by decide) (by decide) dX10_isSign_129
  have hf := xif_f hs9 hf
  by_cases hs10 : a0 = (44 : Int32)
  · have hf := xif_t hs10 hf
    refine x_tabIn (tgt := 130) hx hb (44 : Int32) hs10 dX10_isSign_1 (by decide) (by decide) rfl (by decide) ?_
    refine lv_iconst (v := (0 : Int32)) hx hb dX10_isSign_130 (by decide) ?_
    cases hf
    exact x_zret C hm (by decide) (by decide) dX10_isSign_131
  have hf := xif_f hs10 hf
  by_cases hs11 : a0 = (45 : Int32)
  · have hf := xif_t hs11 hf
    refine x_tabIn (tgt := 128) hx hb (45 : Int32) hs11 dX10_isSign_1 (by decide) (by decide) rfl (by decide) ?_
    refine lv_iconst (v := (1 : Int32)) hx hb dX10_isSign_128 (by decide) ?_
    cases hf
    exact x_zret C hm (by decide) (by decide) dX10_isSign_129
  have hf := xif_f hs11 hf
  by_cases hs12 : a0 = (46 : Int32)
  · have hf := xif_t hs12 hf
    refine x_tabIn (tgt := 130) hx hb (46 : Int32) hs12 dX10_isSign_1 (by decide) (by decide) rfl (by decide) ?_
    refine lv_iconst (v := (0 : Int32)) hx hb dX10_isSign_130 (by decide) ?_
    cases hf
    exact x_zret C hm (by decide) (by decide) dX10_isSign_131
  have hf := xif_f hs12 hf
  by_cases hs13 : a0 = (47 : Int32)
  · have hf := xif_t hs13 hf
    refine x_tabIn (tgt := 128) hx hb (47 : Int32) hs13 dX10_isSign_1 (by decide) (by decide) rfl (by decide) ?_
    refine lv_iconst (v := (1 : Int32)) hx hb dX10_isSign_128 (by decide) ?_
    cases hf
    exact x_zret C hm (by decide) (by decide) dX10_isSign_129
  have hf := xif_f hs13 hf
  by_cases hs14 : a0 = (48 : Int32)
  · have hf := xif_t hs14 hf
    refine x_tabIn (tgt := 130) hx hb (48 : Int32) hs14 dX10_isSign_1 (by decide) (by decide) rfl (by decide) ?_
    refine lv_iconst (v := (0 : Int32)) hx hb dX10_isSign_130 (by decide) ?_
    cases hf
    exact x_zret C hm (by decide) (by decide) dX10_isSign_131
  have hf := xif_f hs14 hf
  by_cases hs15 : a0 = (49 : Int32)
  · have hf := xif_t hs15 hf
    refine x_tabIn (tgt := 130) hx hb (49 : Int32) hs15 dX10_isSign_1 (by decide) (by decide) rfl (by decide) ?_
    refine lv_iconst (v := (0 : Int32)) hx hb dX10_isSign_130 (by decide) ?_
    cases hf
    exact x_zret C hm (by decide) (by decide) dX10_isSign_131
  have hf := xif_f hs15 hf
  by_cases hs16 : a0 = (50 : Int32)
  · have hf := xif_t hs16 hf
    refine x_tabIn (tgt := 130) hx hb (50 : Int32) hs16 dX10_isSign_1 (by decide) (by decide) rfl (by decide) ?_
    refine lv_iconst (v := (0 : Int32)) hx hb dX10_isSign_130 (by decide) ?_
    cases hf
    exact x_zret C hm (by decide) (by decide) dX10_isSign_131
  have hf := xif_f hs16 hf
  by_cases hs17 : a0 = (51 : Int32)
  · have hf := xif_t hs17 hf
    refine x_tabIn (tgt := 130) hx hb (51 : Int32) hs17 dX10_isSign_1 (by decide) (by decide) rfl (by decide) ?_
    refine lv_iconst (v := (0 : Int32)) hx hb dX10_isSign_130 (by decide) ?_
    cases hf
    exact x_zret C hm (by decide) (by decide) dX10_isSign_131
  have hf := xif_f hs17 hf
  by_cases hs18 : a0 = (52 : Int32)
  · have hf := xif_t hs18 hf
    refine x_tabIn (tgt := 130) hx hb (52 : Int32) hs18 dX10_isSign_1 (by decide) (by decide) rfl (by decide) ?_
    refine lv_iconst (v := (0 : Int32)) hx hb dX10_isSign_130 (by decide) ?_
    cases hf
    exact x_zret C hm (by decide) (by decide) dX10_isSign_131
  have hf := xif_f hs18 hf
  by_cases hs19 : a0 = (53 : Int32)
  · have hf := xif_t hs19 hf
    refine x_tabIn (tgt := 130) hx hb (53 : Int32) hs19 dX10_isSign_1 (by decide) (by decide) rfl (by decide) ?_
    refine lv_iconst (v := (0 : Int32)) hx hb dX10_isSign_130 (by decide) ?_
    cases hf
    exact x_zret C hm (by decide) (by decide) dX10_isSign_131
  have hf := xif_f hs19 hf
  by_cases hs20 : a0 = (54 : Int32)
  · have hf := xif_t hs20 hf
    refine x_tabIn (tgt := 130) hx hb (54 : Int32) hs20 dX10_isSign_1 (by decide) (by decide) rfl (by decide) ?_
    refine lv_iconst (v := (0 : Int32)) hx hb dX10_isSign_130 (by decide) ?_
    cases hf
    exact x_zret C hm (by decide) (by decide) dX10_isSign_131
  have hf := xif_f hs20 hf
  by_cases hs21 : a0 = (55 : Int32)
  · have hf := xif_t hs21 hf
    refine x_tabIn (tgt := 130) hx hb (55 : Int32) hs21 dX10_isSign_1 (by decide) (by decide) rfl (by decide) ?_
    refine lv_iconst (v := (0 : Int32)) hx hb dX10_isSign_130 (by decide) ?_
    cases hf
    exact x_zret C hm (by decide) (by decide) dX10_isSign_131
  have hf := xif_f hs21 hf
  by_cases hs22 : a0 = (56 : Int32)
  · have hf := xif_t hs22 hf
    refine x_tabIn (tgt := 130) hx hb (56 : Int32) hs22 dX10_isSign_1 (by decide) (by decide) rfl (by decide) ?_
    refine lv_iconst (v := (0 : Int32)) hx hb dX10_isSign_130 (by decide) ?_
    cases hf
    exact x_zret C hm (by decide) (by decide) dX10_isSign_131
  have hf := xif_f hs22 hf
  by_cases hs23 : a0 = (57 : Int32)
  · have hf := xif_t hs23 hf
    refine x_tabIn (tgt := 130) hx hb (57 : Int32) hs23 dX10_isSign_1 (by decide) (by decide) rfl (by decide) ?_
    refine lv_iconst (v := (0 : Int32)) hx hb dX10_isSign_130 (by decide) ?_
    cases hf
    exact x_zret C hm (by decide) (by decide) dX10_isSign_131
  have hf := xif_f hs23 hf
  by_cases hs24 : a0 = (58 : Int32)
  · have hf := xif_t hs24 hf
    refine x_tabIn (tgt := 128) hx hb (58 : Int32) hs24 dX10_isSign_1 (by decide) (by decide) rfl (by decide) ?_
    refine lv_iconst (v := (1 : Int32)) hx hb dX10_isSign_128 (by decide) ?_
    cases hf
    exact x_zret C hm (by decide) (by decide) dX10_isSign_129
  have hf := xif_f hs24 hf
  by_cases hs25 : a0 = (59 : Int32)
  · have hf := xif_t hs25 hf
    refine x_tabIn (tgt := 128) hx hb (59 : Int32) hs25 dX10_isSign_1 (by decide) (by decide) rfl (by decide) ?_
    refine lv_iconst (v := (1 : Int32)) hx hb dX10_isSign_128 (by decide) ?_
    cases hf
    exact x_zret C hm (by decide) (by decide) dX10_isSign_129
  have hf := xif_f hs25 hf
  by_cases hs26 : a0 = (60 : Int32)
  · have hf := xif_t hs26 hf
    refine x_tabIn (tgt := 128) hx hb (60 : Int32) hs26 dX10_isSign_1 (by decide) (by decide) rfl (by decide) ?_
    refine lv_iconst (v := (1 : Int32)) hx hb dX10_isSign_128 (by decide) ?_
    cases hf
    exact x_zret C hm (by decide) (by decide) dX10_isSign_129
  have hf := xif_f hs26 hf
  by_cases hs27 : a0 = (61 : Int32)
  · have hf := xif_t hs27 hf
    refine x_tabIn (tgt := 128) hx hb (61 : Int32) hs27 dX10_isSign_1 (by decide) (by decide) rfl (by decide) ?_
    refine lv_iconst (v := (1 : Int32)) hx hb dX10_isSign_128 (by decide) ?_
    cases hf
    exact x_zret C hm (by decide) (by decide) dX10_isSign_129
  have hf := xif_f hs27 hf
  by_cases hs28 : a0 = (62 : Int32)
  · have hf := xif_t hs28 hf
    refine x_tabIn (tgt := 128) hx hb (62 : Int32) hs28 dX10_isSign_1 (by decide) (by decide) rfl (by decide) ?_
    refine lv_iconst (v := (1 : Int32)) hx hb dX10_isSign_128 (by decide) ?_
    cases hf
    exact x_zret C hm (by decide) (by decide) dX10_isSign_129
  have hf := xif_f hs28 hf
  refine x_tabOut (tgt := 130) hx hb dX10_isSign_1 (by decide) (fun i hi => ?_) (by decide) ?_
  · match i, hi with
    | 0, _ => exact hs1
    | 1, _ => exact hs2
    | 2, _ => exact hs3
    | 3, _ => exact hs4
    | 4, _ => exact hs5
    | 5, _ => exact hs6
    | 6, _ => exact hs7
    | 7, _ => exact hs8
    | 8, _ => exact hs9
    | 9, _ => exact hs10
    | 10, _ => exact hs11
    | 11, _ => exact hs12
    | 12, _ => exact hs13
    | 13, _ => exact hs14
    | 14, _ => exact hs15
    | 15, _ => exact hs16
    | 16, _ => exact hs17
    | 17, _ => exact hs18
    | 18, _ => exact hs19
    | 19, _ => exact hs20
    | 20, _ => exact hs21
    | 21, _ => exact hs22
    | 22, _ => exact hs23
    | 23, _ => exact hs24
    | 24, _ => exact hs25
    | 25, _ => exact hs26
    | 26, _ => exact hs27
    | 27, _ => exact hs28
    | (i + 28), hi => exact absurd hi (by omega)
  refine lv_iconst (v := (0 : Int32)) hx hb dX10_isSign_130 (by decide) ?_
  cases hf
  exact x_zret C hm (by decide) (by decide) dX10_isSign_131
/-! ColouredHeapModel.nextToken()V -/
theorem dX10_nextToken_0 : decode cX10_nextToken 0 = .ok (.aload_n 0, 1) := by decide +kernel
theorem dX10_nextToken_1 : decode cX10_nextToken 1 = .ok (.aload_n 0, 1) := by decide +kernel
theorem dX10_nextToken_2 : decode cX10_nextToken 2 = .ok (.getfield 90, 3) := by decide +kernel
theorem dX10_nextToken_5 : decode cX10_nextToken 5 = .ok (.invokevirtual 93, 3) := by decide +kernel
theorem dX10_nextToken_8 : decode cX10_nextToken 8 = .ok (.bipush 32, 2) := by decide +kernel
theorem dX10_nextToken_10 : decode cX10_nextToken 10 = .ok (.if_icmp .eq 16, 3) := by decide +kernel
theorem dX10_nextToken_13 : decode cX10_nextToken 13 = .ok (.aload_n 0, 1) := by decide +kernel
theorem dX10_nextToken_14 : decode cX10_nextToken 14 = .ok (.aload_n 0, 1) := by decide +kernel
theorem dX10_nextToken_15 : decode cX10_nextToken 15 = .ok (.getfield 90, 3) := by decide +kernel
theorem dX10_nextToken_18 : decode cX10_nextToken 18 = .ok (.invokevirtual 93, 3) := by decide +kernel
theorem dX10_nextToken_21 : decode cX10_nextToken 21 = .ok (.bipush 10, 2) := by decide +kernel
theorem dX10_nextToken_23 : decode cX10_nextToken 23 = .ok (.if_icmp .ne 16, 3) := by decide +kernel
theorem dX10_nextToken_26 : decode cX10_nextToken 26 = .ok (.aload_n 0, 1) := by decide +kernel
theorem dX10_nextToken_27 : decode cX10_nextToken 27 = .ok (.dup, 1) := by decide +kernel
theorem dX10_nextToken_28 : decode cX10_nextToken 28 = .ok (.getfield 90, 3) := by decide +kernel
theorem dX10_nextToken_31 : decode cX10_nextToken 31 = .ok (.iconst 1, 1) := by decide +kernel
theorem dX10_nextToken_32 : decode cX10_nextToken 32 = .ok (.iadd, 1) := by decide +kernel
theorem dX10_nextToken_33 : decode cX10_nextToken 33 = .ok (.putfield 90, 3) := by decide +kernel
theorem dX10_nextToken_36 : decode cX10_nextToken 36 = .ok (.goto (-36), 3) := by decide +kernel
theorem dX10_nextToken_39 : decode cX10_nextToken 39 = .ok (.aload_n 0, 1) := by decide +kernel
theorem dX10_nextToken_40 : decode cX10_nextToken 40 = .ok (.aload_n 0, 1) := by decide +kernel
theorem dX10_nextToken_41 : decode cX10_nextToken 41 = .ok (.getfield 90, 3) := by decide +kernel
theorem dX10_nextToken_44 : decode cX10_nextToken 44 = .ok (.putfield 96, 3) := by decide +kernel
theorem dX10_nextToken_47 : decode cX10_nextToken 47 = .ok (.aload_n 0, 1) := by decide +kernel
theorem dX10_nextToken_48 : decode cX10_nextToken 48 = .ok (.aload_n 0, 1) := by decide +kernel
theorem dX10_nextToken_49 : decode cX10_nextToken 49 = .ok (.getfield 90, 3) := by decide +kernel
theorem dX10_nextToken_52 : decode cX10_nextToken 52 = .ok (.invokevirtual 93, 3) := by decide +kernel
theorem dX10_nextToken_55 : decode cX10_nextToken 55 = .ok (.istore_n 1, 1) := by decide +kernel
theorem dX10_nextToken_56 : decode cX10_nextToken 56 = .ok (.iload_n 1, 1) := by decide +kernel
theorem dX10_nextToken_57 : decode cX10_nextToken 57 = .ok (.ifCond .ge 11, 3) := by decide +kernel
theorem dX10_nextToken_60 : decode cX10_nextToken 60 = .ok (.aload_n 0, 1) := by decide +kernel
theorem dX10_nextToken_61 : decode cX10_nextToken 61 = .ok (.iconst 0, 1) := by decide +kernel
theorem dX10_nextToken_62 : decode cX10_nextToken 62 = .ok (.putfield 99, 3) := by decide +kernel
theorem dX10_nextToken_65 : decode cX10_nextToken 65 = .ok (.goto 245, 3) := by decide +kernel
theorem dX10_nextToken_68 : decode cX10_nextToken 68 = .ok (.iload_n 1, 1) := by decide +kernel
theorem dX10_nextToken_69 : decode cX10_nextToken 69 = .ok (.invokestatic 102, 3) := by decide +kernel
theorem dX10_nextToken_72 : decode cX10_nextToken 72 = .ok (.ifCond .eq 79, 3) := by decide +kernel
theorem dX10_nextToken_75 : decode cX10_nextToken 75 = .ok (.aload_n 0, 1) := by decide +kernel
theorem dX10_nextToken_76 : decode cX10_nextToken 76 = .ok (.iconst 1, 1) := by decide +kernel
theorem dX10_nextToken_77 : decode cX10_nextToken 77 = .ok (.putfield 99, 3) := by decide +kernel
theorem dX10_nextToken_80 : decode cX10_nextToken 80 = .ok (.aload_n 0, 1) := by decide +kernel
theorem dX10_nextToken_81 : decode cX10_nextToken 81 = .ok (.iconst 0, 1) := by decide +kernel
theorem dX10_nextToken_82 : decode cX10_nextToken 82 = .ok (.putfield 105, 3) := by decide +kernel
theorem dX10_nextToken_85 : decode cX10_nextToken 85 = .ok (.aload_n 0, 1) := by decide +kernel
theorem dX10_nextToken_86 : decode cX10_nextToken 86 = .ok (.aload_n 0, 1) := by decide +kernel
theorem dX10_nextToken_87 : decode cX10_nextToken 87 = .ok (.getfield 90, 3) := by decide +kernel
theorem dX10_nextToken_90 : decode cX10_nextToken 90 = .ok (.invokevirtual 93, 3) := by decide +kernel
theorem dX10_nextToken_93 : decode cX10_nextToken 93 = .ok (.invokestatic 102, 3) := by decide +kernel
theorem dX10_nextToken_96 : decode cX10_nextToken 96 = .ok (.ifCond .eq 214, 3) := by decide +kernel
theorem dX10_nextToken_99 : decode cX10_nextToken 99 = .ok (.aload_n 0, 1) := by decide +kernel
theorem dX10_nextToken_100 : decode cX10_nextToken 100 = .ok (.aload_n 0, 1) := by decide +kernel
theorem dX10_nextToken_101 : decode cX10_nextToken 101 = .ok (.getfield 105, 3) := by decide +kernel
theorem dX10_nextToken_104 : decode cX10_nextToken 104 = .ok (.ldc 108, 2) := by decide +kernel
theorem dX10_nextToken_106 : decode cX10_nextToken 106 = .ok (.if_icmp .le 10, 3) := by decide +kernel
theorem dX10_nextToken_109 : decode cX10_nextToken 109 = .ok (.aload_n 0, 1) := by decide +kernel
theorem dX10_nextToken_110 : decode cX10_nextToken 110 = .ok (.getfield 105, 3) := by decide +kernel
theorem dX10_nextToken_113 : decode cX10_nextToken 113 = .ok (.goto 22, 3) := by decide +kernel
theorem dX10_nextToken_116 : decode cX10_nextToken 116 = .ok (.bipush 10, 2) := by decide +kernel
theorem dX10_nextToken_118 : decode cX10_nextToken 118 = .ok (.aload_n 0, 1) := by decide +kernel
theorem dX10_nextToken_119 : decode cX10_nextToken 119 = .ok (.getfield 105, 3) := by decide +kernel
theorem dX10_nextToken_122 : decode cX10_nextToken 122 = .ok (.imul, 1) := by decide +kernel
theorem dX10_nextToken_123 : decode cX10_nextToken 123 = .ok (.aload_n 0, 1) := by decide +kernel
theorem dX10_nextToken_124 : decode cX10_nextToken 124 = .ok (.aload_n 0, 1) := by decide +kernel
theorem dX10_nextToken_125 : decode cX10_nextToken 125 = .ok (.getfield 90, 3) := by decide +kernel
theorem dX10_nextToken_128 : decode cX10_nextToken 128 = .ok (.invokevirtual 93, 3) := by decide +kernel
theorem dX10_nextToken_131 : decode cX10_nextToken 131 = .ok (.iadd, 1) := by decide +kernel
theorem dX10_nextToken_132 : decode cX10_nextToken 132 = .ok (.bipush 48, 2) := by decide +kernel
theorem dX10_nextToken_134 : decode cX10_nextToken 134 = .ok (.isub, 1) := by decide +kernel
theorem dX10_nextToken_135 : decode cX10_nextToken 135 = .ok (.putfield 105, 3) := by decide +kernel
theorem dX10_nextToken_138 : decode cX10_nextToken 138 = .ok (.aload_n 0, 1) := by decide +kernel
theorem dX10_nextToken_139 : decode cX10_nextToken 139 = .ok (.dup, 1) := by decide +kernel
theorem dX10_nextToken_140 : decode cX10_nextToken 140 = .ok (.getfield 90, 3) := by decide +kernel
theorem dX10_nextToken_143 : decode cX10_nextToken 143 = .ok (.iconst 1, 1) := by decide +kernel
theorem dX10_nextToken_144 : decode cX10_nextToken 144 = .ok (.iadd, 1) := by decide +kernel
theorem dX10_nextToken_145 : decode cX10_nextToken 145 = .ok (.putfield 90, 3) := by decide +kernel
theorem dX10_nextToken_148 : decode cX10_nextToken 148 = .ok (.goto (-63), 3) := by decide +kernel
theorem dX10_nextToken_151 : decode cX10_nextToken 151 = .ok (.iload_n 1, 1) := by decide +kernel
theorem dX10_nextToken_152 : decode cX10_nextToken 152 = .ok (.invokestatic 109, 3) := by decide +kernel
theorem dX10_nextToken_155 : decode cX10_nextToken 155 = .ok (.ifCond .eq 79, 3) := by decide +kernel
theorem dX10_nextToken_158 : decode cX10_nextToken 158 = .ok (.aload_n 0, 1) := by decide +kernel
theorem dX10_nextToken_159 : decode cX10_nextToken 159 = .ok (.iconst 2, 1) := by decide +kernel
theorem dX10_nextToken_160 : decode cX10_nextToken 160 = .ok (.putfield 99, 3) := by decide +kernel
theorem dX10_nextToken_163 : decode cX10_nextToken 163 = .ok (.aload_n 0, 1) := by decide +kernel
theorem dX10_nextToken_164 : decode cX10_nextToken 164 = .ok (.lconst 0, 1) := by decide +kernel
theorem dX10_nextToken_165 : decode cX10_nextToken 165 = .ok (.putfield 112, 3) := by decide +kernel
theorem dX10_nextToken_168 : decode cX10_nextToken 168 = .ok (.aload_n 0, 1) := by decide +kernel
theorem dX10_nextToken_169 : decode cX10_nextToken 169 = .ok (.aload_n 0, 1) := by decide +kernel
theorem dX10_nextToken_170 : decode cX10_nextToken 170 = .ok (.getfield 90, 3) := by decide +kernel
theorem dX10_nextToken_173 : decode cX10_nextToken 173 = .ok (.invokevirtual 93, 3) := by decide +kernel
theorem dX10_nextToken_176 : decode cX10_nextToken 176 = .ok (.invokestatic 109, 3) := by decide +kernel
theorem dX10_nextToken_179 : decode cX10_nextToken 179 = .ok (.ifCond .eq 131, 3) := by decide +kernel
theorem dX10_nextToken_182 : decode cX10_nextToken 182 = .ok (.aload_n 0, 1) := by decide +kernel
theorem dX10_nextToken_183 : decode cX10_nextToken 183 = .ok (.aload_n 0, 1) := by decide +kernel
theorem dX10_nextToken_184 : decode cX10_nextToken 184 = .ok (.getfield 112, 3) := by decide +kernel
theorem dX10_nextToken_187 : decode cX10_nextToken 187 = .ok (.bipush 48, 2) := by decide +kernel
theorem dX10_nextToken_189 : decode cX10_nextToken 189 = .ok (.lshr, 1) := by decide +kernel
theorem dX10_nextToken_190 : decode cX10_nextToken 190 = .ok (.lconst 0, 1) := by decide +kernel
theorem dX10_nextToken_191 : decode cX10_nextToken 191 = .ok (.lcmp, 1) := by decide +kernel
theorem dX10_nextToken_192 : decode cX10_nextToken 192 = .ok (.ifCond .eq 9, 3) := by decide +kernel
theorem dX10_nextToken_195 : decode cX10_nextToken 195 = .ok (.ldc2_w 116, 3) := by decide +kernel
theorem dX10_nextToken_198 : decode cX10_nextToken 198 = .ok (.goto 20, 3) := by decide +kernel
theorem dX10_nextToken_201 : decode cX10_nextToken 201 = .ok (.aload_n 0, 1) := by decide +kernel
theorem dX10_nextToken_202 : decode cX10_nextToken 202 = .ok (.getfield 112, 3) := by decide +kernel
theorem dX10_nextToken_205 : decode cX10_nextToken 205 = .ok (.bipush 8, 2) := by decide +kernel
theorem dX10_nextToken_207 : decode cX10_nextToken 207 = .ok (.lshl, 1) := by decide +kernel
theorem dX10_nextToken_208 : decode cX10_nextToken 208 = .ok (.aload_n 0, 1) := by decide +kernel
theorem dX10_nextToken_209 : decode cX10_nextToken 209 = .ok (.aload_n 0, 1) := by decide +kernel
theorem dX10_nextToken_210 : decode cX10_nextToken 210 = .ok (.getfield 90, 3) := by decide +kernel
theorem dX10_nextToken_213 : decode cX10_nextToken 213 = .ok (.invokevirtual 93, 3) := by decide +kernel
theorem dX10_nextToken_216 : decode cX10_nextToken 216 = .ok (.i2l, 1) := by decide +kernel
theorem dX10_nextToken_217 : decode cX10_nextToken 217 = .ok (.lor, 1) := by decide +kernel
theorem dX10_nextToken_218 : decode cX10_nextToken 218 = .ok (.putfield 112, 3) := by decide +kernel
theorem dX10_nextToken_221 : decode cX10_nextToken 221 = .ok (.aload_n 0, 1) := by decide +kernel
theorem dX10_nextToken_222 : decode cX10_nextToken 222 = .ok (.dup, 1) := by decide +kernel
theorem dX10_nextToken_223 : decode cX10_nextToken 223 = .ok (.getfield 90, 3) := by decide +kernel
theorem dX10_nextToken_226 : decode cX10_nextToken 226 = .ok (.iconst 1, 1) := by decide +kernel
theorem dX10_nextToken_227 : decode cX10_nextToken 227 = .ok (.iadd, 1) := by decide +kernel
theorem dX10_nextToken_228 : decode cX10_nextToken 228 = .ok (.putfield 90, 3) := by decide +kernel
theorem dX10_nextToken_231 : decode cX10_nextToken 231 = .ok (.goto (-63), 3) := by decide +kernel
theorem dX10_nextToken_234 : decode cX10_nextToken 234 = .ok (.aload_n 0, 1) := by decide +kernel
theorem dX10_nextToken_235 : decode cX10_nextToken 235 = .ok (.iload_n 1, 1) := by decide +kernel
theorem dX10_nextToken_236 : decode cX10_nextToken 236 = .ok (.invokestatic 118, 3) := by decide +kernel
theorem dX10_nextToken_239 : decode cX10_nextToken 239 = .ok (.ifCond .eq 7, 3) := by decide +kernel
theorem dX10_nextToken_242 : decode cX10_nextToken 242 = .ok (.iload_n 1, 1) := by decide +kernel
theorem dX10_nextToken_243 : decode cX10_nextToken 243 = .ok (.goto 4, 3) := by decide +kernel
theorem dX10_nextToken_246 : decode cX10_nextToken 246 = .ok (.iconst 3, 1) := by decide +kernel
theorem dX10_nextToken_247 : decode cX10_nextToken 247 = .ok (.putfield 99, 3) := by decide +kernel
theorem dX10_nextToken_250 : decode cX10_nextToken 250 = .ok (.aload_n 0, 1) := by decide +kernel
theorem dX10_nextToken_251 : decode cX10_nextToken 251 = .ok (.dup, 1) := by decide +kernel
theorem dX10_nextToken_252 : decode cX10_nextToken 252 = .ok (.getfield 90, 3) := by decide +kernel
theorem dX10_nextToken_255 : decode cX10_nextToken 255 = .ok (.iconst 1, 1) := by decide +kernel
theorem dX10_nextToken_256 : decode cX10_nextToken 256 = .ok (.iadd, 1) := by decide +kernel
theorem dX10_nextToken_257 : decode cX10_nextToken 257 = .ok (.putfield 90, 3) := by decide +kernel
theorem dX10_nextToken_260 : decode cX10_nextToken 260 = .ok (.iload_n 1, 1) := by decide +kernel
theorem dX10_nextToken_261 : decode cX10_nextToken 261 = .ok (.bipush 60, 2) := by decide +kernel
theorem dX10_nextToken_263 : decode cX10_nextToken 263 = .ok (.if_icmp .eq 9, 3) := by decide +kernel
theorem dX10_nextToken_266 : decode cX10_nextToken 266 = .ok (.iload_n 1, 1) := by decide +kernel
theorem dX10_nextToken_267 : decode cX10_nextToken 267 = .ok (.bipush 62, 2) := by decide +kernel
theorem dX10_nextToken_269 : decode cX10_nextToken 269 = .ok (.if_icmp .ne 41, 3) := by decide +kernel
theorem dX10_nextToken_272 : decode cX10_nextToken 272 = .ok (.aload_n 0, 1) := by decide +kernel
theorem dX10_nextToken_273 : decode cX10_nextToken 273 = .ok (.aload_n 0, 1) := by decide +kernel
theorem dX10_nextToken_274 : decode cX10_nextToken 274 = .ok (.getfield 90, 3) := by decide +kernel
theorem dX10_nextToken_277 : decode cX10_nextToken 277 = .ok (.invokevirtual 93, 3) := by decide +kernel
theorem dX10_nextToken_280 : decode cX10_nextToken 280 = .ok (.bipush 61, 2) := by decide +kernel
theorem dX10_nextToken_282 : decode cX10_nextToken 282 = .ok (.if_icmp .ne 28, 3) := by decide +kernel
theorem dX10_nextToken_285 : decode cX10_nextToken 285 = .ok (.aload_n 0, 1) := by decide +kernel
theorem dX10_nextToken_286 : decode cX10_nextToken 286 = .ok (.iload_n 1, 1) := by decide +kernel
theorem dX10_nextToken_287 : decode cX10_nextToken 287 = .ok (.bipush 60, 2) := by decide +kernel
theorem dX10_nextToken_289 : decode cX10_nextToken 289 = .ok (.if_icmp .ne 7, 3) := by decide +kernel
theorem dX10_nextToken_292 : decode cX10_nextToken 292 = .ok (.iconst 4, 1) := by decide +kernel
theorem dX10_nextToken_293 : decode cX10_nextToken 293 = .ok (.goto 4, 3) := by decide +kernel
theorem dX10_nextToken_296 : decode cX10_nextToken 296 = .ok (.iconst 5, 1) := by decide +kernel
theorem dX10_nextToken_297 : decode cX10_nextToken 297 = .ok (.putfield 99, 3) := by decide +kernel
theorem dX10_nextToken_300 : decode cX10_nextToken 300 = .ok (.aload_n 0, 1) := by decide +kernel
theorem dX10_nextToken_301 : decode cX10_nextToken 301 = .ok (.dup, 1) := by decide +kernel
theorem dX10_nextToken_302 : decode cX10_nextToken 302 = .ok (.getfield 90, 3) := by decide +kernel
theorem dX10_nextToken_305 : decode cX10_nextToken 305 = .ok (.iconst 1, 1) := by decide +kernel
theorem dX10_nextToken_306 : decode cX10_nextToken 306 = .ok (.iadd, 1) := by decide +kernel
theorem dX10_nextToken_307 : decode cX10_nextToken 307 = .ok (.putfield 90, 3) := by decide +kernel
theorem dX10_nextToken_310 : decode cX10_nextToken 310 = .ok (.return_, 1) := by decide +kernel
def g_X10_nextToken_0 (Lm : xn) : Nat → xm → Option ((xm))
  | 0, _ => none
  | n + 1, M1 => xb1 (f_X10_byteAt M1 (M1 0 7)) (fun v4 => (if v4 = (32 : Int32) then xlet (up2 M1 0 7 ((M1 0 7) + (1 : Int32))) (fun M7 => g_X10_nextToken_0 Lm n M7) else xb1 (f_X10_byteAt M1 (M1 0 7)) (fun v9 => (if v9 = (10 : Int32) then xlet (up2 M1 0 7 ((M1 0 7) + (1 : Int32))) (fun M12 => g_X10_nextToken_0 Lm n M12) else some (M1)))))
def g_X10_nextToken_168  : Nat → xm → xn → Option ((xm × xn))
  | 0, _, _ => none
  | n + 1, M43, L44 => xb1 (f_X10_byteAt M43 (M43 0 7)) (fun v48 => (if (f_X10_isLetterByte v48) = 0 then some ((M43, L44)) else (if (lg_cmp ((L44 0 11) >>> ((48 : Int32).toInt64 &&& 63)) (0 : Int64)) = 0 then xb1 (f_X10_byteAt M43 (M43 0 7)) (fun v54 => xlet (up2 L44 0 11 (((L44 0 11) <<< ((8 : Int32).toInt64 &&& 63)) ||| (v54.toInt64))) (fun L56 => xlet (up2 M43 0 7 ((M43 0 7) + (1 : Int32))) (fun M57 => g_X10_nextToken_168 n M57 L56))) else xlet (up2 L44 0 11 (1152921504606846976 : Int64)) (fun L58 => xlet (up2 M43 0 7 ((M43 0 7) + (1 : Int32))) (fun M59 => g_X10_nextToken_168 n M59 L58)))))
def g_X10_nextToken_85 (Lm : xn) : Nat → xm → Option ((xm))
  | 0, _ => none
  | n + 1, M64 => xb1 (f_X10_byteAt M64 (M64 0 7)) (fun v67 => (if (f_X10_isFigure v67) = 0 then some (M64) else (if (M64 0 10) ≤ (99999 : Int32) then xb1 (f_X10_byteAt M64 (M64 0 7)) (fun v73 => xlet (up2 M64 0 10 ((((10 : Int32) * (M64 0 10)) + v73) - (48 : Int32))) (fun M75 => xlet (up2 M75 0 7 ((M75 0 7) + (1 : Int32))) (fun M76 => g_X10_nextToken_85 Lm n M76))) else xlet (up2 M64 0 10 (M64 0 10)) (fun M77 => xlet (up2 M77 0 7 ((M77 0 7) + (1 : Int32))) (fun M78 => g_X10_nextToken_85 Lm n M78)))))
def f_X10_nextToken (M : xm) (Lm : xn) : Option (xm × xn) := xb1 (g_X10_nextToken_0 Lm xfuel M) (fun M13 => xlet (up2 M13 0 8 (M13 0 7)) (fun M14 => xb1 (f_X10_byteAt M14 (M14 0 7)) (fun v16 => (if 0 ≤ v16 then (if (f_X10_isFigure v16) = 0 then (if (f_X10_isLetterByte v16) = 0 then xlet (fun (w24 : Int32) => xlet (up2 M14 0 9 w24) (fun M26 => xlet (up2 M26 0 7 ((M26 0 7) + (1 : Int32))) (fun M27 => xlet (xb1 (f_X10_byteAt M27 (M27 0 7)) (fun v30 => (if v30 = (61 : Int32) then (if v16 = (60 : Int32) then xlet (up2 M27 0 9 (4 : Int32)) (fun M36 => xlet (up2 M36 0 7 ((M36 0 7) + (1 : Int32))) (fun M37 => some (M37, Lm))) else xlet (up2 M27 0 9 (5 : Int32)) (fun M34 => xlet (up2 M34 0 7 ((M34 0 7) + (1 : Int32))) (fun M35 => some (M35, Lm)))) else some (M27, Lm)))) (fun k28 => (if v16 = (60 : Int32) then k28 else (if v16 = (62 : Int32) then k28 else some (M27, Lm))))))) (fun k25 => (if (f_X10_isSign v16) = 0 then (k25 (3 : Int32)) else (k25 v16))) else xlet (up2 M14 0 9 (2 : Int32)) (fun M41 => xlet (up2 Lm 0 11 (0 : Int64)) (fun L42 => xb2 (g_X10_nextToken_168 xfuel M41 L42) (fun M60 L61 => some (M60, L61))))) else xlet (up2 M14 0 9 (1 : Int32)) (fun M62 => xlet (up2 M62 0 10 (0 : Int32)) (fun M63 => xb1 (g_X10_nextToken_85 Lm xfuel M63) (fun M79 => some (M79, Lm))))) else xlet (up2 M14 0 9 (0 : Int32)) (fun M80 => some (M80, Lm))))))
set_option maxHeartbeats 4000000 in
set_option maxRecDepth 20000 in
theorem j_X10_nextToken_0 {p : Program} {l : Launch} {e : Env} {s : State} {m : MethodId} {args : Array Value} {below : List Frame} {meth : Method} {c : Code} {Q : State → Prop} {E : xE} {b : Nat} (C : xC p s m args meth c cX10_nextToken 2 RX10 none E b) (Lm : xn) {y2 : xm}
    (kx0 : ∀ (H : Heap) (locs : List Loc) (ls : Array Slot), xM E b NY (cY E b y2 Lm) s.heap H locs → lv_has ls 2 [(0, .ref (b + 0))] → W p l e (xR 2) s m args below meth c H locs 0 0 Q (F0 m 39 ls [])) :
    ∀ (n : Nat) (M1 : xm) (H : Heap) (locs : List Loc) (ls : Array Slot), g_X10_nextToken_0 Lm n M1 = some y2 → xM E b NY (cY E b M1 Lm) s.heap H locs → lv_has ls 2 [(0, .ref (b + 0))] → W p l e (xR 2) s m args below meth c H locs 0 0 Q (F0 m 0 ls []) := by
  have hx := C.1.1
  have hb := C.1.2.1
  intro n
  induction n with
  | zero =>
    intro M1 H locs ls hf hm hl
    rw [g_X10_nextToken_0] at hf
    cases hf
  | succ n ih =>
    intro M1 H locs ls hf hm hl
    rw [g_X10_nextToken_0] at hf
    refine lv_aload_n hx hb dX10_nextToken_0 rfl (lv_at hl 0 rfl) ?_
    refine lv_aload_n hx hb dX10_nextToken_1 rfl (lv_at hl 0 rfl) ?_
    refine x_get C hm inX10 rfl 7 (by decide) tf_RX10_90 cy_0 rfl dX10_nextToken_2 ?_
    obtain ⟨v4, hq3, hf⟩ := xb1_e hf
    refine x_callVi (As := [.int (M1 0 7)]) (rest := []) C hm (c_X10_byteAt l E b M1 Lm (M1 0 7) hq3) rfl cy_0 tc_X10_byteAt tm_RX10_93 ti_X10_byteAt ts_X10_byteAt tn_RX10 td_X10_byteAt rfl rfl ⟨Nat.le_of_ble_eq_true rfl, Nat.le_of_ble_eq_true rfl⟩ rfl hl.1 rfl (Nat.le_of_ble_eq_true rfl) ⟨Nat.zero_le _, Nat.zero_le _⟩ dX10_nextToken_5 (fun H locs hP5 hm => ?_)
    refine lv_bipush (v := (32 : Int32)) hx hb dX10_nextToken_8 (by decide) ?_
    refine lv_icmp_eq (tgt := 26) hx hb dX10_nextToken_10 (by decide) (fun hc6 => ?_) (fun hc6 => ?_)
    · have hf := xif_t hc6 hf
      refine lv_aload_n hx hb dX10_nextToken_26 rfl (lv_at hl 0 rfl) ?_
      refine lv_dup hx hb dX10_nextToken_27 rfl ?_
      refine x_get C hm inX10 rfl 7 (by decide) tf_RX10_90 cy_0 rfl dX10_nextToken_28 ?_
      refine lv_iconst (v := (1 : Int32)) hx hb dX10_nextToken_31 (by decide) ?_
      refine lv_iadd hx hb dX10_nextToken_32 ?_
      obtain ⟨M7, eM7, hf⟩ := xlet_x hf
      refine x_put (cf' := cY E b M7 Lm) C hm inX10 tyX10 tyX10_ok nmX10 rfl 7 (by decide) tf_RX10_90 rfl rfl rfl cy_0 (Nat.le_of_ble_eq_true rfl) (by rw [eM7]; exact cyf_7) (by rw [eM7]; exact cY_o) dX10_nextToken_33 (fun H locs hm => ?_)
      refine lv_goto (tgt := 0) hx hb dX10_nextToken_36 (by decide) ?_
      exact ih M7 H locs ls hf hm (lv_sub hl [0] rfl)
    have hf := xif_f hc6 hf
    refine lv_aload_n hx hb dX10_nextToken_13 rfl (lv_at hl 0 rfl) ?_
    refine lv_aload_n hx hb dX10_nextToken_14 rfl (lv_at hl 0 rfl) ?_
    refine x_get C hm inX10 rfl 7 (by decide) tf_RX10_90 cy_0 rfl dX10_nextToken_15 ?_
    obtain ⟨v9, hq8, hf⟩ := xb1_e hf
    refine x_callVi (As := [.int (M1 0 7)]) (rest := []) C hm (c_X10_byteAt l E b M1 Lm (M1 0 7) hq8) rfl cy_0 tc_X10_byteAt tm_RX10_93 ti_X10_byteAt ts_X10_byteAt tn_RX10 td_X10_byteAt rfl rfl ⟨Nat.le_of_ble_eq_true rfl, Nat.le_of_ble_eq_true rfl⟩ rfl hl.1 rfl (Nat.le_of_ble_eq_true rfl) ⟨Nat.zero_le _, Nat.zero_le _⟩ dX10_nextToken_18 (fun H locs hP10 hm => ?_)
    refine lv_bipush (v := (10 : Int32)) hx hb dX10_nextToken_21 (by decide) ?_
    refine lv_icmp_ne (tgt := 39) hx hb dX10_nextToken_23 (by decide) (fun hc11 => ?_) (fun hc11 => ?_)
    · have hf := xif_f hc11 hf
      cases hf
      exact kx0 H locs ls hm (lv_sub hl [0] rfl)
    have hf := xif_t hc11 hf
    refine lv_aload_n hx hb dX10_nextToken_26 rfl (lv_at hl 0 rfl) ?_
    refine lv_dup hx hb dX10_nextToken_27 rfl ?_
    refine x_get C hm inX10 rfl 7 (by decide) tf_RX10_90 cy_0 rfl dX10_nextToken_28 ?_
    refine lv_iconst (v := (1 : Int32)) hx hb dX10_nextToken_31 (by decide) ?_
    refine lv_iadd hx hb dX10_nextToken_32 ?_
    obtain ⟨M12, eM12, hf⟩ := xlet_x hf
    refine x_put (cf' := cY E b M12 Lm) C hm inX10 tyX10 tyX10_ok nmX10 rfl 7 (by decide) tf_RX10_90 rfl rfl rfl cy_0 (Nat.le_of_ble_eq_true rfl) (by rw [eM12]; exact cyf_7) (by rw [eM12]; exact cY_o) dX10_nextToken_33 (fun H locs hm => ?_)
    refine lv_goto (tgt := 0) hx hb dX10_nextToken_36 (by decide) ?_
    exact ih M12 H locs ls hf hm (lv_sub hl [0] rfl)
set_option maxHeartbeats 4000000 in
set_option maxRecDepth 20000 in
theorem j_X10_nextToken_168 {p : Program} {l : Launch} {e : Env} {s : State} {m : MethodId} {args : Array Value} {below : List Frame} {meth : Method} {c : Code} {Q : State → Prop} {E : xE} {b : Nat} (C : xC p s m args meth c cX10_nextToken 2 RX10 none E b)  {y45 : xm} {y46 : xn}
    (kx0 : ∀ (H : Heap) (locs : List Loc) (ls : Array Slot), xM E b NY (cY E b y45 y46) s.heap H locs → lv_has ls 2 [] → W p l e (xR 2) s m args below meth c H locs 0 0 Q (F0 m 310 ls [])) :
    ∀ (n : Nat) (M43 : xm) (L44 : xn) (H : Heap) (locs : List Loc) (ls : Array Slot), g_X10_nextToken_168 n M43 L44 = some (y45, y46) → xM E b NY (cY E b M43 L44) s.heap H locs → lv_has ls 2 [(0, .ref (b + 0))] → W p l e (xR 2) s m args below meth c H locs 0 0 Q (F0 m 168 ls []) := by
  have hx := C.1.1
  have hb := C.1.2.1
  intro n
  induction n with
  | zero =>
    intro M43 L44 H locs ls hf hm hl
    rw [g_X10_nextToken_168] at hf
    cases hf
  | succ n ih =>
    intro M43 L44 H locs ls hf hm hl
    rw [g_X10_nextToken_168] at hf
    refine lv_aload_n hx hb dX10_nextToken_168 rfl (lv_at hl 0 rfl) ?_
    refine lv_aload_n hx hb dX10_nextToken_169 rfl (lv_at hl 0 rfl) ?_
    refine x_get C hm inX10 rfl 7 (by decide) tf_RX10_90 cy_0 rfl dX10_nextToken_170 ?_
    obtain ⟨v48, hq47, hf⟩ := xb1_e hf
    refine x_callVi (As := [.int (M43 0 7)]) (rest := []) C hm (c_X10_byteAt l E b M43 L44 (M43 0 7) hq47) rfl cy_0 tc_X10_byteAt tm_RX10_93 ti_X10_byteAt ts_X10_byteAt tn_RX10 td_X10_byteAt rfl rfl ⟨Nat.le_of_ble_eq_true rfl, Nat.le_of_ble_eq_true rfl⟩ rfl hl.1 rfl (Nat.le_of_ble_eq_true rfl) ⟨Nat.zero_le _, Nat.zero_le _⟩ dX10_nextToken_173 (fun H locs hP49 hm => ?_)
    refine x_callSi (As := [.int v48]) (rest := []) C hm (c_X10_isLetterByte l E b M43 L44 v48 rfl) tc_X10_isLetterByte tm_RX10_109 tz_X10_isLetterByte tn_RX10 td_X10_isLetterByte rfl rfl ⟨Nat.le_of_ble_eq_true rfl, Nat.le_of_ble_eq_true rfl⟩ rfl hl.1 rfl (Nat.le_of_ble_eq_true rfl) ⟨Nat.zero_le _, Nat.zero_le _⟩ dX10_nextToken_176 (fun H locs hP50 hm => ?_)
    refine lv_if_eq (tgt := 310) hx hb dX10_nextToken_179 (by decide) (fun hc51 => ?_) (fun hc51 => ?_)
    · have hf := xif_t hc51 hf
      cases hf
      exact kx0 H locs ls hm (lv_sub hl [] rfl)
    have hf := xif_f hc51 hf
    refine lv_aload_n hx hb dX10_nextToken_182 rfl (lv_at hl 0 rfl) ?_
    refine lv_aload_n hx hb dX10_nextToken_183 rfl (lv_at hl 0 rfl) ?_
    refine x_get C hm inX10 rfl 11 (by decide) tf_RX10_112 cy_0 rfl dX10_nextToken_184 ?_
    refine lv_bipush (v := (48 : Int32)) hx hb dX10_nextToken_187 (by decide) ?_
    refine lv_lshr hx hb dX10_nextToken_189 rfl ?_
    refine lv_lconst (v := (0 : Int64)) hx hb dX10_nextToken_190 (by decide) ?_
    refine W.lcmp hx hb dX10_nextToken_191 ?_
    refine lv_if_eq (tgt := 201) hx hb dX10_nextToken_192 (by decide) (fun hc52 => ?_) (fun hc52 => ?_)
    rotate_left
    · have hf := xif_f hc52 hf
      refine lv_ldc2 (v := (1152921504606846976 : Int64)) hx hb C.1.2.2.2.1 (C.1.2.2.2.2 _ tk_RX10_116) dX10_nextToken_195 ?_
      refine lv_goto (tgt := 218) hx hb dX10_nextToken_198 (by decide) ?_
      obtain ⟨L58, eL58, hf⟩ := xlet_x hf
      refine x_put (cf' := cY E b M43 L58) C hm inX10 tyX10 tyX10_ok nmX10 rfl 11 (by decide) tf_RX10_112 rfl rfl rfl cy_0 (Nat.le_of_ble_eq_true rfl) (by rw [eL58]; exact cyf_11) (by rw [eL58]; exact cY_oL) dX10_nextToken_218 (fun H locs hm => ?_)
      refine lv_aload_n hx hb dX10_nextToken_221 rfl (lv_at hl 0 rfl) ?_
      refine lv_dup hx hb dX10_nextToken_222 rfl ?_
      refine x_get C hm inX10 rfl 7 (by decide) tf_RX10_90 cy_0 rfl dX10_nextToken_223 ?_
      refine lv_iconst (v := (1 : Int32)) hx hb dX10_nextToken_226 (by decide) ?_
      refine lv_iadd hx hb dX10_nextToken_227 ?_
      obtain ⟨M59, eM59, hf⟩ := xlet_x hf
      refine x_put (cf' := cY E b M59 L58) C hm inX10 tyX10 tyX10_ok nmX10 rfl 7 (by decide) tf_RX10_90 rfl rfl rfl cy_0 (Nat.le_of_ble_eq_true rfl) (by rw [eM59]; exact cyf_7) (by rw [eM59]; exact cY_o) dX10_nextToken_228 (fun H locs hm => ?_)
      refine lv_goto (tgt := 168) hx hb dX10_nextToken_231 (by decide) ?_
      exact ih M59 L58 H locs ls hf hm (lv_sub hl [0] rfl)
    have hf := xif_t hc52 hf
    refine lv_aload_n hx hb dX10_nextToken_201 rfl (lv_at hl 0 rfl) ?_
    refine x_get C hm inX10 rfl 11 (by decide) tf_RX10_112 cy_0 rfl dX10_nextToken_202 ?_
    refine lv_bipush (v := (8 : Int32)) hx hb dX10_nextToken_205 (by decide) ?_
    refine lv_lshl hx hb dX10_nextToken_207 rfl ?_
    refine lv_aload_n hx hb dX10_nextToken_208 rfl (lv_at hl 0 rfl) ?_
    refine lv_aload_n hx hb dX10_nextToken_209 rfl (lv_at hl 0 rfl) ?_
    refine x_get C hm inX10 rfl 7 (by decide) tf_RX10_90 cy_0 rfl dX10_nextToken_210 ?_
    obtain ⟨v54, hq53, hf⟩ := xb1_e hf
    refine x_callVi (As := [.int (M43 0 7)]) (rest := [.long ((L44 0 11) <<< ((8 : Int32).toInt64 &&& 63)), .ref (b + 0)]) C hm (c_X10_byteAt l E b M43 L44 (M43 0 7) hq53) rfl cy_0 tc_X10_byteAt tm_RX10_93 ti_X10_byteAt ts_X10_byteAt tn_RX10 td_X10_byteAt rfl rfl ⟨Nat.le_of_ble_eq_true rfl, Nat.le_of_ble_eq_true rfl⟩ rfl hl.1 rfl (Nat.le_of_ble_eq_true rfl) ⟨Nat.zero_le _, Nat.zero_le _⟩ dX10_nextToken_213 (fun H locs hP55 hm => ?_)
    refine lv_i2l hx hb dX10_nextToken_216 rfl ?_
    refine lv_lor hx hb dX10_nextToken_217 ?_
    obtain ⟨L56, eL56, hf⟩ := xlet_x hf
    refine x_put (cf' := cY E b M43 L56) C hm inX10 tyX10 tyX10_ok nmX10 rfl 11 (by decide) tf_RX10_112 rfl rfl rfl cy_0 (Nat.le_of_ble_eq_true rfl) (by rw [eL56]; exact cyf_11) (by rw [eL56]; exact cY_oL) dX10_nextToken_218 (fun H locs hm => ?_)
    refine lv_aload_n hx hb dX10_nextToken_221 rfl (lv_at hl 0 rfl) ?_
    refine lv_dup hx hb dX10_nextToken_222 rfl ?_
    refine x_get C hm inX10 rfl 7 (by decide) tf_RX10_90 cy_0 rfl dX10_nextToken_223 ?_
    refine lv_iconst (v := (1 : Int32)) hx hb dX10_nextToken_226 (by decide) ?_
    refine lv_iadd hx hb dX10_nextToken_227 ?_
    obtain ⟨M57, eM57, hf⟩ := xlet_x hf
    refine x_put (cf' := cY E b M57 L56) C hm inX10 tyX10 tyX10_ok nmX10 rfl 7 (by decide) tf_RX10_90 rfl rfl rfl cy_0 (Nat.le_of_ble_eq_true rfl) (by rw [eM57]; exact cyf_7) (by rw [eM57]; exact cY_o) dX10_nextToken_228 (fun H locs hm => ?_)
    refine lv_goto (tgt := 168) hx hb dX10_nextToken_231 (by decide) ?_
    exact ih M57 L56 H locs ls hf hm (lv_sub hl [0] rfl)
set_option maxHeartbeats 4000000 in
set_option maxRecDepth 20000 in
theorem j_X10_nextToken_85 {p : Program} {l : Launch} {e : Env} {s : State} {m : MethodId} {args : Array Value} {below : List Frame} {meth : Method} {c : Code} {Q : State → Prop} {E : xE} {b : Nat} (C : xC p s m args meth c cX10_nextToken 2 RX10 none E b) (Lm : xn) {y65 : xm}
    (kx0 : ∀ (H : Heap) (locs : List Loc) (ls : Array Slot), xM E b NY (cY E b y65 Lm) s.heap H locs → lv_has ls 2 [] → W p l e (xR 2) s m args below meth c H locs 0 0 Q (F0 m 310 ls [])) :
    ∀ (n : Nat) (M64 : xm) (H : Heap) (locs : List Loc) (ls : Array Slot), g_X10_nextToken_85 Lm n M64 = some y65 → xM E b NY (cY E b M64 Lm) s.heap H locs → lv_has ls 2 [(0, .ref (b + 0))] → W p l e (xR 2) s m args below meth c H locs 0 0 Q (F0 m 85 ls []) := by
  have hx := C.1.1
  have hb := C.1.2.1
  intro n
  induction n with
  | zero =>
    intro M64 H locs ls hf hm hl
    rw [g_X10_nextToken_85] at hf
    cases hf
  | succ n ih =>
    intro M64 H locs ls hf hm hl
    rw [g_X10_nextToken_85] at hf
    refine lv_aload_n hx hb dX10_nextToken_85 rfl (lv_at hl 0 rfl) ?_
    refine lv_aload_n hx hb dX10_nextToken_86 rfl (lv_at hl 0 rfl) ?_
    refine x_get C hm inX10 rfl 7 (by decide) tf_RX10_90 cy_0 rfl dX10_nextToken_87 ?_
    obtain ⟨v67, hq66, hf⟩ := xb1_e hf
    refine x_callVi (As := [.int (M64 0 7)]) (rest := []) C hm (c_X10_byteAt l E b M64 Lm (M64 0 7) hq66) rfl cy_0 tc_X10_byteAt tm_RX10_93 ti_X10_byteAt ts_X10_byteAt tn_RX10 td_X10_byteAt rfl rfl ⟨Nat.le_of_ble_eq_true rfl, Nat.le_of_ble_eq_true rfl⟩ rfl hl.1 rfl (Nat.le_of_ble_eq_true rfl) ⟨Nat.zero_le _, Nat.zero_le _⟩ dX10_nextToken_90 (fun H locs hP68 hm => ?_)
    refine x_callSi (As := [.int v67]) (rest := []) C hm (c_X10_isFigure l E b M64 Lm v67 rfl) tc_X10_isFigure tm_RX10_102 tz_X10_isFigure tn_RX10 td_X10_isFigure rfl rfl ⟨Nat.le_of_ble_eq_true rfl, Nat.le_of_ble_eq_true rfl⟩ rfl hl.1 rfl (Nat.le_of_ble_eq_true rfl) ⟨Nat.zero_le _, Nat.zero_le _⟩ dX10_nextToken_93 (fun H locs hP69 hm => ?_)
    refine lv_if_eq (tgt := 310) hx hb dX10_nextToken_96 (by decide) (fun hc70 => ?_) (fun hc70 => ?_)
    · have hf := xif_t hc70 hf
      cases hf
      exact kx0 H locs ls hm (lv_sub hl [] rfl)
    have hf := xif_f hc70 hf
    refine lv_aload_n hx hb dX10_nextToken_99 rfl (lv_at hl 0 rfl) ?_
    refine lv_aload_n hx hb dX10_nextToken_100 rfl (lv_at hl 0 rfl) ?_
    refine x_get C hm inX10 rfl 10 (by decide) tf_RX10_105 cy_0 rfl dX10_nextToken_101 ?_
    refine lv_ldc (v := (99999 : Int32)) hx hb C.1.2.2.2.1 (C.1.2.2.2.2 _ tk_RX10_108) dX10_nextToken_104 ?_
    refine lv_icmp_le (tgt := 116) hx hb dX10_nextToken_106 (by decide) (fun hc71 => ?_) (fun hc71 => ?_)
    rotate_left
    · have hf := xif_f hc71 hf
      refine lv_aload_n hx hb dX10_nextToken_109 rfl (lv_at hl 0 rfl) ?_
      refine x_get C hm inX10 rfl 10 (by decide) tf_RX10_105 cy_0 rfl dX10_nextToken_110 ?_
      refine lv_goto (tgt := 135) hx hb dX10_nextToken_113 (by decide) ?_
      obtain ⟨M77, eM77, hf⟩ := xlet_x hf
      refine x_put (cf' := cY E b M77 Lm) C hm inX10 tyX10 tyX10_ok nmX10 rfl 10 (by decide) tf_RX10_105 rfl rfl rfl cy_0 (Nat.le_of_ble_eq_true rfl) (by rw [eM77]; exact cyf_10) (by rw [eM77]; exact cY_o) dX10_nextToken_135 (fun H locs hm => ?_)
      refine lv_aload_n hx hb dX10_nextToken_138 rfl (lv_at hl 0 rfl) ?_
      refine lv_dup hx hb dX10_nextToken_139 rfl ?_
      refine x_get C hm inX10 rfl 7 (by decide) tf_RX10_90 cy_0 rfl dX10_nextToken_140 ?_
      refine lv_iconst (v := (1 : Int32)) hx hb dX10_nextToken_143 (by decide) ?_
      refine lv_iadd hx hb dX10_nextToken_144 ?_
      obtain ⟨M78, eM78, hf⟩ := xlet_x hf
      refine x_put (cf' := cY E b M78 Lm) C hm inX10 tyX10 tyX10_ok nmX10 rfl 7 (by decide) tf_RX10_90 rfl rfl rfl cy_0 (Nat.le_of_ble_eq_true rfl) (by rw [eM78]; exact cyf_7) (by rw [eM78]; exact cY_o) dX10_nextToken_145 (fun H locs hm => ?_)
      refine lv_goto (tgt := 85) hx hb dX10_nextToken_148 (by decide) ?_
      exact ih M78 H locs ls hf hm (lv_sub hl [0] rfl)
    have hf := xif_t hc71 hf
    refine lv_bipush (v := (10 : Int32)) hx hb dX10_nextToken_116 (by decide) ?_
    refine lv_aload_n hx hb dX10_nextToken_118 rfl (lv_at hl 0 rfl) ?_
    refine x_get C hm inX10 rfl 10 (by decide) tf_RX10_105 cy_0 rfl dX10_nextToken_119 ?_
    refine lv_imul hx hb dX10_nextToken_122 ?_
    refine lv_aload_n hx hb dX10_nextToken_123 rfl (lv_at hl 0 rfl) ?_
    refine lv_aload_n hx hb dX10_nextToken_124 rfl (lv_at hl 0 rfl) ?_
    refine x_get C hm inX10 rfl 7 (by decide) tf_RX10_90 cy_0 rfl dX10_nextToken_125 ?_
    obtain ⟨v73, hq72, hf⟩ := xb1_e hf
    refine x_callVi (As := [.int (M64 0 7)]) (rest := [.int ((10 : Int32) * (M64 0 10)), .ref (b + 0)]) C hm (c_X10_byteAt l E b M64 Lm (M64 0 7) hq72) rfl cy_0 tc_X10_byteAt tm_RX10_93 ti_X10_byteAt ts_X10_byteAt tn_RX10 td_X10_byteAt rfl rfl ⟨Nat.le_of_ble_eq_true rfl, Nat.le_of_ble_eq_true rfl⟩ rfl hl.1 rfl (Nat.le_of_ble_eq_true rfl) ⟨Nat.zero_le _, Nat.zero_le _⟩ dX10_nextToken_128 (fun H locs hP74 hm => ?_)
    refine lv_iadd hx hb dX10_nextToken_131 ?_
    refine lv_bipush (v := (48 : Int32)) hx hb dX10_nextToken_132 (by decide) ?_
    refine lv_isub hx hb dX10_nextToken_134 ?_
    obtain ⟨M75, eM75, hf⟩ := xlet_x hf
    refine x_put (cf' := cY E b M75 Lm) C hm inX10 tyX10 tyX10_ok nmX10 rfl 10 (by decide) tf_RX10_105 rfl rfl rfl cy_0 (Nat.le_of_ble_eq_true rfl) (by rw [eM75]; exact cyf_10) (by rw [eM75]; exact cY_o) dX10_nextToken_135 (fun H locs hm => ?_)
    refine lv_aload_n hx hb dX10_nextToken_138 rfl (lv_at hl 0 rfl) ?_
    refine lv_dup hx hb dX10_nextToken_139 rfl ?_
    refine x_get C hm inX10 rfl 7 (by decide) tf_RX10_90 cy_0 rfl dX10_nextToken_140 ?_
    refine lv_iconst (v := (1 : Int32)) hx hb dX10_nextToken_143 (by decide) ?_
    refine lv_iadd hx hb dX10_nextToken_144 ?_
    obtain ⟨M76, eM76, hf⟩ := xlet_x hf
    refine x_put (cf' := cY E b M76 Lm) C hm inX10 tyX10 tyX10_ok nmX10 rfl 7 (by decide) tf_RX10_90 rfl rfl rfl cy_0 (Nat.le_of_ble_eq_true rfl) (by rw [eM76]; exact cyf_7) (by rw [eM76]; exact cY_o) dX10_nextToken_145 (fun H locs hm => ?_)
    refine lv_goto (tgt := 85) hx hb dX10_nextToken_148 (by decide) ?_
    exact ih M76 H locs ls hf hm (lv_sub hl [0] rfl)
set_option maxHeartbeats 4000000 in
set_option maxRecDepth 20000 in
theorem c_X10_nextToken (l : Launch) (E : xE) (b : Nat) (M : xm) (Lm : xn) {M' : xm} {L' : xn} (hf : f_X10_nextToken M Lm = some (M', L')) :
    xMet l E b NY yX10_nextToken cX10_nextToken 2 none (xR 2) [.ref (b + 0)] (cY E b M Lm) none True (cY E b M' L') := by
  refine xMet.ofW (own := RX10) (by decide) rfl (Nat.le_of_ble_eq_true rfl) ?_
  intro p e s m below meth c H locs ls C hm hl
  have hx := C.1.1
  have hb := C.1.2.1
  have hl : lv_has ls 2 [(0, .ref (b + 0))] := hl
  unfold f_X10_nextToken at hf
  obtain ⟨M13, hq, hf⟩ := xb1_e hf
  refine j_X10_nextToken_0 C Lm (fun H locs ls hm hl => ?_) xfuel M H locs ls hq hm (lv_sub hl [0] rfl)
  refine lv_aload_n hx hb dX10_nextToken_39 rfl (lv_at hl 0 rfl) ?_
  refine lv_aload_n hx hb dX10_nextToken_40 rfl (lv_at hl 0 rfl) ?_
  refine x_get C hm inX10 rfl 7 (by decide) tf_RX10_90 cy_0 rfl dX10_nextToken_41 ?_
  obtain ⟨M14, eM14, hf⟩ := xlet_x hf
  refine x_put (cf' := cY E b M14 Lm) C hm inX10 tyX10 tyX10_ok nmX10 rfl 8 (by decide) tf_RX10_96 rfl rfl rfl cy_0 (Nat.le_of_ble_eq_true rfl) (by rw [eM14]; exact cyf_8) (by rw [eM14]; exact cY_o) dX10_nextToken_44 (fun H locs hm => ?_)
  refine lv_aload_n hx hb dX10_nextToken_47 rfl (lv_at hl 0 rfl) ?_
  refine lv_aload_n hx hb dX10_nextToken_48 rfl (lv_at hl 0 rfl) ?_
  refine x_get C hm inX10 rfl 7 (by decide) tf_RX10_90 cy_0 rfl dX10_nextToken_49 ?_
  obtain ⟨v16, hq15, hf⟩ := xb1_e hf
  refine x_callVi (As := [.int (M14 0 7)]) (rest := []) C hm (c_X10_byteAt l E b M14 Lm (M14 0 7) hq15) rfl cy_0 tc_X10_byteAt tm_RX10_93 ti_X10_byteAt ts_X10_byteAt tn_RX10 td_X10_byteAt rfl rfl ⟨Nat.le_of_ble_eq_true rfl, Nat.le_of_ble_eq_true rfl⟩ rfl hl.1 rfl (Nat.le_of_ble_eq_true rfl) ⟨Nat.zero_le _, Nat.zero_le _⟩ dX10_nextToken_52 (fun H locs hP17 hm => ?_)
  refine lv_istore_n (lv' := [(1, .int v16), (0, .ref (b + 0))]) hx hb dX10_nextToken_55 rfl hl (by decide) rfl (fun ls hl => ?_)
  refine lv_iload_n hx hb dX10_nextToken_56 rfl (lv_at hl 0 rfl) ?_
  refine lv_if_ge (tgt := 68) hx hb dX10_nextToken_57 (by decide) (fun hc18 => ?_) (fun hc18 => ?_)
  rotate_left
  · have hf := xif_f hc18 hf
    refine lv_aload_n hx hb dX10_nextToken_60 rfl (lv_at hl 1 rfl) ?_
    refine lv_iconst (v := (0 : Int32)) hx hb dX10_nextToken_61 (by decide) ?_
    obtain ⟨M80, eM80, hf⟩ := xlet_x hf
    refine x_put (cf' := cY E b M80 Lm) C hm inX10 tyX10 tyX10_ok nmX10 rfl 9 (by decide) tf_RX10_99 rfl rfl rfl cy_0 (Nat.le_of_ble_eq_true rfl) (by rw [eM80]; exact cyf_9) (by rw [eM80]; exact cY_o) dX10_nextToken_62 (fun H locs hm => ?_)
    refine lv_goto (tgt := 310) hx hb dX10_nextToken_65 (by decide) ?_
    cases hf
    exact x_vret C hm trivial dX10_nextToken_310
  have hf := xif_t hc18 hf
  refine lv_iload_n hx hb dX10_nextToken_68 rfl (lv_at hl 0 rfl) ?_
  refine x_callSi (As := [.int v16]) (rest := []) C hm (c_X10_isFigure l E b M14 Lm v16 rfl) tc_X10_isFigure tm_RX10_102 tz_X10_isFigure tn_RX10 td_X10_isFigure rfl rfl ⟨Nat.le_of_ble_eq_true rfl, Nat.le_of_ble_eq_true rfl⟩ rfl hl.1 rfl (Nat.le_of_ble_eq_true rfl) ⟨Nat.zero_le _, Nat.zero_le _⟩ dX10_nextToken_69 (fun H locs hP19 hm => ?_)
  refine lv_if_eq (tgt := 151) hx hb dX10_nextToken_72 (by decide) (fun hc20 => ?_) (fun hc20 => ?_)
  rotate_left
  · have hf := xif_f hc20 hf
    refine lv_aload_n hx hb dX10_nextToken_75 rfl (lv_at hl 1 rfl) ?_
    refine lv_iconst (v := (1 : Int32)) hx hb dX10_nextToken_76 (by decide) ?_
    obtain ⟨M62, eM62, hf⟩ := xlet_x hf
    refine x_put (cf' := cY E b M62 Lm) C hm inX10 tyX10 tyX10_ok nmX10 rfl 9 (by decide) tf_RX10_99 rfl rfl rfl cy_0 (Nat.le_of_ble_eq_true rfl) (by rw [eM62]; exact cyf_9) (by rw [eM62]; exact cY_o) dX10_nextToken_77 (fun H locs hm => ?_)
    refine lv_aload_n hx hb dX10_nextToken_80 rfl (lv_at hl 1 rfl) ?_
    refine lv_iconst (v := (0 : Int32)) hx hb dX10_nextToken_81 (by decide) ?_
    obtain ⟨M63, eM63, hf⟩ := xlet_x hf
    refine x_put (cf' := cY E b M63 Lm) C hm inX10 tyX10 tyX10_ok nmX10 rfl 10 (by decide) tf_RX10_105 rfl rfl rfl cy_0 (Nat.le_of_ble_eq_true rfl) (by rw [eM63]; exact cyf_10) (by rw [eM63]; exact cY_o) dX10_nextToken_82 (fun H locs hm => ?_)
    obtain ⟨M79, hq, hf⟩ := xb1_e hf
    refine j_X10_nextToken_85 C Lm (fun H locs ls hm hl => ?_) xfuel M63 H locs ls hq hm (lv_sub hl [1] rfl)
    cases hf
    exact x_vret C hm trivial dX10_nextToken_310
  have hf := xif_t hc20 hf
  refine lv_iload_n hx hb dX10_nextToken_151 rfl (lv_at hl 0 rfl) ?_
  refine x_callSi (As := [.int v16]) (rest := []) C hm (c_X10_isLetterByte l E b M14 Lm v16 rfl) tc_X10_isLetterByte tm_RX10_109 tz_X10_isLetterByte tn_RX10 td_X10_isLetterByte rfl rfl ⟨Nat.le_of_ble_eq_true rfl, Nat.le_of_ble_eq_true rfl⟩ rfl hl.1 rfl (Nat.le_of_ble_eq_true rfl) ⟨Nat.zero_le _, Nat.zero_le _⟩ dX10_nextToken_152 (fun H locs hP21 hm => ?_)
  refine lv_if_eq (tgt := 234) hx hb dX10_nextToken_155 (by decide) (fun hc22 => ?_) (fun hc22 => ?_)
  rotate_left
  · have hf := xif_f hc22 hf
    refine lv_aload_n hx hb dX10_nextToken_158 rfl (lv_at hl 1 rfl) ?_
    refine lv_iconst (v := (2 : Int32)) hx hb dX10_nextToken_159 (by decide) ?_
    obtain ⟨M41, eM41, hf⟩ := xlet_x hf
    refine x_put (cf' := cY E b M41 Lm) C hm inX10 tyX10 tyX10_ok nmX10 rfl 9 (by decide) tf_RX10_99 rfl rfl rfl cy_0 (Nat.le_of_ble_eq_true rfl) (by rw [eM41]; exact cyf_9) (by rw [eM41]; exact cY_o) dX10_nextToken_160 (fun H locs hm => ?_)
    refine lv_aload_n hx hb dX10_nextToken_163 rfl (lv_at hl 1 rfl) ?_
    refine lv_lconst (v := (0 : Int64)) hx hb dX10_nextToken_164 (by decide) ?_
    obtain ⟨L42, eL42, hf⟩ := xlet_x hf
    refine x_put (cf' := cY E b M41 L42) C hm inX10 tyX10 tyX10_ok nmX10 rfl 11 (by decide) tf_RX10_112 rfl rfl rfl cy_0 (Nat.le_of_ble_eq_true rfl) (by rw [eL42]; exact cyf_11) (by rw [eL42]; exact cY_oL) dX10_nextToken_165 (fun H locs hm => ?_)
    obtain ⟨M60, L61, hq, hf⟩ := xb2_e hf
    refine j_X10_nextToken_168 C (fun H locs ls hm hl => ?_) xfuel M41 L42 H locs ls hq hm (lv_sub hl [1] rfl)
    cases hf
    exact x_vret C hm trivial dX10_nextToken_310
  have hf := xif_t hc22 hf
  refine lv_aload_n hx hb dX10_nextToken_234 rfl (lv_at hl 1 rfl) ?_
  refine lv_iload_n hx hb dX10_nextToken_235 rfl (lv_at hl 0 rfl) ?_
  refine x_callSi (As := [.int v16]) (rest := [.ref (b + 0)]) C hm (c_X10_isSign l E b M14 Lm v16 rfl) tc_X10_isSign tm_RX10_118 tz_X10_isSign tn_RX10 td_X10_isSign rfl rfl ⟨Nat.le_of_ble_eq_true rfl, Nat.le_of_ble_eq_true rfl⟩ rfl hl.1 rfl (Nat.le_of_ble_eq_true rfl) ⟨Nat.zero_le _, Nat.zero_le _⟩ dX10_nextToken_236 (fun H locs hP23 hm => ?_)
  obtain ⟨k25, ek25, hf⟩ := xlet_x hf
  have jk25 : ∀ (w24 : Int32) (H : Heap) (locs : List Loc) (ls : Array Slot), k25 w24 = some (M', L') → xM E b NY (cY E b M14 Lm) s.heap H locs → lv_has ls 2 [(0, .ref (b + 0)), (1, .int v16)] → W p l e (xR 2) s m ([.ref (b + 0)] : List Value).toArray below meth c H locs 0 0 (MQ below (xQ E b NY none True (cY E b M' L')) ([.ref (b + 0)] : List Value).toArray s 0 0 (xA b NY)) (F0 m 247 ls [.int w24, .ref (b + 0)]) := by
    intro w24 H locs ls hf hm hl
    have hf := xap1 ek25 hf
    obtain ⟨M26, eM26, hf⟩ := xlet_x hf
    refine x_put (cf' := cY E b M26 Lm) C hm inX10 tyX10 tyX10_ok nmX10 rfl 9 (by decide) tf_RX10_99 rfl rfl rfl cy_0 (Nat.le_of_ble_eq_true rfl) (by rw [eM26]; exact cyf_9) (by rw [eM26]; exact cY_o) dX10_nextToken_247 (fun H locs hm => ?_)
    refine lv_aload_n hx hb dX10_nextToken_250 rfl (lv_at hl 0 rfl) ?_
    refine lv_dup hx hb dX10_nextToken_251 rfl ?_
    refine x_get C hm inX10 rfl 7 (by decide) tf_RX10_90 cy_0 rfl dX10_nextToken_252 ?_
    refine lv_iconst (v := (1 : Int32)) hx hb dX10_nextToken_255 (by decide) ?_
    refine lv_iadd hx hb dX10_nextToken_256 ?_
    obtain ⟨M27, eM27, hf⟩ := xlet_x hf
    refine x_put (cf' := cY E b M27 Lm) C hm inX10 tyX10 tyX10_ok nmX10 rfl 7 (by decide) tf_RX10_90 rfl rfl rfl cy_0 (Nat.le_of_ble_eq_true rfl) (by rw [eM27]; exact cyf_7) (by rw [eM27]; exact cY_o) dX10_nextToken_257 (fun H locs hm => ?_)
    refine lv_iload_n hx hb dX10_nextToken_260 rfl (lv_at hl 1 rfl) ?_
    refine lv_bipush (v := (60 : Int32)) hx hb dX10_nextToken_261 (by decide) ?_
    obtain ⟨k28, ek28, hf⟩ := xlet_x hf
    have jk28 : ∀  (H : Heap) (locs : List Loc) (ls : Array Slot), k28 = some (M', L') → xM E b NY (cY E b M27 Lm) s.heap H locs → lv_has ls 2 [(0, .ref (b + 0)), (1, .int v16)] → W p l e (xR 2) s m ([.ref (b + 0)] : List Value).toArray below meth c H locs 0 0 (MQ below (xQ E b NY none True (cY E b M' L')) ([.ref (b + 0)] : List Value).toArray s 0 0 (xA b NY)) (F0 m 272 ls []) := by
      intro  H locs ls hf hm hl
      have hf := xap0 ek28 hf
      refine lv_aload_n hx hb dX10_nextToken_272 rfl (lv_at hl 0 rfl) ?_
      refine lv_aload_n hx hb dX10_nextToken_273 rfl (lv_at hl 0 rfl) ?_
      refine x_get C hm inX10 rfl 7 (by decide) tf_RX10_90 cy_0 rfl dX10_nextToken_274 ?_
      obtain ⟨v30, hq29, hf⟩ := xb1_e hf
      refine x_callVi (As := [.int (M27 0 7)]) (rest := []) C hm (c_X10_byteAt l E b M27 Lm (M27 0 7) hq29) rfl cy_0 tc_X10_byteAt tm_RX10_93 ti_X10_byteAt ts_X10_byteAt tn_RX10 td_X10_byteAt rfl rfl ⟨Nat.le_of_ble_eq_true rfl, Nat.le_of_ble_eq_true rfl⟩ rfl hl.1 rfl (Nat.le_of_ble_eq_true rfl) ⟨Nat.zero_le _, Nat.zero_le _⟩ dX10_nextToken_277 (fun H locs hP31 hm => ?_)
      refine lv_bipush (v := (61 : Int32)) hx hb dX10_nextToken_280 (by decide) ?_
      refine lv_icmp_ne (tgt := 310) hx hb dX10_nextToken_282 (by decide) (fun hc32 => ?_) (fun hc32 => ?_)
      · have hf := xif_f hc32 hf
        cases hf
        exact x_vret C hm trivial dX10_nextToken_310
      have hf := xif_t hc32 hf
      refine lv_aload_n hx hb dX10_nextToken_285 rfl (lv_at hl 0 rfl) ?_
      refine lv_iload_n hx hb dX10_nextToken_286 rfl (lv_at hl 1 rfl) ?_
      refine lv_bipush (v := (60 : Int32)) hx hb dX10_nextToken_287 (by decide) ?_
      refine lv_icmp_ne (tgt := 296) hx hb dX10_nextToken_289 (by decide) (fun hc33 => ?_) (fun hc33 => ?_)
      · have hf := xif_f hc33 hf
        refine lv_iconst (v := (5 : Int32)) hx hb dX10_nextToken_296 (by decide) ?_
        obtain ⟨M34, eM34, hf⟩ := xlet_x hf
        refine x_put (cf' := cY E b M34 Lm) C hm inX10 tyX10 tyX10_ok nmX10 rfl 9 (by decide) tf_RX10_99 rfl rfl rfl cy_0 (Nat.le_of_ble_eq_true rfl) (by rw [eM34]; exact cyf_9) (by rw [eM34]; exact cY_o) dX10_nextToken_297 (fun H locs hm => ?_)
        refine lv_aload_n hx hb dX10_nextToken_300 rfl (lv_at hl 0 rfl) ?_
        refine lv_dup hx hb dX10_nextToken_301 rfl ?_
        refine x_get C hm inX10 rfl 7 (by decide) tf_RX10_90 cy_0 rfl dX10_nextToken_302 ?_
        refine lv_iconst (v := (1 : Int32)) hx hb dX10_nextToken_305 (by decide) ?_
        refine lv_iadd hx hb dX10_nextToken_306 ?_
        obtain ⟨M35, eM35, hf⟩ := xlet_x hf
        refine x_put (cf' := cY E b M35 Lm) C hm inX10 tyX10 tyX10_ok nmX10 rfl 7 (by decide) tf_RX10_90 rfl rfl rfl cy_0 (Nat.le_of_ble_eq_true rfl) (by rw [eM35]; exact cyf_7) (by rw [eM35]; exact cY_o) dX10_nextToken_307 (fun H locs hm => ?_)
        cases hf
        exact x_vret C hm trivial dX10_nextToken_310
      have hf := xif_t hc33 hf
      refine lv_iconst (v := (4 : Int32)) hx hb dX10_nextToken_292 (by decide) ?_
      refine lv_goto (tgt := 297) hx hb dX10_nextToken_293 (by decide) ?_
      obtain ⟨M36, eM36, hf⟩ := xlet_x hf
      refine x_put (cf' := cY E b M36 Lm) C hm inX10 tyX10 tyX10_ok nmX10 rfl 9 (by decide) tf_RX10_99 rfl rfl rfl cy_0 (Nat.le_of_ble_eq_true rfl) (by rw [eM36]; exact cyf_9) (by rw [eM36]; exact cY_o) dX10_nextToken_297 (fun H locs hm => ?_)
      refine lv_aload_n hx hb dX10_nextToken_300 rfl (lv_at hl 0 rfl) ?_
      refine lv_dup hx hb dX10_nextToken_301 rfl ?_
      refine x_get C hm inX10 rfl 7 (by decide) tf_RX10_90 cy_0 rfl dX10_nextToken_302 ?_
      refine lv_iconst (v := (1 : Int32)) hx hb dX10_nextToken_305 (by decide) ?_
      refine lv_iadd hx hb dX10_nextToken_306 ?_
      obtain ⟨M37, eM37, hf⟩ := xlet_x hf
      refine x_put (cf' := cY E b M37 Lm) C hm inX10 tyX10 tyX10_ok nmX10 rfl 7 (by decide) tf_RX10_90 rfl rfl rfl cy_0 (Nat.le_of_ble_eq_true rfl) (by rw [eM37]; exact cyf_7) (by rw [eM37]; exact cY_o) dX10_nextToken_307 (fun H locs hm => ?_)
      cases hf
      exact x_vret C hm trivial dX10_nextToken_310
    refine lv_icmp_eq (tgt := 272) hx hb dX10_nextToken_263 (by decide) (fun hc38 => ?_) (fun hc38 => ?_)
    · have hf := xif_t hc38 hf
      exact jk28  H locs ls  hf hm (lv_sub hl [0, 1] rfl)
    have hf := xif_f hc38 hf
    refine lv_iload_n hx hb dX10_nextToken_266 rfl (lv_at hl 1 rfl) ?_
    refine lv_bipush (v := (62 : Int32)) hx hb dX10_nextToken_267 (by decide) ?_
    refine lv_icmp_ne (tgt := 310) hx hb dX10_nextToken_269 (by decide) (fun hc39 => ?_) (fun hc39 => ?_)
    rotate_left
    · have hf := xif_t hc39 hf
      exact jk28  H locs ls  hf hm (lv_sub hl [0, 1] rfl)
    have hf := xif_f hc39 hf
    cases hf
    exact x_vret C hm trivial dX10_nextToken_310
  refine lv_if_eq (tgt := 246) hx hb dX10_nextToken_239 (by decide) (fun hc40 => ?_) (fun hc40 => ?_)
  · have hf := xif_t hc40 hf
    refine lv_iconst (v := (3 : Int32)) hx hb dX10_nextToken_246 (by decide) ?_
    exact jk25 (3 : Int32) H locs ls  hf hm (lv_sub hl [1, 0] rfl)
  have hf := xif_f hc40 hf
  refine lv_iload_n hx hb dX10_nextToken_242 rfl (lv_at hl 0 rfl) ?_
  refine lv_goto (tgt := 247) hx hb dX10_nextToken_243 (by decide) ?_
  exact jk25 v16 H locs ls  hf hm (lv_sub hl [1, 0] rfl)
/-! ColouredHeapModel.opened(I)I -/
theorem dX10_opened_0 : decode cX10_opened 0 = .ok (.aload_n 0, 1) := by decide +kernel
theorem dX10_opened_1 : decode cX10_opened 1 = .ok (.getfield 160, 3) := by decide +kernel
theorem dX10_opened_4 : decode cX10_opened 4 = .ok (.bipush 8, 2) := by decide +kernel
theorem dX10_opened_6 : decode cX10_opened 6 = .ok (.if_icmp .ne 5, 3) := by decide +kernel
theorem dX10_opened_9 : decode cX10_opened 9 = .ok (.iconst 3, 1) := by decide +kernel
theorem dX10_opened_10 : decode cX10_opened 10 = .ok (.ireturn, 1) := by decide +kernel
theorem dX10_opened_11 : decode cX10_opened 11 = .ok (.aload_n 0, 1) := by decide +kernel
theorem dX10_opened_12 : decode cX10_opened 12 = .ok (.dup, 1) := by decide +kernel
theorem dX10_opened_13 : decode cX10_opened 13 = .ok (.getfield 160, 3) := by decide +kernel
theorem dX10_opened_16 : decode cX10_opened 16 = .ok (.iconst 1, 1) := by decide +kernel
theorem dX10_opened_17 : decode cX10_opened 17 = .ok (.iadd, 1) := by decide +kernel
theorem dX10_opened_18 : decode cX10_opened 18 = .ok (.putfield 160, 3) := by decide +kernel
theorem dX10_opened_21 : decode cX10_opened 21 = .ok (.aload_n 0, 1) := by decide +kernel
theorem dX10_opened_22 : decode cX10_opened 22 = .ok (.getfield 29, 3) := by decide +kernel
theorem dX10_opened_25 : decode cX10_opened 25 = .ok (.aload_n 0, 1) := by decide +kernel
theorem dX10_opened_26 : decode cX10_opened 26 = .ok (.getfield 150, 3) := by decide +kernel
theorem dX10_opened_29 : decode cX10_opened 29 = .ok (.iload_n 1, 1) := by decide +kernel
theorem dX10_opened_30 : decode cX10_opened 30 = .ok (.iastore, 1) := by decide +kernel
theorem dX10_opened_31 : decode cX10_opened 31 = .ok (.aload_n 0, 1) := by decide +kernel
theorem dX10_opened_32 : decode cX10_opened 32 = .ok (.dup, 1) := by decide +kernel
theorem dX10_opened_33 : decode cX10_opened 33 = .ok (.getfield 150, 3) := by decide +kernel
theorem dX10_opened_36 : decode cX10_opened 36 = .ok (.iconst 1, 1) := by decide +kernel
theorem dX10_opened_37 : decode cX10_opened 37 = .ok (.iadd, 1) := by decide +kernel
theorem dX10_opened_38 : decode cX10_opened 38 = .ok (.putfield 150, 3) := by decide +kernel
theorem dX10_opened_41 : decode cX10_opened 41 = .ok (.aload_n 0, 1) := by decide +kernel
theorem dX10_opened_42 : decode cX10_opened 42 = .ok (.invokevirtual 170, 3) := by decide +kernel
theorem dX10_opened_45 : decode cX10_opened 45 = .ok (.iconst 0, 1) := by decide +kernel
theorem dX10_opened_46 : decode cX10_opened 46 = .ok (.ireturn, 1) := by decide +kernel
def f_X10_opened (M : xm) (Lm : xn) (a1 : Int32) : Option (Int32 × xm × xn) := (if (M 0 17) = (8 : Int32) then some ((3 : Int32), M, Lm) else xlet (up2 M 0 17 ((M 0 17) + (1 : Int32))) (fun M2 => if xin (M2 0 16) 160 = true then xlet (up2 M2 5 (Int32.toNatClampNeg (M2 0 16)) a1) (fun M4 => xlet (up2 M4 0 16 ((M4 0 16) + (1 : Int32))) (fun M5 => xb2 (f_X10_nextToken M5 Lm) (fun M7 L8 => some ((0 : Int32), M7, L8)))) else none))
set_option maxHeartbeats 4000000 in
set_option maxRecDepth 20000 in
theorem c_X10_opened (l : Launch) (E : xE) (b : Nat) (M : xm) (Lm : xn) (a1 : Int32) {r : Int32} {M' : xm} {L' : xn} (hf : f_X10_opened M Lm a1 = some (r, M', L')) :
    xMet l E b NY yX10_opened cX10_opened 2 (some .int) (xR 3) [.ref (b + 0), .int a1] (cY E b M Lm) (some (.int r)) True (cY E b M' L') := by
  refine xMet.ofW (own := RX10) (by decide) rfl (Nat.le_of_ble_eq_true rfl) ?_
  intro p e s m below meth c H locs ls C hm hl
  have hx := C.1.1
  have hb := C.1.2.1
  have hl : lv_has ls 2 [(0, .ref (b + 0)), (1, .int a1)] := hl
  unfold f_X10_opened at hf
  refine lv_aload_n hx hb dX10_opened_0 rfl (lv_at hl 0 rfl) ?_
  refine x_get C hm inX10 rfl 17 (by decide) tf_RX10_160 cy_0 rfl dX10_opened_1 ?_
  refine lv_bipush (v := (8 : Int32)) hx hb dX10_opened_4 (by decide) ?_
  refine lv_icmp_ne (tgt := 11) hx hb dX10_opened_6 (by decide) (fun hc1 => ?_) (fun hc1 => ?_)
  rotate_left
  · have hf := xif_t hc1 hf
    refine lv_iconst (v := (3 : Int32)) hx hb dX10_opened_9 (by decide) ?_
    cases hf
    exact x_iret C hm trivial dX10_opened_10
  have hf := xif_f hc1 hf
  refine lv_aload_n hx hb dX10_opened_11 rfl (lv_at hl 0 rfl) ?_
  refine lv_dup hx hb dX10_opened_12 rfl ?_
  refine x_get C hm inX10 rfl 17 (by decide) tf_RX10_160 cy_0 rfl dX10_opened_13 ?_
  refine lv_iconst (v := (1 : Int32)) hx hb dX10_opened_16 (by decide) ?_
  refine lv_iadd hx hb dX10_opened_17 ?_
  obtain ⟨M2, eM2, hf⟩ := xlet_x hf
  refine x_put (cf' := cY E b M2 Lm) C hm inX10 tyX10 tyX10_ok nmX10 rfl 17 (by decide) tf_RX10_160 rfl rfl rfl cy_0 (Nat.le_of_ble_eq_true rfl) (by rw [eM2]; exact cyf_17) (by rw [eM2]; exact cY_o) dX10_opened_18 (fun H locs hm => ?_)
  refine lv_aload_n hx hb dX10_opened_21 rfl (lv_at hl 0 rfl) ?_
  refine x_get C hm inX10 rfl 15 (by decide) tf_RX10_29 cy_0 rfl dX10_opened_22 ?_
  refine lv_aload_n hx hb dX10_opened_25 rfl (lv_at hl 0 rfl) ?_
  refine x_get C hm inX10 rfl 16 (by decide) tf_RX10_150 cy_0 rfl dX10_opened_26 ?_
  refine lv_iload_n hx hb dX10_opened_29 rfl (lv_at hl 1 rfl) ?_
  obtain ⟨hi3, hf⟩ := xif_s hf
  obtain ⟨M4, eM4, hf⟩ := xlet_x hf
  refine x_iast (j := (Int32.toNatClampNeg (M2 0 16))) (cf' := cY E b M4 Lm) C hm cy_5 hi3 dX10_opened_30 rfl (by rw [eM4]; exact cyu_5) (by rw [eM4]; exact cY_o) (fun H locs hm => ?_)
  refine lv_aload_n hx hb dX10_opened_31 rfl (lv_at hl 0 rfl) ?_
  refine lv_dup hx hb dX10_opened_32 rfl ?_
  refine x_get C hm inX10 rfl 16 (by decide) tf_RX10_150 cy_0 rfl dX10_opened_33 ?_
  refine lv_iconst (v := (1 : Int32)) hx hb dX10_opened_36 (by decide) ?_
  refine lv_iadd hx hb dX10_opened_37 ?_
  obtain ⟨M5, eM5, hf⟩ := xlet_x hf
  refine x_put (cf' := cY E b M5 Lm) C hm inX10 tyX10 tyX10_ok nmX10 rfl 16 (by decide) tf_RX10_150 rfl rfl rfl cy_0 (Nat.le_of_ble_eq_true rfl) (by rw [eM5]; exact cyf_16) (by rw [eM5]; exact cY_o) dX10_opened_38 (fun H locs hm => ?_)
  refine lv_aload_n hx hb dX10_opened_41 rfl (lv_at hl 0 rfl) ?_
  obtain ⟨M7, L8, hq6, hf⟩ := xb2_e hf
  refine x_callVv (As := []) (rest := []) C hm (c_X10_nextToken l E b M5 Lm hq6) rfl cy_0 tc_X10_nextToken tm_RX10_170 ti_X10_nextToken ts_X10_nextToken tn_RX10 td_X10_nextToken rfl rfl ⟨Nat.le_of_ble_eq_true rfl, Nat.le_of_ble_eq_true rfl⟩ rfl hl.1 rfl (Nat.le_of_ble_eq_true rfl) ⟨Nat.zero_le _, Nat.zero_le _⟩ dX10_opened_42 (fun H locs hP9 hm => ?_)
  refine lv_iconst (v := (0 : Int32)) hx hb dX10_opened_45 (by decide) ?_
  cases hf
  exact x_iret C hm trivial dX10_opened_46
/-! ColouredHeapModel.settle(I)V -/
theorem dX10_settle_0 : decode cX10_settle 0 = .ok (.aload_n 0, 1) := by decide +kernel
theorem dX10_settle_1 : decode cX10_settle 1 = .ok (.getfield 150, 3) := by decide +kernel
theorem dX10_settle_4 : decode cX10_settle 4 = .ok (.ifCond .le 89, 3) := by decide +kernel
theorem dX10_settle_7 : decode cX10_settle 7 = .ok (.aload_n 0, 1) := by decide +kernel
theorem dX10_settle_8 : decode cX10_settle 8 = .ok (.getfield 29, 3) := by decide +kernel
theorem dX10_settle_11 : decode cX10_settle 11 = .ok (.aload_n 0, 1) := by decide +kernel
theorem dX10_settle_12 : decode cX10_settle 12 = .ok (.getfield 150, 3) := by decide +kernel
theorem dX10_settle_15 : decode cX10_settle 15 = .ok (.iconst 1, 1) := by decide +kernel
theorem dX10_settle_16 : decode cX10_settle 16 = .ok (.isub, 1) := by decide +kernel
theorem dX10_settle_17 : decode cX10_settle 17 = .ok (.iaload, 1) := by decide +kernel
theorem dX10_settle_18 : decode cX10_settle 18 = .ok (.invokestatic 153, 3) := by decide +kernel
theorem dX10_settle_21 : decode cX10_settle 21 = .ok (.iload_n 1, 1) := by decide +kernel
theorem dX10_settle_22 : decode cX10_settle 22 = .ok (.if_icmp .lt 71, 3) := by decide +kernel
theorem dX10_settle_25 : decode cX10_settle 25 = .ok (.aload_n 0, 1) := by decide +kernel
theorem dX10_settle_26 : decode cX10_settle 26 = .ok (.dup, 1) := by decide +kernel
theorem dX10_settle_27 : decode cX10_settle 27 = .ok (.getfield 150, 3) := by decide +kernel
theorem dX10_settle_30 : decode cX10_settle 30 = .ok (.iconst 1, 1) := by decide +kernel
theorem dX10_settle_31 : decode cX10_settle 31 = .ok (.isub, 1) := by decide +kernel
theorem dX10_settle_32 : decode cX10_settle 32 = .ok (.putfield 150, 3) := by decide +kernel
theorem dX10_settle_35 : decode cX10_settle 35 = .ok (.aload_n 0, 1) := by decide +kernel
theorem dX10_settle_36 : decode cX10_settle 36 = .ok (.aload_n 0, 1) := by decide +kernel
theorem dX10_settle_37 : decode cX10_settle 37 = .ok (.getfield 29, 3) := by decide +kernel
theorem dX10_settle_40 : decode cX10_settle 40 = .ok (.aload_n 0, 1) := by decide +kernel
theorem dX10_settle_41 : decode cX10_settle 41 = .ok (.getfield 150, 3) := by decide +kernel
theorem dX10_settle_44 : decode cX10_settle 44 = .ok (.iaload, 1) := by decide +kernel
theorem dX10_settle_45 : decode cX10_settle 45 = .ok (.iconst 0, 1) := by decide +kernel
theorem dX10_settle_46 : decode cX10_settle 46 = .ok (.invokevirtual 156, 3) := by decide +kernel
theorem dX10_settle_49 : decode cX10_settle 49 = .ok (.aload_n 0, 1) := by decide +kernel
theorem dX10_settle_50 : decode cX10_settle 50 = .ok (.getfield 29, 3) := by decide +kernel
theorem dX10_settle_53 : decode cX10_settle 53 = .ok (.aload_n 0, 1) := by decide +kernel
theorem dX10_settle_54 : decode cX10_settle 54 = .ok (.getfield 150, 3) := by decide +kernel
theorem dX10_settle_57 : decode cX10_settle 57 = .ok (.iaload, 1) := by decide +kernel
theorem dX10_settle_58 : decode cX10_settle 58 = .ok (.invokestatic 153, 3) := by decide +kernel
theorem dX10_settle_61 : decode cX10_settle 61 = .ok (.bipush 7, 2) := by decide +kernel
theorem dX10_settle_63 : decode cX10_settle 63 = .ok (.if_icmp .eq 17, 3) := by decide +kernel
theorem dX10_settle_66 : decode cX10_settle 66 = .ok (.aload_n 0, 1) := by decide +kernel
theorem dX10_settle_67 : decode cX10_settle 67 = .ok (.getfield 29, 3) := by decide +kernel
theorem dX10_settle_70 : decode cX10_settle 70 = .ok (.aload_n 0, 1) := by decide +kernel
theorem dX10_settle_71 : decode cX10_settle 71 = .ok (.getfield 150, 3) := by decide +kernel
theorem dX10_settle_74 : decode cX10_settle 74 = .ok (.iaload, 1) := by decide +kernel
theorem dX10_settle_75 : decode cX10_settle 75 = .ok (.bipush 20, 2) := by decide +kernel
theorem dX10_settle_77 : decode cX10_settle 77 = .ok (.if_icmp .ne (-77), 3) := by decide +kernel
theorem dX10_settle_80 : decode cX10_settle 80 = .ok (.aload_n 0, 1) := by decide +kernel
theorem dX10_settle_81 : decode cX10_settle 81 = .ok (.dup, 1) := by decide +kernel
theorem dX10_settle_82 : decode cX10_settle 82 = .ok (.getfield 160, 3) := by decide +kernel
theorem dX10_settle_85 : decode cX10_settle 85 = .ok (.iconst 1, 1) := by decide +kernel
theorem dX10_settle_86 : decode cX10_settle 86 = .ok (.isub, 1) := by decide +kernel
theorem dX10_settle_87 : decode cX10_settle 87 = .ok (.putfield 160, 3) := by decide +kernel
theorem dX10_settle_90 : decode cX10_settle 90 = .ok (.goto (-90), 3) := by decide +kernel
theorem dX10_settle_93 : decode cX10_settle 93 = .ok (.return_, 1) := by decide +kernel
def g_X10_settle_0 (x1 : Int32) : Nat → xm → Option ((xm))
  | 0, _ => none
  | n + 1, M2 => (if (M2 0 16) ≤ 0 then some (M2) else if xin ((M2 0 16) - (1 : Int32)) 160 = true then (if (f_X10_rank (M2 5 (Int32.toNatClampNeg ((M2 0 16) - (1 : Int32))))) < x1 then some (M2) else xlet (up2 M2 0 16 ((M2 0 16) - (1 : Int32))) (fun M8 => if xin (M8 0 16) 160 = true then xb1 (f_X10_emit M8 (M8 5 (Int32.toNatClampNeg (M8 0 16))) (0 : Int32)) (fun M11 => if xin (M11 0 16) 160 = true then (if (f_X10_rank (M11 5 (Int32.toNatClampNeg (M11 0 16)))) = (7 : Int32) then xlet (up2 M11 0 17 ((M11 0 17) - (1 : Int32))) (fun M16 => g_X10_settle_0 x1 n M16) else (if (M11 5 (Int32.toNatClampNeg (M11 0 16))) = (20 : Int32) then xlet (up2 M11 0 17 ((M11 0 17) - (1 : Int32))) (fun M18 => g_X10_settle_0 x1 n M18) else g_X10_settle_0 x1 n M11)) else none) else none)) else none)
def f_X10_settle (M : xm) (a1 : Int32) : Option (xm) := xb1 (g_X10_settle_0 a1 xfuel M) (fun M19 => some M19)
set_option maxHeartbeats 4000000 in
set_option maxRecDepth 20000 in
theorem j_X10_settle_0 {p : Program} {l : Launch} {e : Env} {s : State} {m : MethodId} {args : Array Value} {below : List Frame} {meth : Method} {c : Code} {Q : State → Prop} {E : xE} {b : Nat} (C : xC p s m args meth c cX10_settle 2 RX10 none E b) {Lm : xn} (x1 : Int32) {y3 : xm}
    (kx0 : ∀ (H : Heap) (locs : List Loc) (ls : Array Slot), xM E b NY (cY E b y3 Lm) s.heap H locs → lv_has ls 2 [] → W p l e (xR 2) s m args below meth c H locs 0 0 Q (F0 m 93 ls [])) :
    ∀ (n : Nat) (M2 : xm) (H : Heap) (locs : List Loc) (ls : Array Slot), g_X10_settle_0 x1 n M2 = some y3 → xM E b NY (cY E b M2 Lm) s.heap H locs → lv_has ls 2 [(0, .ref (b + 0)), (1, .int x1)] → W p l e (xR 2) s m args below meth c H locs 0 0 Q (F0 m 0 ls []) := by
  have hx := C.1.1
  have hb := C.1.2.1
  intro n
  induction n with
  | zero =>
    intro M2 H locs ls hf hm hl
    rw [g_X10_settle_0] at hf
    cases hf
  | succ n ih =>
    intro M2 H locs ls hf hm hl
    rw [g_X10_settle_0] at hf
    refine lv_aload_n hx hb dX10_settle_0 rfl (lv_at hl 0 rfl) ?_
    refine x_get C hm inX10 rfl 16 (by decide) tf_RX10_150 cy_0 rfl dX10_settle_1 ?_
    refine lv_if_le (tgt := 93) hx hb dX10_settle_4 (by decide) (fun hc4 => ?_) (fun hc4 => ?_)
    · have hf := xif_t hc4 hf
      cases hf
      exact kx0 H locs ls hm (lv_sub hl [] rfl)
    have hf := xif_f hc4 hf
    refine lv_aload_n hx hb dX10_settle_7 rfl (lv_at hl 0 rfl) ?_
    refine x_get C hm inX10 rfl 15 (by decide) tf_RX10_29 cy_0 rfl dX10_settle_8 ?_
    refine lv_aload_n hx hb dX10_settle_11 rfl (lv_at hl 0 rfl) ?_
    refine x_get C hm inX10 rfl 16 (by decide) tf_RX10_150 cy_0 rfl dX10_settle_12 ?_
    refine lv_iconst (v := (1 : Int32)) hx hb dX10_settle_15 (by decide) ?_
    refine lv_isub hx hb dX10_settle_16 ?_
    obtain ⟨hi5, hf⟩ := xif_s hf
    refine x_iald (j := (Int32.toNatClampNeg ((M2 0 16) - (1 : Int32)))) C hm cy_5 hi5 dX10_settle_17 rfl ?_
    refine x_callSi (As := [.int (M2 5 (Int32.toNatClampNeg ((M2 0 16) - (1 : Int32))))]) (rest := []) C hm (c_X10_rank l E b M2 Lm (M2 5 (Int32.toNatClampNeg ((M2 0 16) - (1 : Int32)))) rfl) tc_X10_rank tm_RX10_153 tz_X10_rank tn_RX10 td_X10_rank rfl rfl ⟨Nat.le_of_ble_eq_true rfl, Nat.le_of_ble_eq_true rfl⟩ rfl hl.1 rfl (Nat.le_of_ble_eq_true rfl) ⟨Nat.zero_le _, Nat.zero_le _⟩ dX10_settle_18 (fun H locs hP6 hm => ?_)
    refine lv_iload_n hx hb dX10_settle_21 rfl (lv_at hl 1 rfl) ?_
    refine lv_icmp_lt (tgt := 93) hx hb dX10_settle_22 (by decide) (fun hc7 => ?_) (fun hc7 => ?_)
    · have hf := xif_t hc7 hf
      cases hf
      exact kx0 H locs ls hm (lv_sub hl [] rfl)
    have hf := xif_f hc7 hf
    refine lv_aload_n hx hb dX10_settle_25 rfl (lv_at hl 0 rfl) ?_
    refine lv_dup hx hb dX10_settle_26 rfl ?_
    refine x_get C hm inX10 rfl 16 (by decide) tf_RX10_150 cy_0 rfl dX10_settle_27 ?_
    refine lv_iconst (v := (1 : Int32)) hx hb dX10_settle_30 (by decide) ?_
    refine lv_isub hx hb dX10_settle_31 ?_
    obtain ⟨M8, eM8, hf⟩ := xlet_x hf
    refine x_put (cf' := cY E b M8 Lm) C hm inX10 tyX10 tyX10_ok nmX10 rfl 16 (by decide) tf_RX10_150 rfl rfl rfl cy_0 (Nat.le_of_ble_eq_true rfl) (by rw [eM8]; exact cyf_16) (by rw [eM8]; exact cY_o) dX10_settle_32 (fun H locs hm => ?_)
    refine lv_aload_n hx hb dX10_settle_35 rfl (lv_at hl 0 rfl) ?_
    refine lv_aload_n hx hb dX10_settle_36 rfl (lv_at hl 0 rfl) ?_
    refine x_get C hm inX10 rfl 15 (by decide) tf_RX10_29 cy_0 rfl dX10_settle_37 ?_
    refine lv_aload_n hx hb dX10_settle_40 rfl (lv_at hl 0 rfl) ?_
    refine x_get C hm inX10 rfl 16 (by decide) tf_RX10_150 cy_0 rfl dX10_settle_41 ?_
    obtain ⟨hi9, hf⟩ := xif_s hf
    refine x_iald (j := (Int32.toNatClampNeg (M8 0 16))) C hm cy_5 hi9 dX10_settle_44 rfl ?_
    refine lv_iconst (v := (0 : Int32)) hx hb dX10_settle_45 (by decide) ?_
    obtain ⟨M11, hq10, hf⟩ := xb1_e hf
    refine x_callVv (As := [.int (M8 5 (Int32.toNatClampNeg (M8 0 16))), .int (0 : Int32)]) (rest := []) C hm (c_X10_emit l E b M8 Lm (M8 5 (Int32.toNatClampNeg (M8 0 16))) (0 : Int32) hq10) rfl cy_0 tc_X10_emit tm_RX10_156 ti_X10_emit ts_X10_emit tn_RX10 td_X10_emit rfl rfl ⟨Nat.le_of_ble_eq_true rfl, Nat.le_of_ble_eq_true rfl⟩ rfl hl.1 rfl (Nat.le_of_ble_eq_true rfl) ⟨Nat.zero_le _, Nat.zero_le _⟩ dX10_settle_46 (fun H locs hP12 hm => ?_)
    refine lv_aload_n hx hb dX10_settle_49 rfl (lv_at hl 0 rfl) ?_
    refine x_get C hm inX10 rfl 15 (by decide) tf_RX10_29 cy_0 rfl dX10_settle_50 ?_
    refine lv_aload_n hx hb dX10_settle_53 rfl (lv_at hl 0 rfl) ?_
    refine x_get C hm inX10 rfl 16 (by decide) tf_RX10_150 cy_0 rfl dX10_settle_54 ?_
    obtain ⟨hi13, hf⟩ := xif_s hf
    refine x_iald (j := (Int32.toNatClampNeg (M11 0 16))) C hm cy_5 hi13 dX10_settle_57 rfl ?_
    refine x_callSi (As := [.int (M11 5 (Int32.toNatClampNeg (M11 0 16)))]) (rest := []) C hm (c_X10_rank l E b M11 Lm (M11 5 (Int32.toNatClampNeg (M11 0 16))) rfl) tc_X10_rank tm_RX10_153 tz_X10_rank tn_RX10 td_X10_rank rfl rfl ⟨Nat.le_of_ble_eq_true rfl, Nat.le_of_ble_eq_true rfl⟩ rfl hl.1 rfl (Nat.le_of_ble_eq_true rfl) ⟨Nat.zero_le _, Nat.zero_le _⟩ dX10_settle_58 (fun H locs hP14 hm => ?_)
    refine lv_bipush (v := (7 : Int32)) hx hb dX10_settle_61 (by decide) ?_
    refine lv_icmp_eq (tgt := 80) hx hb dX10_settle_63 (by decide) (fun hc15 => ?_) (fun hc15 => ?_)
    · have hf := xif_t hc15 hf
      refine lv_aload_n hx hb dX10_settle_80 rfl (lv_at hl 0 rfl) ?_
      refine lv_dup hx hb dX10_settle_81 rfl ?_
      refine x_get C hm inX10 rfl 17 (by decide) tf_RX10_160 cy_0 rfl dX10_settle_82 ?_
      refine lv_iconst (v := (1 : Int32)) hx hb dX10_settle_85 (by decide) ?_
      refine lv_isub hx hb dX10_settle_86 ?_
      obtain ⟨M16, eM16, hf⟩ := xlet_x hf
      refine x_put (cf' := cY E b M16 Lm) C hm inX10 tyX10 tyX10_ok nmX10 rfl 17 (by decide) tf_RX10_160 rfl rfl rfl cy_0 (Nat.le_of_ble_eq_true rfl) (by rw [eM16]; exact cyf_17) (by rw [eM16]; exact cY_o) dX10_settle_87 (fun H locs hm => ?_)
      refine lv_goto (tgt := 0) hx hb dX10_settle_90 (by decide) ?_
      exact ih M16 H locs ls hf hm (lv_sub hl [0, 1] rfl)
    have hf := xif_f hc15 hf
    refine lv_aload_n hx hb dX10_settle_66 rfl (lv_at hl 0 rfl) ?_
    refine x_get C hm inX10 rfl 15 (by decide) tf_RX10_29 cy_0 rfl dX10_settle_67 ?_
    refine lv_aload_n hx hb dX10_settle_70 rfl (lv_at hl 0 rfl) ?_
    refine x_get C hm inX10 rfl 16 (by decide) tf_RX10_150 cy_0 rfl dX10_settle_71 ?_
    refine x_iald (j := (Int32.toNatClampNeg (M11 0 16))) C hm cy_5 hi13 dX10_settle_74 rfl ?_
    refine lv_bipush (v := (20 : Int32)) hx hb dX10_settle_75 (by decide) ?_
    refine lv_icmp_ne (tgt := 0) hx hb dX10_settle_77 (by decide) (fun hc17 => ?_) (fun hc17 => ?_)
    · have hf := xif_f hc17 hf
      exact ih M11 H locs ls hf hm (lv_sub hl [0, 1] rfl)
    have hf := xif_t hc17 hf
    refine lv_aload_n hx hb dX10_settle_80 rfl (lv_at hl 0 rfl) ?_
    refine lv_dup hx hb dX10_settle_81 rfl ?_
    refine x_get C hm inX10 rfl 17 (by decide) tf_RX10_160 cy_0 rfl dX10_settle_82 ?_
    refine lv_iconst (v := (1 : Int32)) hx hb dX10_settle_85 (by decide) ?_
    refine lv_isub hx hb dX10_settle_86 ?_
    obtain ⟨M18, eM18, hf⟩ := xlet_x hf
    refine x_put (cf' := cY E b M18 Lm) C hm inX10 tyX10 tyX10_ok nmX10 rfl 17 (by decide) tf_RX10_160 rfl rfl rfl cy_0 (Nat.le_of_ble_eq_true rfl) (by rw [eM18]; exact cyf_17) (by rw [eM18]; exact cY_o) dX10_settle_87 (fun H locs hm => ?_)
    refine lv_goto (tgt := 0) hx hb dX10_settle_90 (by decide) ?_
    exact ih M18 H locs ls hf hm (lv_sub hl [0, 1] rfl)
set_option maxHeartbeats 4000000 in
set_option maxRecDepth 20000 in
theorem c_X10_settle (l : Launch) (E : xE) (b : Nat) (M : xm) (Lm : xn) (a1 : Int32) {M' : xm} (hf : f_X10_settle M a1 = some M') :
    xMet l E b NY yX10_settle cX10_settle 2 none (xR 2) [.ref (b + 0), .int a1] (cY E b M Lm) none True (cY E b M' Lm) := by
  refine xMet.ofW (own := RX10) (by decide) rfl (Nat.le_of_ble_eq_true rfl) ?_
  intro p e s m below meth c H locs ls C hm hl
  have hx := C.1.1
  have hb := C.1.2.1
  have hl : lv_has ls 2 [(0, .ref (b + 0)), (1, .int a1)] := hl
  unfold f_X10_settle at hf
  obtain ⟨M19, hq, hf⟩ := xb1_e hf
  refine j_X10_settle_0 C a1 (fun H locs ls hm hl => ?_) xfuel M H locs ls hq hm (lv_sub hl [0, 1] rfl)
  cases hf
  exact x_vret C hm trivial dX10_settle_93
/-! ColouredHeapModel.beginOne()I -/
theorem dX10_beginOne_0 : decode cX10_beginOne 0 = .ok (.aload_n 0, 1) := by decide +kernel
theorem dX10_beginOne_1 : decode cX10_beginOne 1 = .ok (.getfield 99, 3) := by decide +kernel
theorem dX10_beginOne_4 : decode cX10_beginOne 4 = .ok (.iconst 1, 1) := by decide +kernel
theorem dX10_beginOne_5 : decode cX10_beginOne 5 = .ok (.if_icmp .ne 15, 3) := by decide +kernel
theorem dX10_beginOne_8 : decode cX10_beginOne 8 = .ok (.aload_n 0, 1) := by decide +kernel
theorem dX10_beginOne_9 : decode cX10_beginOne 9 = .ok (.getfield 105, 3) := by decide +kernel
theorem dX10_beginOne_12 : decode cX10_beginOne 12 = .ok (.sipush 9999, 3) := by decide +kernel
theorem dX10_beginOne_15 : decode cX10_beginOne 15 = .ok (.if_icmp .le 5, 3) := by decide +kernel
theorem dX10_beginOne_18 : decode cX10_beginOne 18 = .ok (.iconst 2, 1) := by decide +kernel
theorem dX10_beginOne_19 : decode cX10_beginOne 19 = .ok (.ireturn, 1) := by decide +kernel
theorem dX10_beginOne_20 : decode cX10_beginOne 20 = .ok (.aload_n 0, 1) := by decide +kernel
theorem dX10_beginOne_21 : decode cX10_beginOne 21 = .ok (.invokevirtual 173, 3) := by decide +kernel
theorem dX10_beginOne_24 : decode cX10_beginOne 24 = .ok (.istore_n 1, 1) := by decide +kernel
theorem dX10_beginOne_25 : decode cX10_beginOne 25 = .ok (.iload_n 1, 1) := by decide +kernel
theorem dX10_beginOne_26 : decode cX10_beginOne 26 = .ok (.ifCond .lt 13, 3) := by decide +kernel
theorem dX10_beginOne_29 : decode cX10_beginOne 29 = .ok (.aload_n 0, 1) := by decide +kernel
theorem dX10_beginOne_30 : decode cX10_beginOne 30 = .ok (.iload_n 1, 1) := by decide +kernel
theorem dX10_beginOne_31 : decode cX10_beginOne 31 = .ok (.invokevirtual 176, 3) := by decide +kernel
theorem dX10_beginOne_34 : decode cX10_beginOne 34 = .ok (.ifCond .ne 5, 3) := by decide +kernel
theorem dX10_beginOne_37 : decode cX10_beginOne 37 = .ok (.iconst 5, 1) := by decide +kernel
theorem dX10_beginOne_38 : decode cX10_beginOne 38 = .ok (.ireturn, 1) := by decide +kernel
theorem dX10_beginOne_39 : decode cX10_beginOne 39 = .ok (.aload_n 0, 1) := by decide +kernel
theorem dX10_beginOne_40 : decode cX10_beginOne 40 = .ok (.getfield 99, 3) := by decide +kernel
theorem dX10_beginOne_43 : decode cX10_beginOne 43 = .ok (.iconst 1, 1) := by decide +kernel
theorem dX10_beginOne_44 : decode cX10_beginOne 44 = .ok (.if_icmp .eq 7, 3) := by decide +kernel
theorem dX10_beginOne_47 : decode cX10_beginOne 47 = .ok (.iload_n 1, 1) := by decide +kernel
theorem dX10_beginOne_48 : decode cX10_beginOne 48 = .ok (.ifCond .lt 53, 3) := by decide +kernel
theorem dX10_beginOne_51 : decode cX10_beginOne 51 = .ok (.aload_n 0, 1) := by decide +kernel
theorem dX10_beginOne_52 : decode cX10_beginOne 52 = .ok (.aload_n 0, 1) := by decide +kernel
theorem dX10_beginOne_53 : decode cX10_beginOne 53 = .ok (.getfield 99, 3) := by decide +kernel
theorem dX10_beginOne_56 : decode cX10_beginOne 56 = .ok (.iconst 1, 1) := by decide +kernel
theorem dX10_beginOne_57 : decode cX10_beginOne 57 = .ok (.if_icmp .ne 7, 3) := by decide +kernel
theorem dX10_beginOne_60 : decode cX10_beginOne 60 = .ok (.iconst 0, 1) := by decide +kernel
theorem dX10_beginOne_61 : decode cX10_beginOne 61 = .ok (.goto 4, 3) := by decide +kernel
theorem dX10_beginOne_64 : decode cX10_beginOne 64 = .ok (.iconst 1, 1) := by decide +kernel
theorem dX10_beginOne_65 : decode cX10_beginOne 65 = .ok (.aload_n 0, 1) := by decide +kernel
theorem dX10_beginOne_66 : decode cX10_beginOne 66 = .ok (.getfield 99, 3) := by decide +kernel
theorem dX10_beginOne_69 : decode cX10_beginOne 69 = .ok (.iconst 1, 1) := by decide +kernel
theorem dX10_beginOne_70 : decode cX10_beginOne 70 = .ok (.if_icmp .ne 10, 3) := by decide +kernel
theorem dX10_beginOne_73 : decode cX10_beginOne 73 = .ok (.aload_n 0, 1) := by decide +kernel
theorem dX10_beginOne_74 : decode cX10_beginOne 74 = .ok (.getfield 105, 3) := by decide +kernel
theorem dX10_beginOne_77 : decode cX10_beginOne 77 = .ok (.goto 4, 3) := by decide +kernel
theorem dX10_beginOne_80 : decode cX10_beginOne 80 = .ok (.iload_n 1, 1) := by decide +kernel
theorem dX10_beginOne_81 : decode cX10_beginOne 81 = .ok (.invokevirtual 156, 3) := by decide +kernel
theorem dX10_beginOne_84 : decode cX10_beginOne 84 = .ok (.aload_n 0, 1) := by decide +kernel
theorem dX10_beginOne_85 : decode cX10_beginOne 85 = .ok (.invokevirtual 170, 3) := by decide +kernel
theorem dX10_beginOne_88 : decode cX10_beginOne 88 = .ok (.aload_n 0, 1) := by decide +kernel
theorem dX10_beginOne_89 : decode cX10_beginOne 89 = .ok (.iconst 1, 1) := by decide +kernel
theorem dX10_beginOne_90 : decode cX10_beginOne 90 = .ok (.putfield 179, 3) := by decide +kernel
theorem dX10_beginOne_93 : decode cX10_beginOne 93 = .ok (.aload_n 0, 1) := by decide +kernel
theorem dX10_beginOne_94 : decode cX10_beginOne 94 = .ok (.bipush 7, 2) := by decide +kernel
theorem dX10_beginOne_96 : decode cX10_beginOne 96 = .ok (.invokevirtual 183, 3) := by decide +kernel
theorem dX10_beginOne_99 : decode cX10_beginOne 99 = .ok (.iconst 0, 1) := by decide +kernel
theorem dX10_beginOne_100 : decode cX10_beginOne 100 = .ok (.ireturn, 1) := by decide +kernel
theorem dX10_beginOne_101 : decode cX10_beginOne 101 = .ok (.aload_n 0, 1) := by decide +kernel
theorem dX10_beginOne_102 : decode cX10_beginOne 102 = .ok (.getfield 99, 3) := by decide +kernel
theorem dX10_beginOne_105 : decode cX10_beginOne 105 = .ok (.bipush 40, 2) := by decide +kernel
theorem dX10_beginOne_107 : decode cX10_beginOne 107 = .ok (.if_icmp .ne 10, 3) := by decide +kernel
theorem dX10_beginOne_110 : decode cX10_beginOne 110 = .ok (.aload_n 0, 1) := by decide +kernel
theorem dX10_beginOne_111 : decode cX10_beginOne 111 = .ok (.bipush 40, 2) := by decide +kernel
theorem dX10_beginOne_113 : decode cX10_beginOne 113 = .ok (.invokevirtual 186, 3) := by decide +kernel
theorem dX10_beginOne_116 : decode cX10_beginOne 116 = .ok (.ireturn, 1) := by decide +kernel
theorem dX10_beginOne_117 : decode cX10_beginOne 117 = .ok (.aload_n 0, 1) := by decide +kernel
theorem dX10_beginOne_118 : decode cX10_beginOne 118 = .ok (.getfield 99, 3) := by decide +kernel
theorem dX10_beginOne_121 : decode cX10_beginOne 121 = .ok (.bipush 45, 2) := by decide +kernel
theorem dX10_beginOne_123 : decode cX10_beginOne 123 = .ok (.if_icmp .ne 9, 3) := by decide +kernel
theorem dX10_beginOne_126 : decode cX10_beginOne 126 = .ok (.aload_n 0, 1) := by decide +kernel
theorem dX10_beginOne_127 : decode cX10_beginOne 127 = .ok (.iconst 5, 1) := by decide +kernel
theorem dX10_beginOne_128 : decode cX10_beginOne 128 = .ok (.invokevirtual 186, 3) := by decide +kernel
theorem dX10_beginOne_131 : decode cX10_beginOne 131 = .ok (.ireturn, 1) := by decide +kernel
theorem dX10_beginOne_132 : decode cX10_beginOne 132 = .ok (.aload_n 0, 1) := by decide +kernel
theorem dX10_beginOne_133 : decode cX10_beginOne 133 = .ok (.bipush 108, 2) := by decide +kernel
theorem dX10_beginOne_135 : decode cX10_beginOne 135 = .ok (.bipush 105, 2) := by decide +kernel
theorem dX10_beginOne_137 : decode cX10_beginOne 137 = .ok (.bipush 118, 2) := by decide +kernel
theorem dX10_beginOne_139 : decode cX10_beginOne 139 = .ok (.bipush 101, 2) := by decide +kernel
theorem dX10_beginOne_141 : decode cX10_beginOne 141 = .ok (.invokestatic 129, 3) := by decide +kernel
theorem dX10_beginOne_144 : decode cX10_beginOne 144 = .ok (.invokevirtual 189, 3) := by decide +kernel
theorem dX10_beginOne_147 : decode cX10_beginOne 147 = .ok (.ifCond .eq 9, 3) := by decide +kernel
theorem dX10_beginOne_150 : decode cX10_beginOne 150 = .ok (.aload_n 0, 1) := by decide +kernel
theorem dX10_beginOne_151 : decode cX10_beginOne 151 = .ok (.iconst 2, 1) := by decide +kernel
theorem dX10_beginOne_152 : decode cX10_beginOne 152 = .ok (.invokevirtual 186, 3) := by decide +kernel
theorem dX10_beginOne_155 : decode cX10_beginOne 155 = .ok (.ireturn, 1) := by decide +kernel
theorem dX10_beginOne_156 : decode cX10_beginOne 156 = .ok (.aload_n 0, 1) := by decide +kernel
theorem dX10_beginOne_157 : decode cX10_beginOne 157 = .ok (.bipush 117, 2) := by decide +kernel
theorem dX10_beginOne_159 : decode cX10_beginOne 159 = .ok (.bipush 115, 2) := by decide +kernel
theorem dX10_beginOne_161 : decode cX10_beginOne 161 = .ok (.bipush 101, 2) := by decide +kernel
theorem dX10_beginOne_163 : decode cX10_beginOne 163 = .ok (.bipush 100, 2) := by decide +kernel
theorem dX10_beginOne_165 : decode cX10_beginOne 165 = .ok (.invokestatic 129, 3) := by decide +kernel
theorem dX10_beginOne_168 : decode cX10_beginOne 168 = .ok (.invokevirtual 189, 3) := by decide +kernel
theorem dX10_beginOne_171 : decode cX10_beginOne 171 = .ok (.ifCond .eq 9, 3) := by decide +kernel
theorem dX10_beginOne_174 : decode cX10_beginOne 174 = .ok (.aload_n 0, 1) := by decide +kernel
theorem dX10_beginOne_175 : decode cX10_beginOne 175 = .ok (.iconst 4, 1) := by decide +kernel
theorem dX10_beginOne_176 : decode cX10_beginOne 176 = .ok (.invokevirtual 186, 3) := by decide +kernel
theorem dX10_beginOne_179 : decode cX10_beginOne 179 = .ok (.ireturn, 1) := by decide +kernel
theorem dX10_beginOne_180 : decode cX10_beginOne 180 = .ok (.aload_n 0, 1) := by decide +kernel
theorem dX10_beginOne_181 : decode cX10_beginOne 181 = .ok (.bipush 105, 2) := by decide +kernel
theorem dX10_beginOne_183 : decode cX10_beginOne 183 = .ok (.bipush 102, 2) := by decide +kernel
theorem dX10_beginOne_185 : decode cX10_beginOne 185 = .ok (.invokestatic 121, 3) := by decide +kernel
theorem dX10_beginOne_188 : decode cX10_beginOne 188 = .ok (.invokevirtual 189, 3) := by decide +kernel
theorem dX10_beginOne_191 : decode cX10_beginOne 191 = .ok (.ifCond .eq 10, 3) := by decide +kernel
theorem dX10_beginOne_194 : decode cX10_beginOne 194 = .ok (.aload_n 0, 1) := by decide +kernel
theorem dX10_beginOne_195 : decode cX10_beginOne 195 = .ok (.bipush 41, 2) := by decide +kernel
theorem dX10_beginOne_197 : decode cX10_beginOne 197 = .ok (.invokevirtual 186, 3) := by decide +kernel
theorem dX10_beginOne_200 : decode cX10_beginOne 200 = .ok (.ireturn, 1) := by decide +kernel
theorem dX10_beginOne_201 : decode cX10_beginOne 201 = .ok (.aload_n 0, 1) := by decide +kernel
theorem dX10_beginOne_202 : decode cX10_beginOne 202 = .ok (.bipush 110, 2) := by decide +kernel
theorem dX10_beginOne_204 : decode cX10_beginOne 204 = .ok (.bipush 111, 2) := by decide +kernel
theorem dX10_beginOne_206 : decode cX10_beginOne 206 = .ok (.bipush 116, 2) := by decide +kernel
theorem dX10_beginOne_208 : decode cX10_beginOne 208 = .ok (.invokestatic 125, 3) := by decide +kernel
theorem dX10_beginOne_211 : decode cX10_beginOne 211 = .ok (.invokevirtual 189, 3) := by decide +kernel
theorem dX10_beginOne_214 : decode cX10_beginOne 214 = .ok (.ifCond .eq 19, 3) := by decide +kernel
theorem dX10_beginOne_217 : decode cX10_beginOne 217 = .ok (.aload_n 0, 1) := by decide +kernel
theorem dX10_beginOne_218 : decode cX10_beginOne 218 = .ok (.invokevirtual 193, 3) := by decide +kernel
theorem dX10_beginOne_221 : decode cX10_beginOne 221 = .ok (.ifCond .eq 12, 3) := by decide +kernel
theorem dX10_beginOne_224 : decode cX10_beginOne 224 = .ok (.aload_n 0, 1) := by decide +kernel
theorem dX10_beginOne_225 : decode cX10_beginOne 225 = .ok (.bipush 20, 2) := by decide +kernel
theorem dX10_beginOne_227 : decode cX10_beginOne 227 = .ok (.invokevirtual 186, 3) := by decide +kernel
theorem dX10_beginOne_230 : decode cX10_beginOne 230 = .ok (.goto 4, 3) := by decide +kernel
theorem dX10_beginOne_233 : decode cX10_beginOne 233 = .ok (.iconst 1, 1) := by decide +kernel
theorem dX10_beginOne_234 : decode cX10_beginOne 234 = .ok (.ireturn, 1) := by decide +kernel
def f_X10_beginOne (M : xm) (Lm : xn) : Option (Int32 × xm × xn) := xlet (xlet (f_X10_nameOf M Lm) (fun v3 => xlet (xlet (xlet (fun (w6 : Int32) => xlet (fun (w8 : Int32) (w9 : Int32) => xb1 (f_X10_emit M w8 w9) (fun M12 => xb2 (f_X10_nextToken M12 Lm) (fun M15 L16 => xlet (up2 M15 0 18 (1 : Int32)) (fun M18 => xb1 (f_X10_settle M18 (7 : Int32)) (fun M20 => some ((0 : Int32), M20, L16)))))) (fun k10 => (if (M 0 9) = (1 : Int32) then (k10 w6 (M 0 10)) else (k10 w6 v3)))) (fun k7 => (if (M 0 9) = (1 : Int32) then (k7 (0 : Int32)) else (k7 (1 : Int32))))) (fun k5 => (if (M 0 9) = (1 : Int32) then k5 else (if v3 < 0 then (if (M 0 9) = (40 : Int32) then xb3 (f_X10_opened M Lm (40 : Int32)) (fun v70 M71 L72 => some (v70, M71, L72)) else (if (M 0 9) = (45 : Int32) then xb3 (f_X10_opened M Lm (5 : Int32)) (fun v65 M66 L67 => some (v65, M66, L67)) else (if (f_X10_isWord M Lm (f_X10_w4 (108 : Int32) (105 : Int32) (118 : Int32) (101 : Int32))) = 0 then (if (f_X10_isWord M Lm (f_X10_w4 (117 : Int32) (115 : Int32) (101 : Int32) (100 : Int32))) = 0 then (if (f_X10_isWord M Lm (f_X10_w2 (105 : Int32) (102 : Int32))) = 0 then (if (f_X10_isWord M Lm (f_X10_w3 (110 : Int32) (111 : Int32) (116 : Int32))) = 0 then some ((1 : Int32), M, Lm) else xb1 (f_X10_isAskAhead M) (fun v41 => (if v41 = 0 then some ((1 : Int32), M, Lm) else xb3 (f_X10_opened M Lm (20 : Int32)) (fun v45 M46 L47 => some (v45, M46, L47))))) else xb3 (f_X10_opened M Lm (41 : Int32)) (fun v50 M51 L52 => some (v50, M51, L52))) else xb3 (f_X10_opened M Lm (4 : Int32)) (fun v55 M56 L57 => some (v55, M56, L57))) else xb3 (f_X10_opened M Lm (2 : Int32)) (fun v60 M61 L62 => some (v60, M61, L62))))) else k5)))) (fun k4 => (if v3 < 0 then k4 else (if (f_X10_isOf M v3) = 0 then some ((5 : Int32), M, Lm) else k4))))) (fun k1 => (if (M 0 9) = (1 : Int32) then (if (M 0 10) ≤ (9999 : Int32) then k1 else some ((2 : Int32), M, Lm)) else k1))
set_option maxHeartbeats 4000000 in
set_option maxRecDepth 20000 in
theorem c_X10_beginOne (l : Launch) (E : xE) (b : Nat) (M : xm) (Lm : xn) {r : Int32} {M' : xm} {L' : xn} (hf : f_X10_beginOne M Lm = some (r, M', L')) :
    xMet l E b NY yX10_beginOne cX10_beginOne 2 (some .int) (xR 7) [.ref (b + 0)] (cY E b M Lm) (some (.int r)) True (cY E b M' L') := by
  refine xMet.ofW (own := RX10) (by decide) rfl (Nat.le_of_ble_eq_true rfl) ?_
  intro p e s m below meth c H locs ls C hm hl
  have hx := C.1.1
  have hb := C.1.2.1
  have hl : lv_has ls 2 [(0, .ref (b + 0))] := hl
  unfold f_X10_beginOne at hf
  refine lv_aload_n hx hb dX10_beginOne_0 rfl (lv_at hl 0 rfl) ?_
  refine x_get C hm inX10 rfl 9 (by decide) tf_RX10_99 cy_0 rfl dX10_beginOne_1 ?_
  refine lv_iconst (v := (1 : Int32)) hx hb dX10_beginOne_4 (by decide) ?_
  obtain ⟨k1, ek1, hf⟩ := xlet_x hf
  have jk1 : ∀  (H : Heap) (locs : List Loc) (ls : Array Slot), k1 = some (r, M', L') → xM E b NY (cY E b M Lm) s.heap H locs → lv_has ls 2 [(0, .ref (b + 0))] → W p l e (xR 7) s m ([.ref (b + 0)] : List Value).toArray below meth c H locs 0 0 (MQ below (xQ E b NY (some (.int r)) True (cY E b M' L')) ([.ref (b + 0)] : List Value).toArray s 0 0 (xA b NY)) (F0 m 20 ls []) := by
    intro  H locs ls hf hm hl
    have hf := xap0 ek1 hf
    refine lv_aload_n hx hb dX10_beginOne_20 rfl (lv_at hl 0 rfl) ?_
    refine x_callVi (As := []) (rest := []) C hm (c_X10_nameOf l E b M Lm rfl) rfl cy_0 tc_X10_nameOf tm_RX10_173 ti_X10_nameOf ts_X10_nameOf tn_RX10 td_X10_nameOf rfl rfl ⟨Nat.le_of_ble_eq_true rfl, Nat.le_of_ble_eq_true rfl⟩ rfl hl.1 rfl (Nat.le_of_ble_eq_true rfl) ⟨Nat.zero_le _, Nat.zero_le _⟩ dX10_beginOne_21 (fun H locs hP2 hm => ?_)
    refine lv_topi (fun v3 ev3 => ?_)
    have hf := xlet_e ev3 hf
    refine lv_istore_n (lv' := [(1, .int v3), (0, .ref (b + 0))]) hx hb dX10_beginOne_24 rfl hl (by decide) rfl (fun ls hl => ?_)
    refine lv_iload_n hx hb dX10_beginOne_25 rfl (lv_at hl 0 rfl) ?_
    obtain ⟨k4, ek4, hf⟩ := xlet_x hf
    have jk4 : ∀  (H : Heap) (locs : List Loc) (ls : Array Slot), k4 = some (r, M', L') → xM E b NY (cY E b M Lm) s.heap H locs → lv_has ls 2 [(0, .ref (b + 0)), (1, .int v3)] → W p l e (xR 7) s m ([.ref (b + 0)] : List Value).toArray below meth c H locs 0 0 (MQ below (xQ E b NY (some (.int r)) True (cY E b M' L')) ([.ref (b + 0)] : List Value).toArray s 0 0 (xA b NY)) (F0 m 39 ls []) := by
      intro  H locs ls hf hm hl
      have hf := xap0 ek4 hf
      refine lv_aload_n hx hb dX10_beginOne_39 rfl (lv_at hl 0 rfl) ?_
      refine x_get C hm inX10 rfl 9 (by decide) tf_RX10_99 cy_0 rfl dX10_beginOne_40 ?_
      refine lv_iconst (v := (1 : Int32)) hx hb dX10_beginOne_43 (by decide) ?_
      obtain ⟨k5, ek5, hf⟩ := xlet_x hf
      have jk5 : ∀  (H : Heap) (locs : List Loc) (ls : Array Slot), k5 = some (r, M', L') → xM E b NY (cY E b M Lm) s.heap H locs → lv_has ls 2 [(0, .ref (b + 0)), (1, .int v3)] → W p l e (xR 7) s m ([.ref (b + 0)] : List Value).toArray below meth c H locs 0 0 (MQ below (xQ E b NY (some (.int r)) True (cY E b M' L')) ([.ref (b + 0)] : List Value).toArray s 0 0 (xA b NY)) (F0 m 51 ls []) := by
        intro  H locs ls hf hm hl
        have hf := xap0 ek5 hf
        refine lv_aload_n hx hb dX10_beginOne_51 rfl (lv_at hl 0 rfl) ?_
        refine lv_aload_n hx hb dX10_beginOne_52 rfl (lv_at hl 0 rfl) ?_
        refine x_get C hm inX10 rfl 9 (by decide) tf_RX10_99 cy_0 rfl dX10_beginOne_53 ?_
        refine lv_iconst (v := (1 : Int32)) hx hb dX10_beginOne_56 (by decide) ?_
        obtain ⟨k7, ek7, hf⟩ := xlet_x hf
        have jk7 : ∀ (w6 : Int32) (H : Heap) (locs : List Loc) (ls : Array Slot), k7 w6 = some (r, M', L') → xM E b NY (cY E b M Lm) s.heap H locs → lv_has ls 2 [(0, .ref (b + 0)), (1, .int v3)] → W p l e (xR 7) s m ([.ref (b + 0)] : List Value).toArray below meth c H locs 0 0 (MQ below (xQ E b NY (some (.int r)) True (cY E b M' L')) ([.ref (b + 0)] : List Value).toArray s 0 0 (xA b NY)) (F0 m 65 ls [.int w6, .ref (b + 0)]) := by
          intro w6 H locs ls hf hm hl
          have hf := xap1 ek7 hf
          refine lv_aload_n hx hb dX10_beginOne_65 rfl (lv_at hl 0 rfl) ?_
          refine x_get C hm inX10 rfl 9 (by decide) tf_RX10_99 cy_0 rfl dX10_beginOne_66 ?_
          refine lv_iconst (v := (1 : Int32)) hx hb dX10_beginOne_69 (by decide) ?_
          obtain ⟨k10, ek10, hf⟩ := xlet_x hf
          have jk10 : ∀ (w8 : Int32) (w9 : Int32) (H : Heap) (locs : List Loc) (ls : Array Slot), k10 w8 w9 = some (r, M', L') → xM E b NY (cY E b M Lm) s.heap H locs → lv_has ls 2 [(0, .ref (b + 0))] → W p l e (xR 7) s m ([.ref (b + 0)] : List Value).toArray below meth c H locs 0 0 (MQ below (xQ E b NY (some (.int r)) True (cY E b M' L')) ([.ref (b + 0)] : List Value).toArray s 0 0 (xA b NY)) (F0 m 81 ls [.int w9, .int w8, .ref (b + 0)]) := by
            intro w8 w9 H locs ls hf hm hl
            have hf := xap2 ek10 hf
            obtain ⟨M12, hq11, hf⟩ := xb1_e hf
            refine x_callVv (As := [.int w8, .int w9]) (rest := []) C hm (c_X10_emit l E b M Lm w8 w9 hq11) rfl cy_0 tc_X10_emit tm_RX10_156 ti_X10_emit ts_X10_emit tn_RX10 td_X10_emit rfl rfl ⟨Nat.le_of_ble_eq_true rfl, Nat.le_of_ble_eq_true rfl⟩ rfl hl.1 rfl (Nat.le_of_ble_eq_true rfl) ⟨Nat.zero_le _, Nat.zero_le _⟩ dX10_beginOne_81 (fun H locs hP13 hm => ?_)
            refine lv_aload_n hx hb dX10_beginOne_84 rfl (lv_at hl 0 rfl) ?_
            obtain ⟨M15, L16, hq14, hf⟩ := xb2_e hf
            refine x_callVv (As := []) (rest := []) C hm (c_X10_nextToken l E b M12 Lm hq14) rfl cy_0 tc_X10_nextToken tm_RX10_170 ti_X10_nextToken ts_X10_nextToken tn_RX10 td_X10_nextToken rfl rfl ⟨Nat.le_of_ble_eq_true rfl, Nat.le_of_ble_eq_true rfl⟩ rfl hl.1 rfl (Nat.le_of_ble_eq_true rfl) ⟨Nat.zero_le _, Nat.zero_le _⟩ dX10_beginOne_85 (fun H locs hP17 hm => ?_)
            refine lv_aload_n hx hb dX10_beginOne_88 rfl (lv_at hl 0 rfl) ?_
            refine lv_iconst (v := (1 : Int32)) hx hb dX10_beginOne_89 (by decide) ?_
            obtain ⟨M18, eM18, hf⟩ := xlet_x hf
            refine x_put (cf' := cY E b M18 L16) C hm inX10 tyX10 tyX10_ok nmX10 rfl 18 (by decide) tf_RX10_179 rfl (xbo_n (by decide)) rfl cy_0 (Nat.le_of_ble_eq_true rfl) (by rw [eM18]; exact cyf_18) (by rw [eM18]; exact cY_o) dX10_beginOne_90 (fun H locs hm => ?_)
            refine lv_aload_n hx hb dX10_beginOne_93 rfl (lv_at hl 0 rfl) ?_
            refine lv_bipush (v := (7 : Int32)) hx hb dX10_beginOne_94 (by decide) ?_
            obtain ⟨M20, hq19, hf⟩ := xb1_e hf
            refine x_callVv (As := [.int (7 : Int32)]) (rest := []) C hm (c_X10_settle l E b M18 L16 (7 : Int32) hq19) rfl cy_0 tc_X10_settle tm_RX10_183 ti_X10_settle ts_X10_settle tn_RX10 td_X10_settle rfl rfl ⟨Nat.le_of_ble_eq_true rfl, Nat.le_of_ble_eq_true rfl⟩ rfl hl.1 rfl (Nat.le_of_ble_eq_true rfl) ⟨Nat.zero_le _, Nat.zero_le _⟩ dX10_beginOne_96 (fun H locs hP21 hm => ?_)
            refine lv_iconst (v := (0 : Int32)) hx hb dX10_beginOne_99 (by decide) ?_
            cases hf
            exact x_iret C hm trivial dX10_beginOne_100
          refine lv_icmp_ne (tgt := 80) hx hb dX10_beginOne_70 (by decide) (fun hc22 => ?_) (fun hc22 => ?_)
          · have hf := xif_f hc22 hf
            refine lv_iload_n hx hb dX10_beginOne_80 rfl (lv_at hl 1 rfl) ?_
            exact jk10 w6 v3 H locs ls  hf hm (lv_sub hl [0] rfl)
          have hf := xif_t hc22 hf
          refine lv_aload_n hx hb dX10_beginOne_73 rfl (lv_at hl 0 rfl) ?_
          refine x_get C hm inX10 rfl 10 (by decide) tf_RX10_105 cy_0 rfl dX10_beginOne_74 ?_
          refine lv_goto (tgt := 81) hx hb dX10_beginOne_77 (by decide) ?_
          exact jk10 w6 (M 0 10) H locs ls  hf hm (lv_sub hl [0] rfl)
        refine lv_icmp_ne (tgt := 64) hx hb dX10_beginOne_57 (by decide) (fun hc23 => ?_) (fun hc23 => ?_)
        · have hf := xif_f hc23 hf
          refine lv_iconst (v := (1 : Int32)) hx hb dX10_beginOne_64 (by decide) ?_
          exact jk7 (1 : Int32) H locs ls  hf hm (lv_sub hl [0, 1] rfl)
        have hf := xif_t hc23 hf
        refine lv_iconst (v := (0 : Int32)) hx hb dX10_beginOne_60 (by decide) ?_
        refine lv_goto (tgt := 65) hx hb dX10_beginOne_61 (by decide) ?_
        exact jk7 (0 : Int32) H locs ls  hf hm (lv_sub hl [0, 1] rfl)
      refine lv_icmp_eq (tgt := 51) hx hb dX10_beginOne_44 (by decide) (fun hc24 => ?_) (fun hc24 => ?_)
      · have hf := xif_t hc24 hf
        exact jk5  H locs ls  hf hm (lv_sub hl [0, 1] rfl)
      have hf := xif_f hc24 hf
      refine lv_iload_n hx hb dX10_beginOne_47 rfl (lv_at hl 1 rfl) ?_
      refine lv_if_lt (tgt := 101) hx hb dX10_beginOne_48 (by decide) (fun hc25 => ?_) (fun hc25 => ?_)
      rotate_left
      · have hf := xif_f hc25 hf
        exact jk5  H locs ls  hf hm (lv_sub hl [0, 1] rfl)
      have hf := xif_t hc25 hf
      refine lv_aload_n hx hb dX10_beginOne_101 rfl (lv_at hl 0 rfl) ?_
      refine x_get C hm inX10 rfl 9 (by decide) tf_RX10_99 cy_0 rfl dX10_beginOne_102 ?_
      refine lv_bipush (v := (40 : Int32)) hx hb dX10_beginOne_105 (by decide) ?_
      refine lv_icmp_ne (tgt := 117) hx hb dX10_beginOne_107 (by decide) (fun hc26 => ?_) (fun hc26 => ?_)
      rotate_left
      · have hf := xif_t hc26 hf
        refine lv_aload_n hx hb dX10_beginOne_110 rfl (lv_at hl 0 rfl) ?_
        refine lv_bipush (v := (40 : Int32)) hx hb dX10_beginOne_111 (by decide) ?_
        obtain ⟨v70, M71, L72, hq69, hf⟩ := xb3_e hf
        refine x_callVi (As := [.int (40 : Int32)]) (rest := []) C hm (c_X10_opened l E b M Lm (40 : Int32) hq69) rfl cy_0 tc_X10_opened tm_RX10_186 ti_X10_opened ts_X10_opened tn_RX10 td_X10_opened rfl rfl ⟨Nat.le_of_ble_eq_true rfl, Nat.le_of_ble_eq_true rfl⟩ rfl hl.1 rfl (Nat.le_of_ble_eq_true rfl) ⟨Nat.zero_le _, Nat.zero_le _⟩ dX10_beginOne_113 (fun H locs hP73 hm => ?_)
        cases hf
        exact x_iret C hm trivial dX10_beginOne_116
      have hf := xif_f hc26 hf
      refine lv_aload_n hx hb dX10_beginOne_117 rfl (lv_at hl 0 rfl) ?_
      refine x_get C hm inX10 rfl 9 (by decide) tf_RX10_99 cy_0 rfl dX10_beginOne_118 ?_
      refine lv_bipush (v := (45 : Int32)) hx hb dX10_beginOne_121 (by decide) ?_
      refine lv_icmp_ne (tgt := 132) hx hb dX10_beginOne_123 (by decide) (fun hc27 => ?_) (fun hc27 => ?_)
      rotate_left
      · have hf := xif_t hc27 hf
        refine lv_aload_n hx hb dX10_beginOne_126 rfl (lv_at hl 0 rfl) ?_
        refine lv_iconst (v := (5 : Int32)) hx hb dX10_beginOne_127 (by decide) ?_
        obtain ⟨v65, M66, L67, hq64, hf⟩ := xb3_e hf
        refine x_callVi (As := [.int (5 : Int32)]) (rest := []) C hm (c_X10_opened l E b M Lm (5 : Int32) hq64) rfl cy_0 tc_X10_opened tm_RX10_186 ti_X10_opened ts_X10_opened tn_RX10 td_X10_opened rfl rfl ⟨Nat.le_of_ble_eq_true rfl, Nat.le_of_ble_eq_true rfl⟩ rfl hl.1 rfl (Nat.le_of_ble_eq_true rfl) ⟨Nat.zero_le _, Nat.zero_le _⟩ dX10_beginOne_128 (fun H locs hP68 hm => ?_)
        cases hf
        exact x_iret C hm trivial dX10_beginOne_131
      have hf := xif_f hc27 hf
      refine lv_aload_n hx hb dX10_beginOne_132 rfl (lv_at hl 0 rfl) ?_
      refine lv_bipush (v := (108 : Int32)) hx hb dX10_beginOne_133 (by decide) ?_
      refine lv_bipush (v := (105 : Int32)) hx hb dX10_beginOne_135 (by decide) ?_
      refine lv_bipush (v := (118 : Int32)) hx hb dX10_beginOne_137 (by decide) ?_
      refine lv_bipush (v := (101 : Int32)) hx hb dX10_beginOne_139 (by decide) ?_
      refine x_callSl (As := [.int (108 : Int32), .int (105 : Int32), .int (118 : Int32), .int (101 : Int32)]) (rest := [.ref (b + 0)]) C hm (c_X10_w4 l E b M Lm (108 : Int32) (105 : Int32) (118 : Int32) (101 : Int32) rfl) tc_X10_w4 tm_RX10_129 tz_X10_w4 tn_RX10 td_X10_w4 rfl rfl ⟨Nat.le_of_ble_eq_true rfl, Nat.le_of_ble_eq_true rfl⟩ rfl hl.1 rfl (Nat.le_of_ble_eq_true rfl) ⟨Nat.zero_le _, Nat.zero_le _⟩ dX10_beginOne_141 (fun H locs hP28 hm => ?_)
      refine x_callVi (As := [.long (f_X10_w4 (108 : Int32) (105 : Int32) (118 : Int32) (101 : Int32))]) (rest := []) C hm (c_X10_isWord l E b M Lm (f_X10_w4 (108 : Int32) (105 : Int32) (118 : Int32) (101 : Int32)) rfl) rfl cy_0 tc_X10_isWord tm_RX10_189 ti_X10_isWord ts_X10_isWord tn_RX10 td_X10_isWord rfl rfl ⟨Nat.le_of_ble_eq_true rfl, Nat.le_of_ble_eq_true rfl⟩ rfl hl.1 rfl (Nat.le_of_ble_eq_true rfl) ⟨Nat.zero_le _, Nat.zero_le _⟩ dX10_beginOne_144 (fun H locs hP29 hm => ?_)
      refine lv_if_eq (tgt := 156) hx hb dX10_beginOne_147 (by decide) (fun hc30 => ?_) (fun hc30 => ?_)
      rotate_left
      · have hf := xif_f hc30 hf
        refine lv_aload_n hx hb dX10_beginOne_150 rfl (lv_at hl 0 rfl) ?_
        refine lv_iconst (v := (2 : Int32)) hx hb dX10_beginOne_151 (by decide) ?_
        obtain ⟨v60, M61, L62, hq59, hf⟩ := xb3_e hf
        refine x_callVi (As := [.int (2 : Int32)]) (rest := []) C hm (c_X10_opened l E b M Lm (2 : Int32) hq59) rfl cy_0 tc_X10_opened tm_RX10_186 ti_X10_opened ts_X10_opened tn_RX10 td_X10_opened rfl rfl ⟨Nat.le_of_ble_eq_true rfl, Nat.le_of_ble_eq_true rfl⟩ rfl hl.1 rfl (Nat.le_of_ble_eq_true rfl) ⟨Nat.zero_le _, Nat.zero_le _⟩ dX10_beginOne_152 (fun H locs hP63 hm => ?_)
        cases hf
        exact x_iret C hm trivial dX10_beginOne_155
      have hf := xif_t hc30 hf
      refine lv_aload_n hx hb dX10_beginOne_156 rfl (lv_at hl 0 rfl) ?_
      refine lv_bipush (v := (117 : Int32)) hx hb dX10_beginOne_157 (by decide) ?_
      refine lv_bipush (v := (115 : Int32)) hx hb dX10_beginOne_159 (by decide) ?_
      refine lv_bipush (v := (101 : Int32)) hx hb dX10_beginOne_161 (by decide) ?_
      refine lv_bipush (v := (100 : Int32)) hx hb dX10_beginOne_163 (by decide) ?_
      refine x_callSl (As := [.int (117 : Int32), .int (115 : Int32), .int (101 : Int32), .int (100 : Int32)]) (rest := [.ref (b + 0)]) C hm (c_X10_w4 l E b M Lm (117 : Int32) (115 : Int32) (101 : Int32) (100 : Int32) rfl) tc_X10_w4 tm_RX10_129 tz_X10_w4 tn_RX10 td_X10_w4 rfl rfl ⟨Nat.le_of_ble_eq_true rfl, Nat.le_of_ble_eq_true rfl⟩ rfl hl.1 rfl (Nat.le_of_ble_eq_true rfl) ⟨Nat.zero_le _, Nat.zero_le _⟩ dX10_beginOne_165 (fun H locs hP31 hm => ?_)
      refine x_callVi (As := [.long (f_X10_w4 (117 : Int32) (115 : Int32) (101 : Int32) (100 : Int32))]) (rest := []) C hm (c_X10_isWord l E b M Lm (f_X10_w4 (117 : Int32) (115 : Int32) (101 : Int32) (100 : Int32)) rfl) rfl cy_0 tc_X10_isWord tm_RX10_189 ti_X10_isWord ts_X10_isWord tn_RX10 td_X10_isWord rfl rfl ⟨Nat.le_of_ble_eq_true rfl, Nat.le_of_ble_eq_true rfl⟩ rfl hl.1 rfl (Nat.le_of_ble_eq_true rfl) ⟨Nat.zero_le _, Nat.zero_le _⟩ dX10_beginOne_168 (fun H locs hP32 hm => ?_)
      refine lv_if_eq (tgt := 180) hx hb dX10_beginOne_171 (by decide) (fun hc33 => ?_) (fun hc33 => ?_)
      rotate_left
      · have hf := xif_f hc33 hf
        refine lv_aload_n hx hb dX10_beginOne_174 rfl (lv_at hl 0 rfl) ?_
        refine lv_iconst (v := (4 : Int32)) hx hb dX10_beginOne_175 (by decide) ?_
        obtain ⟨v55, M56, L57, hq54, hf⟩ := xb3_e hf
        refine x_callVi (As := [.int (4 : Int32)]) (rest := []) C hm (c_X10_opened l E b M Lm (4 : Int32) hq54) rfl cy_0 tc_X10_opened tm_RX10_186 ti_X10_opened ts_X10_opened tn_RX10 td_X10_opened rfl rfl ⟨Nat.le_of_ble_eq_true rfl, Nat.le_of_ble_eq_true rfl⟩ rfl hl.1 rfl (Nat.le_of_ble_eq_true rfl) ⟨Nat.zero_le _, Nat.zero_le _⟩ dX10_beginOne_176 (fun H locs hP58 hm => ?_)
        cases hf
        exact x_iret C hm trivial dX10_beginOne_179
      have hf := xif_t hc33 hf
      refine lv_aload_n hx hb dX10_beginOne_180 rfl (lv_at hl 0 rfl) ?_
      refine lv_bipush (v := (105 : Int32)) hx hb dX10_beginOne_181 (by decide) ?_
      refine lv_bipush (v := (102 : Int32)) hx hb dX10_beginOne_183 (by decide) ?_
      refine x_callSl (As := [.int (105 : Int32), .int (102 : Int32)]) (rest := [.ref (b + 0)]) C hm (c_X10_w2 l E b M Lm (105 : Int32) (102 : Int32) rfl) tc_X10_w2 tm_RX10_121 tz_X10_w2 tn_RX10 td_X10_w2 rfl rfl ⟨Nat.le_of_ble_eq_true rfl, Nat.le_of_ble_eq_true rfl⟩ rfl hl.1 rfl (Nat.le_of_ble_eq_true rfl) ⟨Nat.zero_le _, Nat.zero_le _⟩ dX10_beginOne_185 (fun H locs hP34 hm => ?_)
      refine x_callVi (As := [.long (f_X10_w2 (105 : Int32) (102 : Int32))]) (rest := []) C hm (c_X10_isWord l E b M Lm (f_X10_w2 (105 : Int32) (102 : Int32)) rfl) rfl cy_0 tc_X10_isWord tm_RX10_189 ti_X10_isWord ts_X10_isWord tn_RX10 td_X10_isWord rfl rfl ⟨Nat.le_of_ble_eq_true rfl, Nat.le_of_ble_eq_true rfl⟩ rfl hl.1 rfl (Nat.le_of_ble_eq_true rfl) ⟨Nat.zero_le _, Nat.zero_le _⟩ dX10_beginOne_188 (fun H locs hP35 hm => ?_)
      refine lv_if_eq (tgt := 201) hx hb dX10_beginOne_191 (by decide) (fun hc36 => ?_) (fun hc36 => ?_)
      rotate_left
      · have hf := xif_f hc36 hf
        refine lv_aload_n hx hb dX10_beginOne_194 rfl (lv_at hl 0 rfl) ?_
        refine lv_bipush (v := (41 : Int32)) hx hb dX10_beginOne_195 (by decide) ?_
        obtain ⟨v50, M51, L52, hq49, hf⟩ := xb3_e hf
        refine x_callVi (As := [.int (41 : Int32)]) (rest := []) C hm (c_X10_opened l E b M Lm (41 : Int32) hq49) rfl cy_0 tc_X10_opened tm_RX10_186 ti_X10_opened ts_X10_opened tn_RX10 td_X10_opened rfl rfl ⟨Nat.le_of_ble_eq_true rfl, Nat.le_of_ble_eq_true rfl⟩ rfl hl.1 rfl (Nat.le_of_ble_eq_true rfl) ⟨Nat.zero_le _, Nat.zero_le _⟩ dX10_beginOne_197 (fun H locs hP53 hm => ?_)
        cases hf
        exact x_iret C hm trivial dX10_beginOne_200
      have hf := xif_t hc36 hf
      refine lv_aload_n hx hb dX10_beginOne_201 rfl (lv_at hl 0 rfl) ?_
      refine lv_bipush (v := (110 : Int32)) hx hb dX10_beginOne_202 (by decide) ?_
      refine lv_bipush (v := (111 : Int32)) hx hb dX10_beginOne_204 (by decide) ?_
      refine lv_bipush (v := (116 : Int32)) hx hb dX10_beginOne_206 (by decide) ?_
      refine x_callSl (As := [.int (110 : Int32), .int (111 : Int32), .int (116 : Int32)]) (rest := [.ref (b + 0)]) C hm (c_X10_w3 l E b M Lm (110 : Int32) (111 : Int32) (116 : Int32) rfl) tc_X10_w3 tm_RX10_125 tz_X10_w3 tn_RX10 td_X10_w3 rfl rfl ⟨Nat.le_of_ble_eq_true rfl, Nat.le_of_ble_eq_true rfl⟩ rfl hl.1 rfl (Nat.le_of_ble_eq_true rfl) ⟨Nat.zero_le _, Nat.zero_le _⟩ dX10_beginOne_208 (fun H locs hP37 hm => ?_)
      refine x_callVi (As := [.long (f_X10_w3 (110 : Int32) (111 : Int32) (116 : Int32))]) (rest := []) C hm (c_X10_isWord l E b M Lm (f_X10_w3 (110 : Int32) (111 : Int32) (116 : Int32)) rfl) rfl cy_0 tc_X10_isWord tm_RX10_189 ti_X10_isWord ts_X10_isWord tn_RX10 td_X10_isWord rfl rfl ⟨Nat.le_of_ble_eq_true rfl, Nat.le_of_ble_eq_true rfl⟩ rfl hl.1 rfl (Nat.le_of_ble_eq_true rfl) ⟨Nat.zero_le _, Nat.zero_le _⟩ dX10_beginOne_211 (fun H locs hP38 hm => ?_)
      refine lv_if_eq (tgt := 233) hx hb dX10_beginOne_214 (by decide) (fun hc39 => ?_) (fun hc39 => ?_)
      · have hf := xif_t hc39 hf
        refine lv_iconst (v := (1 : Int32)) hx hb dX10_beginOne_233 (by decide) ?_
        cases hf
        exact x_iret C hm trivial dX10_beginOne_234
      have hf := xif_f hc39 hf
      refine lv_aload_n hx hb dX10_beginOne_217 rfl (lv_at hl 0 rfl) ?_
      obtain ⟨v41, hq40, hf⟩ := xb1_e hf
      refine x_callVi (As := []) (rest := []) C hm (c_X10_isAskAhead l E b M Lm hq40) rfl cy_0 tc_X10_isAskAhead tm_RX10_193 ti_X10_isAskAhead ts_X10_isAskAhead tn_RX10 td_X10_isAskAhead rfl rfl ⟨Nat.le_of_ble_eq_true rfl, Nat.le_of_ble_eq_true rfl⟩ rfl hl.1 rfl (Nat.le_of_ble_eq_true rfl) ⟨Nat.zero_le _, Nat.zero_le _⟩ dX10_beginOne_218 (fun H locs hP42 hm => ?_)
      refine lv_if_eq (tgt := 233) hx hb dX10_beginOne_221 (by decide) (fun hc43 => ?_) (fun hc43 => ?_)
      · have hf := xif_t hc43 hf
        refine lv_iconst (v := (1 : Int32)) hx hb dX10_beginOne_233 (by decide) ?_
        cases hf
        exact x_iret C hm trivial dX10_beginOne_234
      have hf := xif_f hc43 hf
      refine lv_aload_n hx hb dX10_beginOne_224 rfl (lv_at hl 0 rfl) ?_
      refine lv_bipush (v := (20 : Int32)) hx hb dX10_beginOne_225 (by decide) ?_
      obtain ⟨v45, M46, L47, hq44, hf⟩ := xb3_e hf
      refine x_callVi (As := [.int (20 : Int32)]) (rest := []) C hm (c_X10_opened l E b M Lm (20 : Int32) hq44) rfl cy_0 tc_X10_opened tm_RX10_186 ti_X10_opened ts_X10_opened tn_RX10 td_X10_opened rfl rfl ⟨Nat.le_of_ble_eq_true rfl, Nat.le_of_ble_eq_true rfl⟩ rfl hl.1 rfl (Nat.le_of_ble_eq_true rfl) ⟨Nat.zero_le _, Nat.zero_le _⟩ dX10_beginOne_227 (fun H locs hP48 hm => ?_)
      refine lv_goto (tgt := 234) hx hb dX10_beginOne_230 (by decide) ?_
      cases hf
      exact x_iret C hm trivial dX10_beginOne_234
    refine lv_if_lt (tgt := 39) hx hb dX10_beginOne_26 (by decide) (fun hc74 => ?_) (fun hc74 => ?_)
    · have hf := xif_t hc74 hf
      exact jk4  H locs ls  hf hm (lv_sub hl [1, 0] rfl)
    have hf := xif_f hc74 hf
    refine lv_aload_n hx hb dX10_beginOne_29 rfl (lv_at hl 1 rfl) ?_
    refine lv_iload_n hx hb dX10_beginOne_30 rfl (lv_at hl 0 rfl) ?_
    refine x_callVi (As := [.int v3]) (rest := []) C hm (c_X10_isOf l E b M Lm v3 rfl) rfl cy_0 tc_X10_isOf tm_RX10_176 ti_X10_isOf ts_X10_isOf tn_RX10 td_X10_isOf rfl rfl ⟨Nat.le_of_ble_eq_true rfl, Nat.le_of_ble_eq_true rfl⟩ rfl hl.1 rfl (Nat.le_of_ble_eq_true rfl) ⟨Nat.zero_le _, Nat.zero_le _⟩ dX10_beginOne_31 (fun H locs hP75 hm => ?_)
    refine lv_if_ne (tgt := 39) hx hb dX10_beginOne_34 (by decide) (fun hc76 => ?_) (fun hc76 => ?_)
    · have hf := xif_f hc76 hf
      exact jk4  H locs ls  hf hm (lv_sub hl [1, 0] rfl)
    have hf := xif_t hc76 hf
    refine lv_iconst (v := (5 : Int32)) hx hb dX10_beginOne_37 (by decide) ?_
    cases hf
    exact x_iret C hm trivial dX10_beginOne_38
  refine lv_icmp_ne (tgt := 20) hx hb dX10_beginOne_5 (by decide) (fun hc77 => ?_) (fun hc77 => ?_)
  · have hf := xif_f hc77 hf
    exact jk1  H locs ls  hf hm (lv_sub hl [0] rfl)
  have hf := xif_t hc77 hf
  refine lv_aload_n hx hb dX10_beginOne_8 rfl (lv_at hl 0 rfl) ?_
  refine x_get C hm inX10 rfl 10 (by decide) tf_RX10_105 cy_0 rfl dX10_beginOne_9 ?_
  refine lv_sipush (v := (9999 : Int32)) hx hb dX10_beginOne_12 (by decide) ?_
  refine lv_icmp_le (tgt := 20) hx hb dX10_beginOne_15 (by decide) (fun hc78 => ?_) (fun hc78 => ?_)
  · have hf := xif_t hc78 hf
    exact jk1  H locs ls  hf hm (lv_sub hl [0] rfl)
  have hf := xif_f hc78 hf
  refine lv_iconst (v := (2 : Int32)) hx hb dX10_beginOne_18 (by decide) ?_
  cases hf
  exact x_iret C hm trivial dX10_beginOne_19
/-! ColouredHeapModel.compareOf()I -/
theorem dX10_compareOf_0 : decode cX10_compareOf 0 = .ok (.aload_n 0, 1) := by decide +kernel
theorem dX10_compareOf_1 : decode cX10_compareOf 1 = .ok (.getfield 99, 3) := by decide +kernel
theorem dX10_compareOf_4 : decode cX10_compareOf 4 = .ok (.bipush 60, 2) := by decide +kernel
theorem dX10_compareOf_6 : decode cX10_compareOf 6 = .ok (.if_icmp .ne 8, 3) := by decide +kernel
theorem dX10_compareOf_9 : decode cX10_compareOf 9 = .ok (.bipush 10, 2) := by decide +kernel
theorem dX10_compareOf_11 : decode cX10_compareOf 11 = .ok (.goto 72, 3) := by decide +kernel
theorem dX10_compareOf_14 : decode cX10_compareOf 14 = .ok (.aload_n 0, 1) := by decide +kernel
theorem dX10_compareOf_15 : decode cX10_compareOf 15 = .ok (.getfield 99, 3) := by decide +kernel
theorem dX10_compareOf_18 : decode cX10_compareOf 18 = .ok (.iconst 4, 1) := by decide +kernel
theorem dX10_compareOf_19 : decode cX10_compareOf 19 = .ok (.if_icmp .ne 8, 3) := by decide +kernel
theorem dX10_compareOf_22 : decode cX10_compareOf 22 = .ok (.bipush 11, 2) := by decide +kernel
theorem dX10_compareOf_24 : decode cX10_compareOf 24 = .ok (.goto 59, 3) := by decide +kernel
theorem dX10_compareOf_27 : decode cX10_compareOf 27 = .ok (.aload_n 0, 1) := by decide +kernel
theorem dX10_compareOf_28 : decode cX10_compareOf 28 = .ok (.getfield 99, 3) := by decide +kernel
theorem dX10_compareOf_31 : decode cX10_compareOf 31 = .ok (.bipush 62, 2) := by decide +kernel
theorem dX10_compareOf_33 : decode cX10_compareOf 33 = .ok (.if_icmp .ne 8, 3) := by decide +kernel
theorem dX10_compareOf_36 : decode cX10_compareOf 36 = .ok (.bipush 12, 2) := by decide +kernel
theorem dX10_compareOf_38 : decode cX10_compareOf 38 = .ok (.goto 45, 3) := by decide +kernel
theorem dX10_compareOf_41 : decode cX10_compareOf 41 = .ok (.aload_n 0, 1) := by decide +kernel
theorem dX10_compareOf_42 : decode cX10_compareOf 42 = .ok (.getfield 99, 3) := by decide +kernel
theorem dX10_compareOf_45 : decode cX10_compareOf 45 = .ok (.iconst 5, 1) := by decide +kernel
theorem dX10_compareOf_46 : decode cX10_compareOf 46 = .ok (.if_icmp .ne 8, 3) := by decide +kernel
theorem dX10_compareOf_49 : decode cX10_compareOf 49 = .ok (.bipush 13, 2) := by decide +kernel
theorem dX10_compareOf_51 : decode cX10_compareOf 51 = .ok (.goto 32, 3) := by decide +kernel
theorem dX10_compareOf_54 : decode cX10_compareOf 54 = .ok (.aload_n 0, 1) := by decide +kernel
theorem dX10_compareOf_55 : decode cX10_compareOf 55 = .ok (.getfield 99, 3) := by decide +kernel
theorem dX10_compareOf_58 : decode cX10_compareOf 58 = .ok (.bipush 61, 2) := by decide +kernel
theorem dX10_compareOf_60 : decode cX10_compareOf 60 = .ok (.if_icmp .ne 8, 3) := by decide +kernel
theorem dX10_compareOf_63 : decode cX10_compareOf 63 = .ok (.bipush 14, 2) := by decide +kernel
theorem dX10_compareOf_65 : decode cX10_compareOf 65 = .ok (.goto 18, 3) := by decide +kernel
theorem dX10_compareOf_68 : decode cX10_compareOf 68 = .ok (.aload_n 0, 1) := by decide +kernel
theorem dX10_compareOf_69 : decode cX10_compareOf 69 = .ok (.getfield 99, 3) := by decide +kernel
theorem dX10_compareOf_72 : decode cX10_compareOf 72 = .ok (.bipush 35, 2) := by decide +kernel
theorem dX10_compareOf_74 : decode cX10_compareOf 74 = .ok (.if_icmp .ne 8, 3) := by decide +kernel
theorem dX10_compareOf_77 : decode cX10_compareOf 77 = .ok (.bipush 15, 2) := by decide +kernel
theorem dX10_compareOf_79 : decode cX10_compareOf 79 = .ok (.goto 4, 3) := by decide +kernel
theorem dX10_compareOf_82 : decode cX10_compareOf 82 = .ok (.iconst (-1), 1) := by decide +kernel
theorem dX10_compareOf_83 : decode cX10_compareOf 83 = .ok (.ireturn, 1) := by decide +kernel
def f_X10_compareOf (M : xm) : Int32 := (if (M 0 9) = (60 : Int32) then (10 : Int32) else (if (M 0 9) = (4 : Int32) then (11 : Int32) else (if (M 0 9) = (62 : Int32) then (12 : Int32) else (if (M 0 9) = (5 : Int32) then (13 : Int32) else (if (M 0 9) = (61 : Int32) then (14 : Int32) else (if (M 0 9) = (35 : Int32) then (15 : Int32) else (-1 : Int32)))))))
set_option maxHeartbeats 4000000 in
set_option maxRecDepth 20000 in
theorem c_X10_compareOf (l : Launch) (E : xE) (b : Nat) (M : xm) (Lm : xn) {r : Int32} (hf : f_X10_compareOf M = r) :
    xMet l E b NY yX10_compareOf cX10_compareOf 1 (some .int) (xR 1) [.ref (b + 0)] (cY E b M Lm) (some (.int r)) True (cY E b M Lm) := by
  refine xMet.ofW (own := RX10) (by decide) rfl (Nat.le_of_ble_eq_true rfl) ?_
  intro p e s m below meth c H locs ls C hm hl
  have hx := C.1.1
  have hb := C.1.2.1
  have hl : lv_has ls 1 [(0, .ref (b + 0))] := hl
  unfold f_X10_compareOf at hf
  refine lv_aload_n hx hb dX10_compareOf_0 rfl (lv_at hl 0 rfl) ?_
  refine x_get C hm inX10 rfl 9 (by decide) tf_RX10_99 cy_0 rfl dX10_compareOf_1 ?_
  refine lv_bipush (v := (60 : Int32)) hx hb dX10_compareOf_4 (by decide) ?_
  refine lv_icmp_ne (tgt := 14) hx hb dX10_compareOf_6 (by decide) (fun hc1 => ?_) (fun hc1 => ?_)
  rotate_left
  · have hf := xif_t hc1 hf
    refine lv_bipush (v := (10 : Int32)) hx hb dX10_compareOf_9 (by decide) ?_
    refine lv_goto (tgt := 83) hx hb dX10_compareOf_11 (by decide) ?_
    cases hf
    exact x_iret C hm trivial dX10_compareOf_83
  have hf := xif_f hc1 hf
  refine lv_aload_n hx hb dX10_compareOf_14 rfl (lv_at hl 0 rfl) ?_
  refine x_get C hm inX10 rfl 9 (by decide) tf_RX10_99 cy_0 rfl dX10_compareOf_15 ?_
  refine lv_iconst (v := (4 : Int32)) hx hb dX10_compareOf_18 (by decide) ?_
  refine lv_icmp_ne (tgt := 27) hx hb dX10_compareOf_19 (by decide) (fun hc2 => ?_) (fun hc2 => ?_)
  rotate_left
  · have hf := xif_t hc2 hf
    refine lv_bipush (v := (11 : Int32)) hx hb dX10_compareOf_22 (by decide) ?_
    refine lv_goto (tgt := 83) hx hb dX10_compareOf_24 (by decide) ?_
    cases hf
    exact x_iret C hm trivial dX10_compareOf_83
  have hf := xif_f hc2 hf
  refine lv_aload_n hx hb dX10_compareOf_27 rfl (lv_at hl 0 rfl) ?_
  refine x_get C hm inX10 rfl 9 (by decide) tf_RX10_99 cy_0 rfl dX10_compareOf_28 ?_
  refine lv_bipush (v := (62 : Int32)) hx hb dX10_compareOf_31 (by decide) ?_
  refine lv_icmp_ne (tgt := 41) hx hb dX10_compareOf_33 (by decide) (fun hc3 => ?_) (fun hc3 => ?_)
  rotate_left
  · have hf := xif_t hc3 hf
    refine lv_bipush (v := (12 : Int32)) hx hb dX10_compareOf_36 (by decide) ?_
    refine lv_goto (tgt := 83) hx hb dX10_compareOf_38 (by decide) ?_
    cases hf
    exact x_iret C hm trivial dX10_compareOf_83
  have hf := xif_f hc3 hf
  refine lv_aload_n hx hb dX10_compareOf_41 rfl (lv_at hl 0 rfl) ?_
  refine x_get C hm inX10 rfl 9 (by decide) tf_RX10_99 cy_0 rfl dX10_compareOf_42 ?_
  refine lv_iconst (v := (5 : Int32)) hx hb dX10_compareOf_45 (by decide) ?_
  refine lv_icmp_ne (tgt := 54) hx hb dX10_compareOf_46 (by decide) (fun hc4 => ?_) (fun hc4 => ?_)
  rotate_left
  · have hf := xif_t hc4 hf
    refine lv_bipush (v := (13 : Int32)) hx hb dX10_compareOf_49 (by decide) ?_
    refine lv_goto (tgt := 83) hx hb dX10_compareOf_51 (by decide) ?_
    cases hf
    exact x_iret C hm trivial dX10_compareOf_83
  have hf := xif_f hc4 hf
  refine lv_aload_n hx hb dX10_compareOf_54 rfl (lv_at hl 0 rfl) ?_
  refine x_get C hm inX10 rfl 9 (by decide) tf_RX10_99 cy_0 rfl dX10_compareOf_55 ?_
  refine lv_bipush (v := (61 : Int32)) hx hb dX10_compareOf_58 (by decide) ?_
  refine lv_icmp_ne (tgt := 68) hx hb dX10_compareOf_60 (by decide) (fun hc5 => ?_) (fun hc5 => ?_)
  rotate_left
  · have hf := xif_t hc5 hf
    refine lv_bipush (v := (14 : Int32)) hx hb dX10_compareOf_63 (by decide) ?_
    refine lv_goto (tgt := 83) hx hb dX10_compareOf_65 (by decide) ?_
    cases hf
    exact x_iret C hm trivial dX10_compareOf_83
  have hf := xif_f hc5 hf
  refine lv_aload_n hx hb dX10_compareOf_68 rfl (lv_at hl 0 rfl) ?_
  refine x_get C hm inX10 rfl 9 (by decide) tf_RX10_99 cy_0 rfl dX10_compareOf_69 ?_
  refine lv_bipush (v := (35 : Int32)) hx hb dX10_compareOf_72 (by decide) ?_
  refine lv_icmp_ne (tgt := 82) hx hb dX10_compareOf_74 (by decide) (fun hc6 => ?_) (fun hc6 => ?_)
  · have hf := xif_f hc6 hf
    refine lv_iconst (v := (-1 : Int32)) hx hb dX10_compareOf_82 (by decide) ?_
    cases hf
    exact x_iret C hm trivial dX10_compareOf_83
  have hf := xif_t hc6 hf
  refine lv_bipush (v := (15 : Int32)) hx hb dX10_compareOf_77 (by decide) ?_
  refine lv_goto (tgt := 83) hx hb dX10_compareOf_79 (by decide) ?_
  cases hf
  exact x_iret C hm trivial dX10_compareOf_83
/-! ColouredHeapModel.isCompared()Z -/
theorem dX10_isCompared_0 : decode cX10_isCompared 0 = .ok (.aload_n 0, 1) := by decide +kernel
theorem dX10_isCompared_1 : decode cX10_isCompared 1 = .ok (.getfield 150, 3) := by decide +kernel
theorem dX10_isCompared_4 : decode cX10_isCompared 4 = .ok (.iconst 1, 1) := by decide +kernel
theorem dX10_isCompared_5 : decode cX10_isCompared 5 = .ok (.isub, 1) := by decide +kernel
theorem dX10_isCompared_6 : decode cX10_isCompared 6 = .ok (.istore_n 1, 1) := by decide +kernel
theorem dX10_isCompared_7 : decode cX10_isCompared 7 = .ok (.iload_n 1, 1) := by decide +kernel
theorem dX10_isCompared_8 : decode cX10_isCompared 8 = .ok (.ifCond .lt 22, 3) := by decide +kernel
theorem dX10_isCompared_11 : decode cX10_isCompared 11 = .ok (.aload_n 0, 1) := by decide +kernel
theorem dX10_isCompared_12 : decode cX10_isCompared 12 = .ok (.getfield 29, 3) := by decide +kernel
theorem dX10_isCompared_15 : decode cX10_isCompared 15 = .ok (.iload_n 1, 1) := by decide +kernel
theorem dX10_isCompared_16 : decode cX10_isCompared 16 = .ok (.iaload, 1) := by decide +kernel
theorem dX10_isCompared_17 : decode cX10_isCompared 17 = .ok (.invokestatic 153, 3) := by decide +kernel
theorem dX10_isCompared_20 : decode cX10_isCompared 20 = .ok (.iconst 4, 1) := by decide +kernel
theorem dX10_isCompared_21 : decode cX10_isCompared 21 = .ok (.if_icmp .le 9, 3) := by decide +kernel
theorem dX10_isCompared_24 : decode cX10_isCompared 24 = .ok (.iinc 1 (-1), 3) := by decide +kernel
theorem dX10_isCompared_27 : decode cX10_isCompared 27 = .ok (.goto (-20), 3) := by decide +kernel
theorem dX10_isCompared_30 : decode cX10_isCompared 30 = .ok (.iload_n 1, 1) := by decide +kernel
theorem dX10_isCompared_31 : decode cX10_isCompared 31 = .ok (.ifCond .lt 20, 3) := by decide +kernel
theorem dX10_isCompared_34 : decode cX10_isCompared 34 = .ok (.aload_n 0, 1) := by decide +kernel
theorem dX10_isCompared_35 : decode cX10_isCompared 35 = .ok (.getfield 29, 3) := by decide +kernel
theorem dX10_isCompared_38 : decode cX10_isCompared 38 = .ok (.iload_n 1, 1) := by decide +kernel
theorem dX10_isCompared_39 : decode cX10_isCompared 39 = .ok (.iaload, 1) := by decide +kernel
theorem dX10_isCompared_40 : decode cX10_isCompared 40 = .ok (.invokestatic 153, 3) := by decide +kernel
theorem dX10_isCompared_43 : decode cX10_isCompared 43 = .ok (.iconst 4, 1) := by decide +kernel
theorem dX10_isCompared_44 : decode cX10_isCompared 44 = .ok (.if_icmp .ne 7, 3) := by decide +kernel
theorem dX10_isCompared_47 : decode cX10_isCompared 47 = .ok (.iconst 1, 1) := by decide +kernel
theorem dX10_isCompared_48 : decode cX10_isCompared 48 = .ok (.goto 4, 3) := by decide +kernel
theorem dX10_isCompared_51 : decode cX10_isCompared 51 = .ok (.iconst 0, 1) := by decide +kernel
theorem dX10_isCompared_52 : decode cX10_isCompared 52 = .ok (.ireturn, 1) := by decide +kernel
def g_X10_isCompared_7 (M : xm) : Nat → Int32 → Option ((Int32))
  | 0, _ => none
  | n + 1, x2 => (if x2 < 0 then some (x2) else if xin x2 160 = true then (if (f_X10_rank (M 5 (Int32.toNatClampNeg x2))) ≤ (4 : Int32) then some (x2) else xlet (x2 + (-1 : Int32)) (fun v8 => g_X10_isCompared_7 M n v8)) else none)
def f_X10_isCompared (M : xm) : Option (Int32) := xlet ((M 0 16) - (1 : Int32)) (fun v1 => xb1 (g_X10_isCompared_7 M xfuel v1) (fun v9 => (if v9 < 0 then some (0 : Int32) else if xin v9 160 = true then (if (f_X10_rank (M 5 (Int32.toNatClampNeg v9))) = (4 : Int32) then some (1 : Int32) else some (0 : Int32)) else none)))
set_option maxHeartbeats 4000000 in
set_option maxRecDepth 20000 in
theorem j_X10_isCompared_7 {p : Program} {l : Launch} {e : Env} {s : State} {m : MethodId} {args : Array Value} {below : List Frame} {meth : Method} {c : Code} {Q : State → Prop} {E : xE} {b : Nat} (C : xC p s m args meth c cX10_isCompared 2 RX10 (some .boolean) E b) (M : xm) {Lm : xn} {y3 : Int32}
    (kx0 : ∀ (H : Heap) (locs : List Loc) (ls : Array Slot), xM E b NY (cY E b M Lm) s.heap H locs → lv_has ls 2 [(0, .ref (b + 0)), (1, .int y3)] → W p l e (xR 2) s m args below meth c H locs 0 0 Q (F0 m 30 ls [])) :
    ∀ (n : Nat) (x2 : Int32) (H : Heap) (locs : List Loc) (ls : Array Slot), g_X10_isCompared_7 M n x2 = some y3 → xM E b NY (cY E b M Lm) s.heap H locs → lv_has ls 2 [(0, .ref (b + 0)), (1, .int x2)] → W p l e (xR 2) s m args below meth c H locs 0 0 Q (F0 m 7 ls []) := by
  have hx := C.1.1
  have hb := C.1.2.1
  intro n
  induction n with
  | zero =>
    intro x2 H locs ls hf hm hl
    rw [g_X10_isCompared_7] at hf
    cases hf
  | succ n ih =>
    intro x2 H locs ls hf hm hl
    rw [g_X10_isCompared_7] at hf
    refine lv_iload_n hx hb dX10_isCompared_7 rfl (lv_at hl 1 rfl) ?_
    refine lv_if_lt (tgt := 30) hx hb dX10_isCompared_8 (by decide) (fun hc4 => ?_) (fun hc4 => ?_)
    · have hf := xif_t hc4 hf
      cases hf
      exact kx0 H locs ls hm (lv_sub hl [0, 1] rfl)
    have hf := xif_f hc4 hf
    refine lv_aload_n hx hb dX10_isCompared_11 rfl (lv_at hl 0 rfl) ?_
    refine x_get C hm inX10 rfl 15 (by decide) tf_RX10_29 cy_0 rfl dX10_isCompared_12 ?_
    refine lv_iload_n hx hb dX10_isCompared_15 rfl (lv_at hl 1 rfl) ?_
    obtain ⟨hi5, hf⟩ := xif_s hf
    refine x_iald (j := (Int32.toNatClampNeg x2)) C hm cy_5 hi5 dX10_isCompared_16 rfl ?_
    refine x_callSi (As := [.int (M 5 (Int32.toNatClampNeg x2))]) (rest := []) C hm (c_X10_rank l E b M Lm (M 5 (Int32.toNatClampNeg x2)) rfl) tc_X10_rank tm_RX10_153 tz_X10_rank tn_RX10 td_X10_rank rfl rfl ⟨Nat.le_of_ble_eq_true rfl, Nat.le_of_ble_eq_true rfl⟩ rfl hl.1 rfl (Nat.le_of_ble_eq_true rfl) ⟨Nat.zero_le _, Nat.zero_le _⟩ dX10_isCompared_17 (fun H locs hP6 hm => ?_)
    refine lv_iconst (v := (4 : Int32)) hx hb dX10_isCompared_20 (by decide) ?_
    refine lv_icmp_le (tgt := 30) hx hb dX10_isCompared_21 (by decide) (fun hc7 => ?_) (fun hc7 => ?_)
    · have hf := xif_t hc7 hf
      cases hf
      exact kx0 H locs ls hm (lv_sub hl [0, 1] rfl)
    have hf := xif_f hc7 hf
    obtain ⟨v8, ev8, hf⟩ := xlet_x hf
    refine lv_iinc (v := v8) (lv' := [(1, .int v8), (0, .ref (b + 0))]) hx hb dX10_isCompared_24 hl (k := 1) rfl (by rw [ev8]; rfl) (by decide) rfl (fun ls hl => ?_)
    refine lv_goto (tgt := 7) hx hb dX10_isCompared_27 (by decide) ?_
    exact ih v8 H locs ls hf hm (lv_sub hl [1, 0] rfl)
set_option maxHeartbeats 4000000 in
set_option maxRecDepth 20000 in
theorem c_X10_isCompared (l : Launch) (E : xE) (b : Nat) (M : xm) (Lm : xn) {r : Int32} (hf : f_X10_isCompared M = some r) :
    xMet l E b NY yX10_isCompared cX10_isCompared 2 (some .boolean) (xR 2) [.ref (b + 0)] (cY E b M Lm) (some (.int r)) (xbo r = true) (cY E b M Lm) := by
  refine xMet.ofW (own := RX10) (by decide) rfl (Nat.le_of_ble_eq_true rfl) ?_
  intro p e s m below meth c H locs ls C hm hl
  have hx := C.1.1
  have hb := C.1.2.1
  have hl : lv_has ls 2 [(0, .ref (b + 0))] := hl
  unfold f_X10_isCompared at hf
  refine lv_aload_n hx hb dX10_isCompared_0 rfl (lv_at hl 0 rfl) ?_
  refine x_get C hm inX10 rfl 16 (by decide) tf_RX10_150 cy_0 rfl dX10_isCompared_1 ?_
  refine lv_iconst (v := (1 : Int32)) hx hb dX10_isCompared_4 (by decide) ?_
  refine lv_isub hx hb dX10_isCompared_5 ?_
  refine lv_topi (fun v1 ev1 => ?_)
  have hf := xlet_e ev1 hf
  refine lv_istore_n (lv' := [(1, .int v1), (0, .ref (b + 0))]) hx hb dX10_isCompared_6 rfl hl (by decide) rfl (fun ls hl => ?_)
  obtain ⟨v9, hq, hf⟩ := xb1_e hf
  refine j_X10_isCompared_7 C M (fun H locs ls hm hl => ?_) xfuel v1 H locs ls hq hm (lv_sub hl [1, 0] rfl)
  refine lv_iload_n hx hb dX10_isCompared_30 rfl (lv_at hl 1 rfl) ?_
  refine lv_if_lt (tgt := 51) hx hb dX10_isCompared_31 (by decide) (fun hc10 => ?_) (fun hc10 => ?_)
  · have hf := xif_t hc10 hf
    refine lv_iconst (v := (0 : Int32)) hx hb dX10_isCompared_51 (by decide) ?_
    cases hf
    exact x_zret C hm (by decide) (by decide) dX10_isCompared_52
  have hf := xif_f hc10 hf
  refine lv_aload_n hx hb dX10_isCompared_34 rfl (lv_at hl 0 rfl) ?_
  refine x_get C hm inX10 rfl 15 (by decide) tf_RX10_29 cy_0 rfl dX10_isCompared_35 ?_
  refine lv_iload_n hx hb dX10_isCompared_38 rfl (lv_at hl 1 rfl) ?_
  obtain ⟨hi11, hf⟩ := xif_s hf
  refine x_iald (j := (Int32.toNatClampNeg v9)) C hm cy_5 hi11 dX10_isCompared_39 rfl ?_
  refine x_callSi (As := [.int (M 5 (Int32.toNatClampNeg v9))]) (rest := []) C hm (c_X10_rank l E b M Lm (M 5 (Int32.toNatClampNeg v9)) rfl) tc_X10_rank tm_RX10_153 tz_X10_rank tn_RX10 td_X10_rank rfl rfl ⟨Nat.le_of_ble_eq_true rfl, Nat.le_of_ble_eq_true rfl⟩ rfl hl.1 rfl (Nat.le_of_ble_eq_true rfl) ⟨Nat.zero_le _, Nat.zero_le _⟩ dX10_isCompared_40 (fun H locs hP12 hm => ?_)
  refine lv_iconst (v := (4 : Int32)) hx hb dX10_isCompared_43 (by decide) ?_
  refine lv_icmp_ne (tgt := 51) hx hb dX10_isCompared_44 (by decide) (fun hc13 => ?_) (fun hc13 => ?_)
  · have hf := xif_f hc13 hf
    refine lv_iconst (v := (0 : Int32)) hx hb dX10_isCompared_51 (by decide) ?_
    cases hf
    exact x_zret C hm (by decide) (by decide) dX10_isCompared_52
  have hf := xif_t hc13 hf
  refine lv_iconst (v := (1 : Int32)) hx hb dX10_isCompared_47 (by decide) ?_
  refine lv_goto (tgt := 52) hx hb dX10_isCompared_48 (by decide) ?_
  cases hf
  exact x_zret C hm (by decide) (by decide) dX10_isCompared_52
/-! ColouredHeapModel.betweenOf()I -/
theorem dX10_betweenOf_0 : decode cX10_betweenOf 0 = .ok (.aload_n 0, 1) := by decide +kernel
theorem dX10_betweenOf_1 : decode cX10_betweenOf 1 = .ok (.getfield 99, 3) := by decide +kernel
theorem dX10_betweenOf_4 : decode cX10_betweenOf 4 = .ok (.bipush 43, 2) := by decide +kernel
theorem dX10_betweenOf_6 : decode cX10_betweenOf 6 = .ok (.if_icmp .ne 6, 3) := by decide +kernel
theorem dX10_betweenOf_9 : decode cX10_betweenOf 9 = .ok (.bipush 6, 2) := by decide +kernel
theorem dX10_betweenOf_11 : decode cX10_betweenOf 11 = .ok (.ireturn, 1) := by decide +kernel
theorem dX10_betweenOf_12 : decode cX10_betweenOf 12 = .ok (.aload_n 0, 1) := by decide +kernel
theorem dX10_betweenOf_13 : decode cX10_betweenOf 13 = .ok (.getfield 99, 3) := by decide +kernel
theorem dX10_betweenOf_16 : decode cX10_betweenOf 16 = .ok (.bipush 45, 2) := by decide +kernel
theorem dX10_betweenOf_18 : decode cX10_betweenOf 18 = .ok (.if_icmp .ne 6, 3) := by decide +kernel
theorem dX10_betweenOf_21 : decode cX10_betweenOf 21 = .ok (.bipush 7, 2) := by decide +kernel
theorem dX10_betweenOf_23 : decode cX10_betweenOf 23 = .ok (.ireturn, 1) := by decide +kernel
theorem dX10_betweenOf_24 : decode cX10_betweenOf 24 = .ok (.aload_n 0, 1) := by decide +kernel
theorem dX10_betweenOf_25 : decode cX10_betweenOf 25 = .ok (.getfield 99, 3) := by decide +kernel
theorem dX10_betweenOf_28 : decode cX10_betweenOf 28 = .ok (.bipush 42, 2) := by decide +kernel
theorem dX10_betweenOf_30 : decode cX10_betweenOf 30 = .ok (.if_icmp .ne 6, 3) := by decide +kernel
theorem dX10_betweenOf_33 : decode cX10_betweenOf 33 = .ok (.bipush 8, 2) := by decide +kernel
theorem dX10_betweenOf_35 : decode cX10_betweenOf 35 = .ok (.ireturn, 1) := by decide +kernel
theorem dX10_betweenOf_36 : decode cX10_betweenOf 36 = .ok (.aload_n 0, 1) := by decide +kernel
theorem dX10_betweenOf_37 : decode cX10_betweenOf 37 = .ok (.getfield 99, 3) := by decide +kernel
theorem dX10_betweenOf_40 : decode cX10_betweenOf 40 = .ok (.bipush 47, 2) := by decide +kernel
theorem dX10_betweenOf_42 : decode cX10_betweenOf 42 = .ok (.if_icmp .ne 6, 3) := by decide +kernel
theorem dX10_betweenOf_45 : decode cX10_betweenOf 45 = .ok (.bipush 9, 2) := by decide +kernel
theorem dX10_betweenOf_47 : decode cX10_betweenOf 47 = .ok (.ireturn, 1) := by decide +kernel
theorem dX10_betweenOf_48 : decode cX10_betweenOf 48 = .ok (.aload_n 0, 1) := by decide +kernel
theorem dX10_betweenOf_49 : decode cX10_betweenOf 49 = .ok (.invokevirtual 167, 3) := by decide +kernel
theorem dX10_betweenOf_52 : decode cX10_betweenOf 52 = .ok (.bipush 41, 2) := by decide +kernel
theorem dX10_betweenOf_54 : decode cX10_betweenOf 54 = .ok (.if_icmp .eq 5, 3) := by decide +kernel
theorem dX10_betweenOf_57 : decode cX10_betweenOf 57 = .ok (.iconst (-1), 1) := by decide +kernel
theorem dX10_betweenOf_58 : decode cX10_betweenOf 58 = .ok (.ireturn, 1) := by decide +kernel
theorem dX10_betweenOf_59 : decode cX10_betweenOf 59 = .ok (.aload_n 0, 1) := by decide +kernel
theorem dX10_betweenOf_60 : decode cX10_betweenOf 60 = .ok (.invokevirtual 197, 3) := by decide +kernel
theorem dX10_betweenOf_63 : decode cX10_betweenOf 63 = .ok (.ifCond .ne 8, 3) := by decide +kernel
theorem dX10_betweenOf_66 : decode cX10_betweenOf 66 = .ok (.aload_n 0, 1) := by decide +kernel
theorem dX10_betweenOf_67 : decode cX10_betweenOf 67 = .ok (.invokevirtual 200, 3) := by decide +kernel
theorem dX10_betweenOf_70 : decode cX10_betweenOf 70 = .ok (.ireturn, 1) := by decide +kernel
theorem dX10_betweenOf_71 : decode cX10_betweenOf 71 = .ok (.aload_n 0, 1) := by decide +kernel
theorem dX10_betweenOf_72 : decode cX10_betweenOf 72 = .ok (.bipush 97, 2) := by decide +kernel
theorem dX10_betweenOf_74 : decode cX10_betweenOf 74 = .ok (.bipush 110, 2) := by decide +kernel
theorem dX10_betweenOf_76 : decode cX10_betweenOf 76 = .ok (.bipush 100, 2) := by decide +kernel
theorem dX10_betweenOf_78 : decode cX10_betweenOf 78 = .ok (.invokestatic 125, 3) := by decide +kernel
theorem dX10_betweenOf_81 : decode cX10_betweenOf 81 = .ok (.invokevirtual 189, 3) := by decide +kernel
theorem dX10_betweenOf_84 : decode cX10_betweenOf 84 = .ok (.ifCond .eq 8, 3) := by decide +kernel
theorem dX10_betweenOf_87 : decode cX10_betweenOf 87 = .ok (.bipush 21, 2) := by decide +kernel
theorem dX10_betweenOf_89 : decode cX10_betweenOf 89 = .ok (.goto 23, 3) := by decide +kernel
theorem dX10_betweenOf_92 : decode cX10_betweenOf 92 = .ok (.aload_n 0, 1) := by decide +kernel
theorem dX10_betweenOf_93 : decode cX10_betweenOf 93 = .ok (.bipush 111, 2) := by decide +kernel
theorem dX10_betweenOf_95 : decode cX10_betweenOf 95 = .ok (.bipush 114, 2) := by decide +kernel
theorem dX10_betweenOf_97 : decode cX10_betweenOf 97 = .ok (.invokestatic 121, 3) := by decide +kernel
theorem dX10_betweenOf_100 : decode cX10_betweenOf 100 = .ok (.invokevirtual 189, 3) := by decide +kernel
theorem dX10_betweenOf_103 : decode cX10_betweenOf 103 = .ok (.ifCond .eq 8, 3) := by decide +kernel
theorem dX10_betweenOf_106 : decode cX10_betweenOf 106 = .ok (.bipush 22, 2) := by decide +kernel
theorem dX10_betweenOf_108 : decode cX10_betweenOf 108 = .ok (.goto 4, 3) := by decide +kernel
theorem dX10_betweenOf_111 : decode cX10_betweenOf 111 = .ok (.iconst (-1), 1) := by decide +kernel
theorem dX10_betweenOf_112 : decode cX10_betweenOf 112 = .ok (.ireturn, 1) := by decide +kernel
def f_X10_betweenOf (M : xm) (Lm : xn) : Option (Int32) := (if (M 0 9) = (43 : Int32) then some (6 : Int32) else (if (M 0 9) = (45 : Int32) then some (7 : Int32) else (if (M 0 9) = (42 : Int32) then some (8 : Int32) else (if (M 0 9) = (47 : Int32) then some (9 : Int32) else xb1 (f_X10_openNow M) (fun v6 => (if v6 = (41 : Int32) then xb1 (f_X10_isCompared M) (fun v10 => (if v10 = 0 then some (f_X10_compareOf M) else (if (f_X10_isWord M Lm (f_X10_w3 (97 : Int32) (110 : Int32) (100 : Int32))) = 0 then (if (f_X10_isWord M Lm (f_X10_w2 (111 : Int32) (114 : Int32))) = 0 then some (-1 : Int32) else some (22 : Int32)) else some (21 : Int32)))) else some (-1 : Int32)))))))
set_option maxHeartbeats 4000000 in
set_option maxRecDepth 20000 in
theorem c_X10_betweenOf (l : Launch) (E : xE) (b : Nat) (M : xm) (Lm : xn) {r : Int32} (hf : f_X10_betweenOf M Lm = some r) :
    xMet l E b NY yX10_betweenOf cX10_betweenOf 1 (some .int) (xR 3) [.ref (b + 0)] (cY E b M Lm) (some (.int r)) True (cY E b M Lm) := by
  refine xMet.ofW (own := RX10) (by decide) rfl (Nat.le_of_ble_eq_true rfl) ?_
  intro p e s m below meth c H locs ls C hm hl
  have hx := C.1.1
  have hb := C.1.2.1
  have hl : lv_has ls 1 [(0, .ref (b + 0))] := hl
  unfold f_X10_betweenOf at hf
  refine lv_aload_n hx hb dX10_betweenOf_0 rfl (lv_at hl 0 rfl) ?_
  refine x_get C hm inX10 rfl 9 (by decide) tf_RX10_99 cy_0 rfl dX10_betweenOf_1 ?_
  refine lv_bipush (v := (43 : Int32)) hx hb dX10_betweenOf_4 (by decide) ?_
  refine lv_icmp_ne (tgt := 12) hx hb dX10_betweenOf_6 (by decide) (fun hc1 => ?_) (fun hc1 => ?_)
  rotate_left
  · have hf := xif_t hc1 hf
    refine lv_bipush (v := (6 : Int32)) hx hb dX10_betweenOf_9 (by decide) ?_
    cases hf
    exact x_iret C hm trivial dX10_betweenOf_11
  have hf := xif_f hc1 hf
  refine lv_aload_n hx hb dX10_betweenOf_12 rfl (lv_at hl 0 rfl) ?_
  refine x_get C hm inX10 rfl 9 (by decide) tf_RX10_99 cy_0 rfl dX10_betweenOf_13 ?_
  refine lv_bipush (v := (45 : Int32)) hx hb dX10_betweenOf_16 (by decide) ?_
  refine lv_icmp_ne (tgt := 24) hx hb dX10_betweenOf_18 (by decide) (fun hc2 => ?_) (fun hc2 => ?_)
  rotate_left
  · have hf := xif_t hc2 hf
    refine lv_bipush (v := (7 : Int32)) hx hb dX10_betweenOf_21 (by decide) ?_
    cases hf
    exact x_iret C hm trivial dX10_betweenOf_23
  have hf := xif_f hc2 hf
  refine lv_aload_n hx hb dX10_betweenOf_24 rfl (lv_at hl 0 rfl) ?_
  refine x_get C hm inX10 rfl 9 (by decide) tf_RX10_99 cy_0 rfl dX10_betweenOf_25 ?_
  refine lv_bipush (v := (42 : Int32)) hx hb dX10_betweenOf_28 (by decide) ?_
  refine lv_icmp_ne (tgt := 36) hx hb dX10_betweenOf_30 (by decide) (fun hc3 => ?_) (fun hc3 => ?_)
  rotate_left
  · have hf := xif_t hc3 hf
    refine lv_bipush (v := (8 : Int32)) hx hb dX10_betweenOf_33 (by decide) ?_
    cases hf
    exact x_iret C hm trivial dX10_betweenOf_35
  have hf := xif_f hc3 hf
  refine lv_aload_n hx hb dX10_betweenOf_36 rfl (lv_at hl 0 rfl) ?_
  refine x_get C hm inX10 rfl 9 (by decide) tf_RX10_99 cy_0 rfl dX10_betweenOf_37 ?_
  refine lv_bipush (v := (47 : Int32)) hx hb dX10_betweenOf_40 (by decide) ?_
  refine lv_icmp_ne (tgt := 48) hx hb dX10_betweenOf_42 (by decide) (fun hc4 => ?_) (fun hc4 => ?_)
  rotate_left
  · have hf := xif_t hc4 hf
    refine lv_bipush (v := (9 : Int32)) hx hb dX10_betweenOf_45 (by decide) ?_
    cases hf
    exact x_iret C hm trivial dX10_betweenOf_47
  have hf := xif_f hc4 hf
  refine lv_aload_n hx hb dX10_betweenOf_48 rfl (lv_at hl 0 rfl) ?_
  obtain ⟨v6, hq5, hf⟩ := xb1_e hf
  refine x_callVi (As := []) (rest := []) C hm (c_X10_openNow l E b M Lm hq5) rfl cy_0 tc_X10_openNow tm_RX10_167 ti_X10_openNow ts_X10_openNow tn_RX10 td_X10_openNow rfl rfl ⟨Nat.le_of_ble_eq_true rfl, Nat.le_of_ble_eq_true rfl⟩ rfl hl.1 rfl (Nat.le_of_ble_eq_true rfl) ⟨Nat.zero_le _, Nat.zero_le _⟩ dX10_betweenOf_49 (fun H locs hP7 hm => ?_)
  refine lv_bipush (v := (41 : Int32)) hx hb dX10_betweenOf_52 (by decide) ?_
  refine lv_icmp_eq (tgt := 59) hx hb dX10_betweenOf_54 (by decide) (fun hc8 => ?_) (fun hc8 => ?_)
  rotate_left
  · have hf := xif_f hc8 hf
    refine lv_iconst (v := (-1 : Int32)) hx hb dX10_betweenOf_57 (by decide) ?_
    cases hf
    exact x_iret C hm trivial dX10_betweenOf_58
  have hf := xif_t hc8 hf
  refine lv_aload_n hx hb dX10_betweenOf_59 rfl (lv_at hl 0 rfl) ?_
  obtain ⟨v10, hq9, hf⟩ := xb1_e hf
  refine x_callVi (As := []) (rest := []) C hm (c_X10_isCompared l E b M Lm hq9) rfl cy_0 tc_X10_isCompared tm_RX10_197 ti_X10_isCompared ts_X10_isCompared tn_RX10 td_X10_isCompared rfl rfl ⟨Nat.le_of_ble_eq_true rfl, Nat.le_of_ble_eq_true rfl⟩ rfl hl.1 rfl (Nat.le_of_ble_eq_true rfl) ⟨Nat.zero_le _, Nat.zero_le _⟩ dX10_betweenOf_60 (fun H locs hP11 hm => ?_)
  refine lv_if_ne (tgt := 71) hx hb dX10_betweenOf_63 (by decide) (fun hc12 => ?_) (fun hc12 => ?_)
  rotate_left
  · have hf := xif_t hc12 hf
    refine lv_aload_n hx hb dX10_betweenOf_66 rfl (lv_at hl 0 rfl) ?_
    refine x_callVi (As := []) (rest := []) C hm (c_X10_compareOf l E b M Lm rfl) rfl cy_0 tc_X10_compareOf tm_RX10_200 ti_X10_compareOf ts_X10_compareOf tn_RX10 td_X10_compareOf rfl rfl ⟨Nat.le_of_ble_eq_true rfl, Nat.le_of_ble_eq_true rfl⟩ rfl hl.1 rfl (Nat.le_of_ble_eq_true rfl) ⟨Nat.zero_le _, Nat.zero_le _⟩ dX10_betweenOf_67 (fun H locs hP19 hm => ?_)
    cases hf
    exact x_iret C hm trivial dX10_betweenOf_70
  have hf := xif_f hc12 hf
  refine lv_aload_n hx hb dX10_betweenOf_71 rfl (lv_at hl 0 rfl) ?_
  refine lv_bipush (v := (97 : Int32)) hx hb dX10_betweenOf_72 (by decide) ?_
  refine lv_bipush (v := (110 : Int32)) hx hb dX10_betweenOf_74 (by decide) ?_
  refine lv_bipush (v := (100 : Int32)) hx hb dX10_betweenOf_76 (by decide) ?_
  refine x_callSl (As := [.int (97 : Int32), .int (110 : Int32), .int (100 : Int32)]) (rest := [.ref (b + 0)]) C hm (c_X10_w3 l E b M Lm (97 : Int32) (110 : Int32) (100 : Int32) rfl) tc_X10_w3 tm_RX10_125 tz_X10_w3 tn_RX10 td_X10_w3 rfl rfl ⟨Nat.le_of_ble_eq_true rfl, Nat.le_of_ble_eq_true rfl⟩ rfl hl.1 rfl (Nat.le_of_ble_eq_true rfl) ⟨Nat.zero_le _, Nat.zero_le _⟩ dX10_betweenOf_78 (fun H locs hP13 hm => ?_)
  refine x_callVi (As := [.long (f_X10_w3 (97 : Int32) (110 : Int32) (100 : Int32))]) (rest := []) C hm (c_X10_isWord l E b M Lm (f_X10_w3 (97 : Int32) (110 : Int32) (100 : Int32)) rfl) rfl cy_0 tc_X10_isWord tm_RX10_189 ti_X10_isWord ts_X10_isWord tn_RX10 td_X10_isWord rfl rfl ⟨Nat.le_of_ble_eq_true rfl, Nat.le_of_ble_eq_true rfl⟩ rfl hl.1 rfl (Nat.le_of_ble_eq_true rfl) ⟨Nat.zero_le _, Nat.zero_le _⟩ dX10_betweenOf_81 (fun H locs hP14 hm => ?_)
  refine lv_if_eq (tgt := 92) hx hb dX10_betweenOf_84 (by decide) (fun hc15 => ?_) (fun hc15 => ?_)
  rotate_left
  · have hf := xif_f hc15 hf
    refine lv_bipush (v := (21 : Int32)) hx hb dX10_betweenOf_87 (by decide) ?_
    refine lv_goto (tgt := 112) hx hb dX10_betweenOf_89 (by decide) ?_
    cases hf
    exact x_iret C hm trivial dX10_betweenOf_112
  have hf := xif_t hc15 hf
  refine lv_aload_n hx hb dX10_betweenOf_92 rfl (lv_at hl 0 rfl) ?_
  refine lv_bipush (v := (111 : Int32)) hx hb dX10_betweenOf_93 (by decide) ?_
  refine lv_bipush (v := (114 : Int32)) hx hb dX10_betweenOf_95 (by decide) ?_
  refine x_callSl (As := [.int (111 : Int32), .int (114 : Int32)]) (rest := [.ref (b + 0)]) C hm (c_X10_w2 l E b M Lm (111 : Int32) (114 : Int32) rfl) tc_X10_w2 tm_RX10_121 tz_X10_w2 tn_RX10 td_X10_w2 rfl rfl ⟨Nat.le_of_ble_eq_true rfl, Nat.le_of_ble_eq_true rfl⟩ rfl hl.1 rfl (Nat.le_of_ble_eq_true rfl) ⟨Nat.zero_le _, Nat.zero_le _⟩ dX10_betweenOf_97 (fun H locs hP16 hm => ?_)
  refine x_callVi (As := [.long (f_X10_w2 (111 : Int32) (114 : Int32))]) (rest := []) C hm (c_X10_isWord l E b M Lm (f_X10_w2 (111 : Int32) (114 : Int32)) rfl) rfl cy_0 tc_X10_isWord tm_RX10_189 ti_X10_isWord ts_X10_isWord tn_RX10 td_X10_isWord rfl rfl ⟨Nat.le_of_ble_eq_true rfl, Nat.le_of_ble_eq_true rfl⟩ rfl hl.1 rfl (Nat.le_of_ble_eq_true rfl) ⟨Nat.zero_le _, Nat.zero_le _⟩ dX10_betweenOf_100 (fun H locs hP17 hm => ?_)
  refine lv_if_eq (tgt := 111) hx hb dX10_betweenOf_103 (by decide) (fun hc18 => ?_) (fun hc18 => ?_)
  · have hf := xif_t hc18 hf
    refine lv_iconst (v := (-1 : Int32)) hx hb dX10_betweenOf_111 (by decide) ?_
    cases hf
    exact x_iret C hm trivial dX10_betweenOf_112
  have hf := xif_f hc18 hf
  refine lv_bipush (v := (22 : Int32)) hx hb dX10_betweenOf_106 (by decide) ?_
  refine lv_goto (tgt := 112) hx hb dX10_betweenOf_108 (by decide) ?_
  cases hf
  exact x_iret C hm trivial dX10_betweenOf_112
/-! ColouredHeapModel.partOf(I)I -/
theorem dX10_partOf_0 : decode cX10_partOf 0 = .ok (.iload_n 1, 1) := by decide +kernel
theorem dX10_partOf_1 : decode cX10_partOf 1 = .ok (.tableswitch 125 40 43 #[31, 46, 78, 103], 31) := by decide +kernel
theorem dX10_partOf_32 : decode cX10_partOf 32 = .ok (.aload_n 0, 1) := by decide +kernel
theorem dX10_partOf_33 : decode cX10_partOf 33 = .ok (.getfield 99, 3) := by decide +kernel
theorem dX10_partOf_36 : decode cX10_partOf 36 = .ok (.bipush 41, 2) := by decide +kernel
theorem dX10_partOf_38 : decode cX10_partOf 38 = .ok (.if_icmp .ne 7, 3) := by decide +kernel
theorem dX10_partOf_41 : decode cX10_partOf 41 = .ok (.iconst 0, 1) := by decide +kernel
theorem dX10_partOf_42 : decode cX10_partOf 42 = .ok (.goto 4, 3) := by decide +kernel
theorem dX10_partOf_45 : decode cX10_partOf 45 = .ok (.iconst (-1), 1) := by decide +kernel
theorem dX10_partOf_46 : decode cX10_partOf 46 = .ok (.ireturn, 1) := by decide +kernel
theorem dX10_partOf_47 : decode cX10_partOf 47 = .ok (.aload_n 0, 1) := by decide +kernel
theorem dX10_partOf_48 : decode cX10_partOf 48 = .ok (.bipush 116, 2) := by decide +kernel
theorem dX10_partOf_50 : decode cX10_partOf 50 = .ok (.bipush 104, 2) := by decide +kernel
theorem dX10_partOf_52 : decode cX10_partOf 52 = .ok (.bipush 101, 2) := by decide +kernel
theorem dX10_partOf_54 : decode cX10_partOf 54 = .ok (.bipush 110, 2) := by decide +kernel
theorem dX10_partOf_56 : decode cX10_partOf 56 = .ok (.invokestatic 129, 3) := by decide +kernel
theorem dX10_partOf_59 : decode cX10_partOf 59 = .ok (.invokevirtual 189, 3) := by decide +kernel
theorem dX10_partOf_62 : decode cX10_partOf 62 = .ok (.ifCond .eq 15, 3) := by decide +kernel
theorem dX10_partOf_65 : decode cX10_partOf 65 = .ok (.aload_n 0, 1) := by decide +kernel
theorem dX10_partOf_66 : decode cX10_partOf 66 = .ok (.invokevirtual 197, 3) := by decide +kernel
theorem dX10_partOf_69 : decode cX10_partOf 69 = .ok (.ifCond .eq 8, 3) := by decide +kernel
theorem dX10_partOf_72 : decode cX10_partOf 72 = .ok (.bipush 42, 2) := by decide +kernel
theorem dX10_partOf_74 : decode cX10_partOf 74 = .ok (.goto 4, 3) := by decide +kernel
theorem dX10_partOf_77 : decode cX10_partOf 77 = .ok (.iconst (-1), 1) := by decide +kernel
theorem dX10_partOf_78 : decode cX10_partOf 78 = .ok (.ireturn, 1) := by decide +kernel
theorem dX10_partOf_79 : decode cX10_partOf 79 = .ok (.aload_n 0, 1) := by decide +kernel
theorem dX10_partOf_80 : decode cX10_partOf 80 = .ok (.bipush 101, 2) := by decide +kernel
theorem dX10_partOf_82 : decode cX10_partOf 82 = .ok (.bipush 108, 2) := by decide +kernel
theorem dX10_partOf_84 : decode cX10_partOf 84 = .ok (.bipush 115, 2) := by decide +kernel
theorem dX10_partOf_86 : decode cX10_partOf 86 = .ok (.bipush 101, 2) := by decide +kernel
theorem dX10_partOf_88 : decode cX10_partOf 88 = .ok (.invokestatic 129, 3) := by decide +kernel
theorem dX10_partOf_91 : decode cX10_partOf 91 = .ok (.invokevirtual 189, 3) := by decide +kernel
theorem dX10_partOf_94 : decode cX10_partOf 94 = .ok (.ifCond .eq 8, 3) := by decide +kernel
theorem dX10_partOf_97 : decode cX10_partOf 97 = .ok (.bipush 43, 2) := by decide +kernel
theorem dX10_partOf_99 : decode cX10_partOf 99 = .ok (.goto 4, 3) := by decide +kernel
theorem dX10_partOf_102 : decode cX10_partOf 102 = .ok (.iconst (-1), 1) := by decide +kernel
theorem dX10_partOf_103 : decode cX10_partOf 103 = .ok (.ireturn, 1) := by decide +kernel
theorem dX10_partOf_104 : decode cX10_partOf 104 = .ok (.aload_n 0, 1) := by decide +kernel
theorem dX10_partOf_105 : decode cX10_partOf 105 = .ok (.bipush 101, 2) := by decide +kernel
theorem dX10_partOf_107 : decode cX10_partOf 107 = .ok (.bipush 110, 2) := by decide +kernel
theorem dX10_partOf_109 : decode cX10_partOf 109 = .ok (.bipush 100, 2) := by decide +kernel
theorem dX10_partOf_111 : decode cX10_partOf 111 = .ok (.invokestatic 125, 3) := by decide +kernel
theorem dX10_partOf_114 : decode cX10_partOf 114 = .ok (.invokevirtual 189, 3) := by decide +kernel
theorem dX10_partOf_117 : decode cX10_partOf 117 = .ok (.ifCond .eq 7, 3) := by decide +kernel
theorem dX10_partOf_120 : decode cX10_partOf 120 = .ok (.iconst 0, 1) := by decide +kernel
theorem dX10_partOf_121 : decode cX10_partOf 121 = .ok (.goto 4, 3) := by decide +kernel
theorem dX10_partOf_124 : decode cX10_partOf 124 = .ok (.iconst (-1), 1) := by decide +kernel
theorem dX10_partOf_125 : decode cX10_partOf 125 = .ok (.ireturn, 1) := by decide +kernel
theorem dX10_partOf_126 : decode cX10_partOf 126 = .ok (.iconst (-1), 1) := by decide +kernel
theorem dX10_partOf_127 : decode cX10_partOf 127 = .ok (.ireturn, 1) := by decide +kernel
def f_X10_partOf (M : xm) (Lm : xn) (a1 : Int32) : Option (Int32) := (if a1 = (40 : Int32) then (if (M 0 9) = (41 : Int32) then some (0 : Int32) else some (-1 : Int32)) else (if a1 = (41 : Int32) then (if (f_X10_isWord M Lm (f_X10_w4 (116 : Int32) (104 : Int32) (101 : Int32) (110 : Int32))) = 0 then some (-1 : Int32) else xb1 (f_X10_isCompared M) (fun v8 => (if v8 = 0 then some (-1 : Int32) else some (42 : Int32)))) else (if a1 = (42 : Int32) then (if (f_X10_isWord M Lm (f_X10_w4 (101 : Int32) (108 : Int32) (115 : Int32) (101 : Int32))) = 0 then some (-1 : Int32) else some (43 : Int32)) else (if a1 = (43 : Int32) then (if (f_X10_isWord M Lm (f_X10_w3 (101 : Int32) (110 : Int32) (100 : Int32))) = 0 then some (-1 : Int32) else some (0 : Int32)) else some (-1 : Int32)))))
set_option maxHeartbeats 4000000 in
set_option maxRecDepth 20000 in
theorem c_X10_partOf (l : Launch) (E : xE) (b : Nat) (M : xm) (Lm : xn) (a1 : Int32) {r : Int32} (hf : f_X10_partOf M Lm a1 = some r) :
    xMet l E b NY yX10_partOf cX10_partOf 2 (some .int) (xR 4) [.ref (b + 0), .int a1] (cY E b M Lm) (some (.int r)) True (cY E b M Lm) := by
  refine xMet.ofW (own := RX10) (by decide) rfl (Nat.le_of_ble_eq_true rfl) ?_
  intro p e s m below meth c H locs ls C hm hl
  have hx := C.1.1
  have hb := C.1.2.1
  have hl : lv_has ls 2 [(0, .ref (b + 0)), (1, .int a1)] := hl
  unfold f_X10_partOf at hf
  refine lv_iload_n hx hb dX10_partOf_0 rfl (lv_at hl 1 rfl) ?_
  by_cases hs1 : a1 = (40 : Int32)
  · have hf := xif_t hs1 hf
    refine x_tabIn (tgt := 32) hx hb (40 : Int32) hs1 dX10_partOf_1 (by decide) (by decide) rfl (by decide) ?_
    refine lv_aload_n hx hb dX10_partOf_32 rfl (lv_at hl 0 rfl) ?_
    refine x_get C hm inX10 rfl 9 (by decide) tf_RX10_99 cy_0 rfl dX10_partOf_33 ?_
    refine lv_bipush (v := (41 : Int32)) hx hb dX10_partOf_36 (by decide) ?_
    refine lv_icmp_ne (tgt := 45) hx hb dX10_partOf_38 (by decide) (fun hc2 => ?_) (fun hc2 => ?_)
    · have hf := xif_f hc2 hf
      refine lv_iconst (v := (-1 : Int32)) hx hb dX10_partOf_45 (by decide) ?_
      cases hf
      exact x_iret C hm trivial dX10_partOf_46
    have hf := xif_t hc2 hf
    refine lv_iconst (v := (0 : Int32)) hx hb dX10_partOf_41 (by decide) ?_
    refine lv_goto (tgt := 46) hx hb dX10_partOf_42 (by decide) ?_
    cases hf
    exact x_iret C hm trivial dX10_partOf_46
  have hf := xif_f hs1 hf
  by_cases hs3 : a1 = (41 : Int32)
  · have hf := xif_t hs3 hf
    refine x_tabIn (tgt := 47) hx hb (41 : Int32) hs3 dX10_partOf_1 (by decide) (by decide) rfl (by decide) ?_
    refine lv_aload_n hx hb dX10_partOf_47 rfl (lv_at hl 0 rfl) ?_
    refine lv_bipush (v := (116 : Int32)) hx hb dX10_partOf_48 (by decide) ?_
    refine lv_bipush (v := (104 : Int32)) hx hb dX10_partOf_50 (by decide) ?_
    refine lv_bipush (v := (101 : Int32)) hx hb dX10_partOf_52 (by decide) ?_
    refine lv_bipush (v := (110 : Int32)) hx hb dX10_partOf_54 (by decide) ?_
    refine x_callSl (As := [.int (116 : Int32), .int (104 : Int32), .int (101 : Int32), .int (110 : Int32)]) (rest := [.ref (b + 0)]) C hm (c_X10_w4 l E b M Lm (116 : Int32) (104 : Int32) (101 : Int32) (110 : Int32) rfl) tc_X10_w4 tm_RX10_129 tz_X10_w4 tn_RX10 td_X10_w4 rfl rfl ⟨Nat.le_of_ble_eq_true rfl, Nat.le_of_ble_eq_true rfl⟩ rfl hl.1 rfl (Nat.le_of_ble_eq_true rfl) ⟨Nat.zero_le _, Nat.zero_le _⟩ dX10_partOf_56 (fun H locs hP4 hm => ?_)
    refine x_callVi (As := [.long (f_X10_w4 (116 : Int32) (104 : Int32) (101 : Int32) (110 : Int32))]) (rest := []) C hm (c_X10_isWord l E b M Lm (f_X10_w4 (116 : Int32) (104 : Int32) (101 : Int32) (110 : Int32)) rfl) rfl cy_0 tc_X10_isWord tm_RX10_189 ti_X10_isWord ts_X10_isWord tn_RX10 td_X10_isWord rfl rfl ⟨Nat.le_of_ble_eq_true rfl, Nat.le_of_ble_eq_true rfl⟩ rfl hl.1 rfl (Nat.le_of_ble_eq_true rfl) ⟨Nat.zero_le _, Nat.zero_le _⟩ dX10_partOf_59 (fun H locs hP5 hm => ?_)
    refine lv_if_eq (tgt := 77) hx hb dX10_partOf_62 (by decide) (fun hc6 => ?_) (fun hc6 => ?_)
    · have hf := xif_t hc6 hf
      refine lv_iconst (v := (-1 : Int32)) hx hb dX10_partOf_77 (by decide) ?_
      cases hf
      exact x_iret C hm trivial dX10_partOf_78
    have hf := xif_f hc6 hf
    refine lv_aload_n hx hb dX10_partOf_65 rfl (lv_at hl 0 rfl) ?_
    obtain ⟨v8, hq7, hf⟩ := xb1_e hf
    refine x_callVi (As := []) (rest := []) C hm (c_X10_isCompared l E b M Lm hq7) rfl cy_0 tc_X10_isCompared tm_RX10_197 ti_X10_isCompared ts_X10_isCompared tn_RX10 td_X10_isCompared rfl rfl ⟨Nat.le_of_ble_eq_true rfl, Nat.le_of_ble_eq_true rfl⟩ rfl hl.1 rfl (Nat.le_of_ble_eq_true rfl) ⟨Nat.zero_le _, Nat.zero_le _⟩ dX10_partOf_66 (fun H locs hP9 hm => ?_)
    refine lv_if_eq (tgt := 77) hx hb dX10_partOf_69 (by decide) (fun hc10 => ?_) (fun hc10 => ?_)
    · have hf := xif_t hc10 hf
      refine lv_iconst (v := (-1 : Int32)) hx hb dX10_partOf_77 (by decide) ?_
      cases hf
      exact x_iret C hm trivial dX10_partOf_78
    have hf := xif_f hc10 hf
    refine lv_bipush (v := (42 : Int32)) hx hb dX10_partOf_72 (by decide) ?_
    refine lv_goto (tgt := 78) hx hb dX10_partOf_74 (by decide) ?_
    cases hf
    exact x_iret C hm trivial dX10_partOf_78
  have hf := xif_f hs3 hf
  by_cases hs11 : a1 = (42 : Int32)
  · have hf := xif_t hs11 hf
    refine x_tabIn (tgt := 79) hx hb (42 : Int32) hs11 dX10_partOf_1 (by decide) (by decide) rfl (by decide) ?_
    refine lv_aload_n hx hb dX10_partOf_79 rfl (lv_at hl 0 rfl) ?_
    refine lv_bipush (v := (101 : Int32)) hx hb dX10_partOf_80 (by decide) ?_
    refine lv_bipush (v := (108 : Int32)) hx hb dX10_partOf_82 (by decide) ?_
    refine lv_bipush (v := (115 : Int32)) hx hb dX10_partOf_84 (by decide) ?_
    refine lv_bipush (v := (101 : Int32)) hx hb dX10_partOf_86 (by decide) ?_
    refine x_callSl (As := [.int (101 : Int32), .int (108 : Int32), .int (115 : Int32), .int (101 : Int32)]) (rest := [.ref (b + 0)]) C hm (c_X10_w4 l E b M Lm (101 : Int32) (108 : Int32) (115 : Int32) (101 : Int32) rfl) tc_X10_w4 tm_RX10_129 tz_X10_w4 tn_RX10 td_X10_w4 rfl rfl ⟨Nat.le_of_ble_eq_true rfl, Nat.le_of_ble_eq_true rfl⟩ rfl hl.1 rfl (Nat.le_of_ble_eq_true rfl) ⟨Nat.zero_le _, Nat.zero_le _⟩ dX10_partOf_88 (fun H locs hP12 hm => ?_)
    refine x_callVi (As := [.long (f_X10_w4 (101 : Int32) (108 : Int32) (115 : Int32) (101 : Int32))]) (rest := []) C hm (c_X10_isWord l E b M Lm (f_X10_w4 (101 : Int32) (108 : Int32) (115 : Int32) (101 : Int32)) rfl) rfl cy_0 tc_X10_isWord tm_RX10_189 ti_X10_isWord ts_X10_isWord tn_RX10 td_X10_isWord rfl rfl ⟨Nat.le_of_ble_eq_true rfl, Nat.le_of_ble_eq_true rfl⟩ rfl hl.1 rfl (Nat.le_of_ble_eq_true rfl) ⟨Nat.zero_le _, Nat.zero_le _⟩ dX10_partOf_91 (fun H locs hP13 hm => ?_)
    refine lv_if_eq (tgt := 102) hx hb dX10_partOf_94 (by decide) (fun hc14 => ?_) (fun hc14 => ?_)
    · have hf := xif_t hc14 hf
      refine lv_iconst (v := (-1 : Int32)) hx hb dX10_partOf_102 (by decide) ?_
      cases hf
      exact x_iret C hm trivial dX10_partOf_103
    have hf := xif_f hc14 hf
    refine lv_bipush (v := (43 : Int32)) hx hb dX10_partOf_97 (by decide) ?_
    refine lv_goto (tgt := 103) hx hb dX10_partOf_99 (by decide) ?_
    cases hf
    exact x_iret C hm trivial dX10_partOf_103
  have hf := xif_f hs11 hf
  by_cases hs15 : a1 = (43 : Int32)
  · have hf := xif_t hs15 hf
    refine x_tabIn (tgt := 104) hx hb (43 : Int32) hs15 dX10_partOf_1 (by decide) (by decide) rfl (by decide) ?_
    refine lv_aload_n hx hb dX10_partOf_104 rfl (lv_at hl 0 rfl) ?_
    refine lv_bipush (v := (101 : Int32)) hx hb dX10_partOf_105 (by decide) ?_
    refine lv_bipush (v := (110 : Int32)) hx hb dX10_partOf_107 (by decide) ?_
    refine lv_bipush (v := (100 : Int32)) hx hb dX10_partOf_109 (by decide) ?_
    refine x_callSl (As := [.int (101 : Int32), .int (110 : Int32), .int (100 : Int32)]) (rest := [.ref (b + 0)]) C hm (c_X10_w3 l E b M Lm (101 : Int32) (110 : Int32) (100 : Int32) rfl) tc_X10_w3 tm_RX10_125 tz_X10_w3 tn_RX10 td_X10_w3 rfl rfl ⟨Nat.le_of_ble_eq_true rfl, Nat.le_of_ble_eq_true rfl⟩ rfl hl.1 rfl (Nat.le_of_ble_eq_true rfl) ⟨Nat.zero_le _, Nat.zero_le _⟩ dX10_partOf_111 (fun H locs hP16 hm => ?_)
    refine x_callVi (As := [.long (f_X10_w3 (101 : Int32) (110 : Int32) (100 : Int32))]) (rest := []) C hm (c_X10_isWord l E b M Lm (f_X10_w3 (101 : Int32) (110 : Int32) (100 : Int32)) rfl) rfl cy_0 tc_X10_isWord tm_RX10_189 ti_X10_isWord ts_X10_isWord tn_RX10 td_X10_isWord rfl rfl ⟨Nat.le_of_ble_eq_true rfl, Nat.le_of_ble_eq_true rfl⟩ rfl hl.1 rfl (Nat.le_of_ble_eq_true rfl) ⟨Nat.zero_le _, Nat.zero_le _⟩ dX10_partOf_114 (fun H locs hP17 hm => ?_)
    refine lv_if_eq (tgt := 124) hx hb dX10_partOf_117 (by decide) (fun hc18 => ?_) (fun hc18 => ?_)
    · have hf := xif_t hc18 hf
      refine lv_iconst (v := (-1 : Int32)) hx hb dX10_partOf_124 (by decide) ?_
      cases hf
      exact x_iret C hm trivial dX10_partOf_125
    have hf := xif_f hc18 hf
    refine lv_iconst (v := (0 : Int32)) hx hb dX10_partOf_120 (by decide) ?_
    refine lv_goto (tgt := 125) hx hb dX10_partOf_121 (by decide) ?_
    cases hf
    exact x_iret C hm trivial dX10_partOf_125
  have hf := xif_f hs15 hf
  refine x_tabOut (tgt := 126) hx hb dX10_partOf_1 (by decide) (fun i hi => ?_) (by decide) ?_
  · match i, hi with
    | 0, _ => exact hs1
    | 1, _ => exact hs3
    | 2, _ => exact hs11
    | 3, _ => exact hs15
    | (i + 4), hi => exact absurd hi (by omega)
  refine lv_iconst (v := (-1 : Int32)) hx hb dX10_partOf_126 (by decide) ?_
  cases hf
  exact x_iret C hm trivial dX10_partOf_127
