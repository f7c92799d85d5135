/-! ColouredHeap$Reader.wantNumber(II)I -/
theorem dX4_wantNumber_0 : decode cX4_wantNumber 0 = .ok (.aload_n 0, 1) := by decide +kernel
theorem dX4_wantNumber_1 : decode cX4_wantNumber 1 = .ok (.bipush 40, 2) := by decide +kernel
theorem dX4_wantNumber_3 : decode cX4_wantNumber 3 = .ok (.invokevirtual 58, 3) := by decide +kernel
theorem dX4_wantNumber_6 : decode cX4_wantNumber 6 = .ok (.ifCond .ne 10, 3) := by decide +kernel
theorem dX4_wantNumber_9 : decode cX4_wantNumber 9 = .ok (.aload_n 0, 1) := by decide +kernel
theorem dX4_wantNumber_10 : decode cX4_wantNumber 10 = .ok (.iconst 1, 1) := by decide +kernel
theorem dX4_wantNumber_11 : decode cX4_wantNumber 11 = .ok (.invokevirtual 114, 3) := by decide +kernel
theorem dX4_wantNumber_14 : decode cX4_wantNumber 14 = .ok (.iconst 0, 1) := by decide +kernel
theorem dX4_wantNumber_15 : decode cX4_wantNumber 15 = .ok (.ireturn, 1) := by decide +kernel
theorem dX4_wantNumber_16 : decode cX4_wantNumber 16 = .ok (.aload_n 0, 1) := by decide +kernel
theorem dX4_wantNumber_17 : decode cX4_wantNumber 17 = .ok (.getfield 21, 3) := by decide +kernel
theorem dX4_wantNumber_20 : decode cX4_wantNumber 20 = .ok (.aload_n 0, 1) := by decide +kernel
theorem dX4_wantNumber_21 : decode cX4_wantNumber 21 = .ok (.getfield 44, 3) := by decide +kernel
theorem dX4_wantNumber_24 : decode cX4_wantNumber 24 = .ok (.iaload, 1) := by decide +kernel
theorem dX4_wantNumber_25 : decode cX4_wantNumber 25 = .ok (.istore_n 3, 1) := by decide +kernel
theorem dX4_wantNumber_26 : decode cX4_wantNumber 26 = .ok (.iload_n 3, 1) := by decide +kernel
theorem dX4_wantNumber_27 : decode cX4_wantNumber 27 = .ok (.iload_n 1, 1) := by decide +kernel
theorem dX4_wantNumber_28 : decode cX4_wantNumber 28 = .ok (.if_icmp .lt 8, 3) := by decide +kernel
theorem dX4_wantNumber_31 : decode cX4_wantNumber 31 = .ok (.iload_n 3, 1) := by decide +kernel
theorem dX4_wantNumber_32 : decode cX4_wantNumber 32 = .ok (.iload_n 2, 1) := by decide +kernel
theorem dX4_wantNumber_33 : decode cX4_wantNumber 33 = .ok (.if_icmp .le 10, 3) := by decide +kernel
theorem dX4_wantNumber_36 : decode cX4_wantNumber 36 = .ok (.aload_n 0, 1) := by decide +kernel
theorem dX4_wantNumber_37 : decode cX4_wantNumber 37 = .ok (.iconst 2, 1) := by decide +kernel
theorem dX4_wantNumber_38 : decode cX4_wantNumber 38 = .ok (.invokevirtual 114, 3) := by decide +kernel
theorem dX4_wantNumber_41 : decode cX4_wantNumber 41 = .ok (.iconst 0, 1) := by decide +kernel
theorem dX4_wantNumber_42 : decode cX4_wantNumber 42 = .ok (.ireturn, 1) := by decide +kernel
theorem dX4_wantNumber_43 : decode cX4_wantNumber 43 = .ok (.aload_n 0, 1) := by decide +kernel
theorem dX4_wantNumber_44 : decode cX4_wantNumber 44 = .ok (.dup, 1) := by decide +kernel
theorem dX4_wantNumber_45 : decode cX4_wantNumber 45 = .ok (.getfield 44, 3) := by decide +kernel
theorem dX4_wantNumber_48 : decode cX4_wantNumber 48 = .ok (.iconst 1, 1) := by decide +kernel
theorem dX4_wantNumber_49 : decode cX4_wantNumber 49 = .ok (.iadd, 1) := by decide +kernel
theorem dX4_wantNumber_50 : decode cX4_wantNumber 50 = .ok (.putfield 44, 3) := by decide +kernel
theorem dX4_wantNumber_53 : decode cX4_wantNumber 53 = .ok (.iload_n 3, 1) := by decide +kernel
theorem dX4_wantNumber_54 : decode cX4_wantNumber 54 = .ok (.ireturn, 1) := by decide +kernel
def f_X4_wantNumber (M : xm) (a1 : Int32) (a2 : Int32) : Option (Int32 × xm) := xb1 (f_X4_isNext M (40 : Int32)) (fun v2 => (if v2 = 0 then xb1 (f_X4_refuse M (1 : Int32)) (fun M15 => some ((0 : Int32), M15)) else if xin (M 990 9) 301 = true then xlet (M (990 + 4) (Int32.toNatClampNeg (M 990 9))) (fun v6 => xlet (xb1 (f_X4_refuse M (2 : Int32)) (fun M9 => some ((0 : Int32), M9))) (fun k7 => (if v6 < a1 then k7 else (if v6 ≤ a2 then xlet (up2 M 990 9 ((M 990 9) + (1 : Int32))) (fun M13 => some (v6, M13)) else k7)))) else none))
set_option maxHeartbeats 4000000 in
set_option maxRecDepth 20000 in
theorem c_X4_wantNumber (l : Launch) (E : xE) (b : Nat) (M : xm) (a1 : Int32) (a2 : Int32) {r : Int32} {M' : xm} (hf : f_X4_wantNumber M a1 a2 = some (r, M')) :
    xMet l E b NX yX4_wantNumber cX4_wantNumber 4 (some .int) (xR 3) [.ref (b + 990), .int a1, .int a2] (cX E b M) (some (.int r)) True (cX E b M') := by
  refine xMet.ofW (own := RX4) (by decide) rfl (Nat.le_of_ble_eq_true rfl) ?_
  intro p e s m below meth c H locs ls C hm hl
  have hx := C.1.1
  have hb := C.1.2.1
  have hl : lv_has ls 4 [(0, .ref (b + 990)), (1, .int a1), (2, .int a2)] := hl
  unfold f_X4_wantNumber at hf
  refine lv_aload_n hx hb dX4_wantNumber_0 rfl (lv_at hl 0 rfl) ?_
  refine lv_bipush (v := (40 : Int32)) hx hb dX4_wantNumber_1 (by decide) ?_
  obtain ⟨v2, hq1, hf⟩ := xb1_e hf
  refine x_callVi (As := [.int (40 : Int32)]) (rest := []) C hm (c_X4_isNext l E b M (40 : Int32) hq1) rfl (cx_Reader (LX_reader 0 _ rfl)) tc_X4_isNext tm_RX4_58 ti_X4_isNext ts_X4_isNext tn_RX4 td_X4_isNext rfl rfl ⟨Nat.le_of_ble_eq_true rfl, Nat.le_of_ble_eq_true rfl⟩ rfl hl.1 rfl (Nat.le_of_ble_eq_true rfl) ⟨Nat.zero_le _, Nat.zero_le _⟩ dX4_wantNumber_3 (fun H locs hP3 hm => ?_)
  refine lv_if_ne (tgt := 16) hx hb dX4_wantNumber_6 (by decide) (fun hc4 => ?_) (fun hc4 => ?_)
  rotate_left
  · have hf := xif_t hc4 hf
    refine lv_aload_n hx hb dX4_wantNumber_9 rfl (lv_at hl 0 rfl) ?_
    refine lv_iconst (v := (1 : Int32)) hx hb dX4_wantNumber_10 (by decide) ?_
    obtain ⟨M15, hq14, hf⟩ := xb1_e hf
    refine x_callVv (As := [.int (1 : Int32)]) (rest := []) C hm (c_X4_refuse l E b M (1 : Int32) hq14) rfl (cx_Reader (LX_reader 0 _ rfl)) tc_X4_refuse tm_RX4_114 ti_X4_refuse ts_X4_refuse tn_RX4 td_X4_refuse rfl rfl ⟨Nat.le_of_ble_eq_true rfl, Nat.le_of_ble_eq_true rfl⟩ rfl hl.1 rfl (Nat.le_of_ble_eq_true rfl) ⟨Nat.zero_le _, Nat.zero_le _⟩ dX4_wantNumber_11 (fun H locs hP16 hm => ?_)
    refine lv_iconst (v := (0 : Int32)) hx hb dX4_wantNumber_14 (by decide) ?_
    cases hf
    exact x_iret C hm trivial dX4_wantNumber_15
  have hf := xif_f hc4 hf
  refine lv_aload_n hx hb dX4_wantNumber_16 rfl (lv_at hl 0 rfl) ?_
  refine x_get C hm inX4 rfl 3 (by decide) tf_RX4_21 (cx_Reader (LX_reader 0 _ rfl)) rfl dX4_wantNumber_17 ?_
  refine lv_aload_n hx hb dX4_wantNumber_20 rfl (lv_at hl 0 rfl) ?_
  refine x_get C hm inX4 rfl 9 (by decide) tf_RX4_44 (cx_Reader (LX_reader 0 _ rfl)) rfl dX4_wantNumber_21 ?_
  obtain ⟨hi5, hf⟩ := xif_s hf
  refine x_iald (j := (Int32.toNatClampNeg (M 990 9))) C hm (cx_I (LX_reader 4 _ rfl)) hi5 dX4_wantNumber_24 rfl ?_
  refine lv_topi (fun v6 ev6 => ?_)
  have hf := xlet_e ev6 hf
  refine lv_istore_n (lv' := [(3, .int v6), (0, .ref (b + 990)), (1, .int a1), (2, .int a2)]) hx hb dX4_wantNumber_25 rfl hl (by decide) rfl (fun ls hl => ?_)
  refine lv_iload_n hx hb dX4_wantNumber_26 rfl (lv_at hl 0 rfl) ?_
  refine lv_iload_n hx hb dX4_wantNumber_27 rfl (lv_at hl 2 rfl) ?_
  obtain ⟨k7, ek7, hf⟩ := xlet_x hf
  have jk7 : ∀  (H : Heap) (locs : List Loc) (ls : Array Slot), k7 = some (r, M') → xM E b NX (cX E b M) s.heap H locs → lv_has ls 4 [(0, .ref (b + 990))] → W p l e (xR 3) s m ([.ref (b + 990), .int a1, .int a2] : List Value).toArray below meth c H locs 0 0 (MQ below (xQ E b NX (some (.int r)) True (cX E b M')) ([.ref (b + 990), .int a1, .int a2] : List Value).toArray s 0 0 (xA b NX)) (F0 m 36 ls []) := by
    intro  H locs ls hf hm hl
    have hf := xap0 ek7 hf
    refine lv_aload_n hx hb dX4_wantNumber_36 rfl (lv_at hl 0 rfl) ?_
    refine lv_iconst (v := (2 : Int32)) hx hb dX4_wantNumber_37 (by decide) ?_
    obtain ⟨M9, hq8, hf⟩ := xb1_e hf
    refine x_callVv (As := [.int (2 : Int32)]) (rest := []) C hm (c_X4_refuse l E b M (2 : Int32) hq8) rfl (cx_Reader (LX_reader 0 _ rfl)) tc_X4_refuse tm_RX4_114 ti_X4_refuse ts_X4_refuse tn_RX4 td_X4_refuse rfl rfl ⟨Nat.le_of_ble_eq_true rfl, Nat.le_of_ble_eq_true rfl⟩ rfl hl.1 rfl (Nat.le_of_ble_eq_true rfl) ⟨Nat.zero_le _, Nat.zero_le _⟩ dX4_wantNumber_38 (fun H locs hP10 hm => ?_)
    refine lv_iconst (v := (0 : Int32)) hx hb dX4_wantNumber_41 (by decide) ?_
    cases hf
    exact x_iret C hm trivial dX4_wantNumber_42
  refine lv_icmp_lt (tgt := 36) hx hb dX4_wantNumber_28 (by decide) (fun hc11 => ?_) (fun hc11 => ?_)
  · have hf := xif_t hc11 hf
    exact jk7  H locs ls  hf hm (lv_sub hl [1] rfl)
  have hf := xif_f hc11 hf
  refine lv_iload_n hx hb dX4_wantNumber_31 rfl (lv_at hl 0 rfl) ?_
  refine lv_iload_n hx hb dX4_wantNumber_32 rfl (lv_at hl 3 rfl) ?_
  refine lv_icmp_le (tgt := 43) hx hb dX4_wantNumber_33 (by decide) (fun hc12 => ?_) (fun hc12 => ?_)
  rotate_left
  · have hf := xif_f hc12 hf
    exact jk7  H locs ls  hf hm (lv_sub hl [1] rfl)
  have hf := xif_t hc12 hf
  refine lv_aload_n hx hb dX4_wantNumber_43 rfl (lv_at hl 1 rfl) ?_
  refine lv_dup hx hb dX4_wantNumber_44 rfl ?_
  refine x_get C hm inX4 rfl 9 (by decide) tf_RX4_44 (cx_Reader (LX_reader 0 _ rfl)) rfl dX4_wantNumber_45 ?_
  refine lv_iconst (v := (1 : Int32)) hx hb dX4_wantNumber_48 (by decide) ?_
  refine lv_iadd hx hb dX4_wantNumber_49 ?_
  obtain ⟨M13, eM13, hf⟩ := xlet_x hf
  refine x_put (cf' := cX E b M13) C hm inX4 tyX4 tyX4_ok nmX4 rfl 9 (by decide) tf_RX4_44 rfl rfl rfl (cx_Reader (LX_reader 0 _ rfl)) (Nat.le_of_ble_eq_true rfl) (by rw [eM13]; exact cu_Reader_9 (LX_reader 0 _ rfl)) (by rw [eM13]; exact cX_o) dX4_wantNumber_50 (fun H locs hm => ?_)
  refine lv_iload_n hx hb dX4_wantNumber_53 rfl (lv_at hl 0 rfl) ?_
  cases hf
  exact x_iret C hm trivial dX4_wantNumber_54
/-! ColouredHeap$Reader.byteAt(I)I -/
theorem dX4_byteAt_0 : decode cX4_byteAt 0 = .ok (.iload_n 1, 1) := by decide +kernel
theorem dX4_byteAt_1 : decode cX4_byteAt 1 = .ok (.ifCond .lt 27, 3) := by decide +kernel
theorem dX4_byteAt_4 : decode cX4_byteAt 4 = .ok (.iload_n 1, 1) := by decide +kernel
theorem dX4_byteAt_5 : decode cX4_byteAt 5 = .ok (.aload_n 0, 1) := by decide +kernel
theorem dX4_byteAt_6 : decode cX4_byteAt 6 = .ok (.getfield 31, 3) := by decide +kernel
theorem dX4_byteAt_9 : decode cX4_byteAt 9 = .ok (.if_icmp .ge 19, 3) := by decide +kernel
theorem dX4_byteAt_12 : decode cX4_byteAt 12 = .ok (.iload_n 1, 1) := by decide +kernel
theorem dX4_byteAt_13 : decode cX4_byteAt 13 = .ok (.sipush 300, 3) := by decide +kernel
theorem dX4_byteAt_16 : decode cX4_byteAt 16 = .ok (.if_icmp .ge 12, 3) := by decide +kernel
theorem dX4_byteAt_19 : decode cX4_byteAt 19 = .ok (.aload_n 0, 1) := by decide +kernel
theorem dX4_byteAt_20 : decode cX4_byteAt 20 = .ok (.getfield 9, 3) := by decide +kernel
theorem dX4_byteAt_23 : decode cX4_byteAt 23 = .ok (.iload_n 1, 1) := by decide +kernel
theorem dX4_byteAt_24 : decode cX4_byteAt 24 = .ok (.iaload, 1) := by decide +kernel
theorem dX4_byteAt_25 : decode cX4_byteAt 25 = .ok (.goto 4, 3) := by decide +kernel
theorem dX4_byteAt_28 : decode cX4_byteAt 28 = .ok (.iconst (-1), 1) := by decide +kernel
theorem dX4_byteAt_29 : decode cX4_byteAt 29 = .ok (.ireturn, 1) := by decide +kernel
def f_X4_byteAt (M : xm) (a1 : Int32) : Option (Int32) := (if a1 < 0 then some (-1 : Int32) else (if (M 990 5) ≤ a1 then some (-1 : Int32) else (if (300 : Int32) ≤ a1 then some (-1 : Int32) else if xin a1 300 = true then some (M (990 + 1) (Int32.toNatClampNeg a1)) else none)))
set_option maxHeartbeats 4000000 in
set_option maxRecDepth 20000 in
theorem c_X4_byteAt (l : Launch) (E : xE) (b : Nat) (M : xm) (a1 : Int32) {r : Int32} (hf : f_X4_byteAt M a1 = some r) :
    xMet l E b NX yX4_byteAt cX4_byteAt 2 (some .int) (xR 1) [.ref (b + 990), .int a1] (cX E b M) (some (.int r)) True (cX E b M) := by
  refine xMet.ofW (own := RX4) (by decide) rfl (Nat.le_of_ble_eq_true rfl) ?_
  intro p e s m below meth c H locs ls C hm hl
  have hx := C.1.1
  have hb := C.1.2.1
  have hl : lv_has ls 2 [(0, .ref (b + 990)), (1, .int a1)] := hl
  unfold f_X4_byteAt at hf
  refine lv_iload_n hx hb dX4_byteAt_0 rfl (lv_at hl 1 rfl) ?_
  refine lv_if_lt (tgt := 28) hx hb dX4_byteAt_1 (by decide) (fun hc1 => ?_) (fun hc1 => ?_)
  · have hf := xif_t hc1 hf
    refine lv_iconst (v := (-1 : Int32)) hx hb dX4_byteAt_28 (by decide) ?_
    cases hf
    exact x_iret C hm trivial dX4_byteAt_29
  have hf := xif_f hc1 hf
  refine lv_iload_n hx hb dX4_byteAt_4 rfl (lv_at hl 1 rfl) ?_
  refine lv_aload_n hx hb dX4_byteAt_5 rfl (lv_at hl 0 rfl) ?_
  refine x_get C hm inX4 rfl 5 (by decide) tf_RX4_31 (cx_Reader (LX_reader 0 _ rfl)) rfl dX4_byteAt_6 ?_
  refine lv_icmp_ge (tgt := 28) hx hb dX4_byteAt_9 (by decide) (fun hc2 => ?_) (fun hc2 => ?_)
  · have hf := xif_t hc2 hf
    refine lv_iconst (v := (-1 : Int32)) hx hb dX4_byteAt_28 (by decide) ?_
    cases hf
    exact x_iret C hm trivial dX4_byteAt_29
  have hf := xif_f hc2 hf
  refine lv_iload_n hx hb dX4_byteAt_12 rfl (lv_at hl 1 rfl) ?_
  refine lv_sipush (v := (300 : Int32)) hx hb dX4_byteAt_13 (by decide) ?_
  refine lv_icmp_ge (tgt := 28) hx hb dX4_byteAt_16 (by decide) (fun hc3 => ?_) (fun hc3 => ?_)
  · have hf := xif_t hc3 hf
    refine lv_iconst (v := (-1 : Int32)) hx hb dX4_byteAt_28 (by decide) ?_
    cases hf
    exact x_iret C hm trivial dX4_byteAt_29
  have hf := xif_f hc3 hf
  refine lv_aload_n hx hb dX4_byteAt_19 rfl (lv_at hl 0 rfl) ?_
  refine x_get C hm inX4 rfl 0 (by decide) tf_RX4_9 (cx_Reader (LX_reader 0 _ rfl)) rfl dX4_byteAt_20 ?_
  refine lv_iload_n hx hb dX4_byteAt_23 rfl (lv_at hl 1 rfl) ?_
  obtain ⟨hi4, hf⟩ := xif_s hf
  refine x_iald (j := (Int32.toNatClampNeg a1)) C hm (cx_I (LX_reader 1 _ rfl)) hi4 dX4_byteAt_24 rfl ?_
  refine lv_goto (tgt := 29) hx hb dX4_byteAt_25 (by decide) ?_
  cases hf
  exact x_iret C hm trivial dX4_byteAt_29
/-! ColouredHeap$Reader.wantRoot()I -/
theorem dX4_wantRoot_0 : decode cX4_wantRoot 0 = .ok (.aload_n 0, 1) := by decide +kernel
theorem dX4_wantRoot_1 : decode cX4_wantRoot 1 = .ok (.iconst 0, 1) := by decide +kernel
theorem dX4_wantRoot_2 : decode cX4_wantRoot 2 = .ok (.iconst 5, 1) := by decide +kernel
theorem dX4_wantRoot_3 : decode cX4_wantRoot 3 = .ok (.invokevirtual 118, 3) := by decide +kernel
theorem dX4_wantRoot_6 : decode cX4_wantRoot 6 = .ok (.ireturn, 1) := by decide +kernel
def f_X4_wantRoot (M : xm) : Option (Int32 × xm) := xb2 (f_X4_wantNumber M (0 : Int32) (5 : Int32)) (fun v2 M3 => some (v2, M3))
set_option maxHeartbeats 4000000 in
set_option maxRecDepth 20000 in
theorem c_X4_wantRoot (l : Launch) (E : xE) (b : Nat) (M : xm) {r : Int32} {M' : xm} (hf : f_X4_wantRoot M = some (r, M')) :
    xMet l E b NX yX4_wantRoot cX4_wantRoot 1 (some .int) (xR 4) [.ref (b + 990)] (cX E b M) (some (.int r)) True (cX E b M') := by
  refine xMet.ofW (own := RX4) (by decide) rfl (Nat.le_of_ble_eq_true rfl) ?_
  intro p e s m below meth c H locs ls C hm hl
  have hx := C.1.1
  have hb := C.1.2.1
  have hl : lv_has ls 1 [(0, .ref (b + 990))] := hl
  unfold f_X4_wantRoot at hf
  refine lv_aload_n hx hb dX4_wantRoot_0 rfl (lv_at hl 0 rfl) ?_
  refine lv_iconst (v := (0 : Int32)) hx hb dX4_wantRoot_1 (by decide) ?_
  refine lv_iconst (v := (5 : Int32)) hx hb dX4_wantRoot_2 (by decide) ?_
  obtain ⟨v2, M3, hq1, hf⟩ := xb2_e hf
  refine x_callVi (As := [.int (0 : Int32), .int (5 : Int32)]) (rest := []) C hm (c_X4_wantNumber l E b M (0 : Int32) (5 : Int32) hq1) rfl (cx_Reader (LX_reader 0 _ rfl)) tc_X4_wantNumber tm_RX4_118 ti_X4_wantNumber ts_X4_wantNumber tn_RX4 td_X4_wantNumber rfl rfl ⟨Nat.le_of_ble_eq_true rfl, Nat.le_of_ble_eq_true rfl⟩ rfl hl.1 rfl (Nat.le_of_ble_eq_true rfl) ⟨Nat.zero_le _, Nat.zero_le _⟩ dX4_wantRoot_3 (fun H locs hP4 hm => ?_)
  cases hf
  exact x_iret C hm trivial dX4_wantRoot_6
/-! ColouredHeap$Text.addClause(IIII)V -/
theorem dX7_addClause_0 : decode cX7_addClause 0 = .ok (.aload_n 0, 1) := by decide +kernel
theorem dX7_addClause_1 : decode cX7_addClause 1 = .ok (.getfield 36, 3) := by decide +kernel
theorem dX7_addClause_4 : decode cX7_addClause 4 = .ok (.bipush 24, 2) := by decide +kernel
theorem dX7_addClause_6 : decode cX7_addClause 6 = .ok (.if_icmp .ge 54, 3) := by decide +kernel
theorem dX7_addClause_9 : decode cX7_addClause 9 = .ok (.aload_n 0, 1) := by decide +kernel
theorem dX7_addClause_10 : decode cX7_addClause 10 = .ok (.getfield 9, 3) := by decide +kernel
theorem dX7_addClause_13 : decode cX7_addClause 13 = .ok (.aload_n 0, 1) := by decide +kernel
theorem dX7_addClause_14 : decode cX7_addClause 14 = .ok (.getfield 36, 3) := by decide +kernel
theorem dX7_addClause_17 : decode cX7_addClause 17 = .ok (.iload_n 1, 1) := by decide +kernel
theorem dX7_addClause_18 : decode cX7_addClause 18 = .ok (.iastore, 1) := by decide +kernel
theorem dX7_addClause_19 : decode cX7_addClause 19 = .ok (.aload_n 0, 1) := by decide +kernel
theorem dX7_addClause_20 : decode cX7_addClause 20 = .ok (.getfield 15, 3) := by decide +kernel
theorem dX7_addClause_23 : decode cX7_addClause 23 = .ok (.aload_n 0, 1) := by decide +kernel
theorem dX7_addClause_24 : decode cX7_addClause 24 = .ok (.getfield 36, 3) := by decide +kernel
theorem dX7_addClause_27 : decode cX7_addClause 27 = .ok (.iload_n 2, 1) := by decide +kernel
theorem dX7_addClause_28 : decode cX7_addClause 28 = .ok (.iastore, 1) := by decide +kernel
theorem dX7_addClause_29 : decode cX7_addClause 29 = .ok (.aload_n 0, 1) := by decide +kernel
theorem dX7_addClause_30 : decode cX7_addClause 30 = .ok (.getfield 18, 3) := by decide +kernel
theorem dX7_addClause_33 : decode cX7_addClause 33 = .ok (.aload_n 0, 1) := by decide +kernel
theorem dX7_addClause_34 : decode cX7_addClause 34 = .ok (.getfield 36, 3) := by decide +kernel
theorem dX7_addClause_37 : decode cX7_addClause 37 = .ok (.iload_n 3, 1) := by decide +kernel
theorem dX7_addClause_38 : decode cX7_addClause 38 = .ok (.iastore, 1) := by decide +kernel
theorem dX7_addClause_39 : decode cX7_addClause 39 = .ok (.aload_n 0, 1) := by decide +kernel
theorem dX7_addClause_40 : decode cX7_addClause 40 = .ok (.getfield 21, 3) := by decide +kernel
theorem dX7_addClause_43 : decode cX7_addClause 43 = .ok (.aload_n 0, 1) := by decide +kernel
theorem dX7_addClause_44 : decode cX7_addClause 44 = .ok (.getfield 36, 3) := by decide +kernel
theorem dX7_addClause_47 : decode cX7_addClause 47 = .ok (.iload 4, 2) := by decide +kernel
theorem dX7_addClause_49 : decode cX7_addClause 49 = .ok (.iastore, 1) := by decide +kernel
theorem dX7_addClause_50 : decode cX7_addClause 50 = .ok (.aload_n 0, 1) := by decide +kernel
theorem dX7_addClause_51 : decode cX7_addClause 51 = .ok (.dup, 1) := by decide +kernel
theorem dX7_addClause_52 : decode cX7_addClause 52 = .ok (.getfield 36, 3) := by decide +kernel
theorem dX7_addClause_55 : decode cX7_addClause 55 = .ok (.iconst 1, 1) := by decide +kernel
theorem dX7_addClause_56 : decode cX7_addClause 56 = .ok (.iadd, 1) := by decide +kernel
theorem dX7_addClause_57 : decode cX7_addClause 57 = .ok (.putfield 36, 3) := by decide +kernel
theorem dX7_addClause_60 : decode cX7_addClause 60 = .ok (.return_, 1) := by decide +kernel
def f_X7_addClause (u0 : Nat) (M : xm) (a1 : Int32) (a2 : Int32) (a3 : Int32) (a4 : Int32) : Option (xm) := (if (24 : Int32) ≤ (M u0 8) then some M else if xin (M u0 8) 24 = true then xlet (up2 M (u0 + 1) (Int32.toNatClampNeg (M u0 8)) a1) (fun M3 => if xin (M3 u0 8) 24 = true then xlet (up2 M3 (u0 + 2) (Int32.toNatClampNeg (M3 u0 8)) a2) (fun M5 => if xin (M5 u0 8) 24 = true then xlet (up2 M5 (u0 + 3) (Int32.toNatClampNeg (M5 u0 8)) a3) (fun M7 => if xin (M7 u0 8) 24 = true then xlet (up2 M7 (u0 + 4) (Int32.toNatClampNeg (M7 u0 8)) a4) (fun M9 => xlet (up2 M9 u0 8 ((M9 u0 8) + (1 : Int32))) (fun M10 => some M10)) else none) else none) else none) else none)
set_option maxHeartbeats 4000000 in
set_option maxRecDepth 20000 in
theorem c_X7_addClause (l : Launch) (E : xE) (b : Nat) {u0 : Nat} (L_u0 : lat u0 pText) (M : xm) (a1 : Int32) (a2 : Int32) (a3 : Int32) (a4 : Int32) {M' : xm} (hf : f_X7_addClause u0 M a1 a2 a3 a4 = some M') :
    xMet l E b NX yX7_addClause cX7_addClause 5 none (xR 1) [.ref (b + u0), .int a1, .int a2, .int a3, .int a4] (cX E b M) none True (cX E b M') := by
  refine xMet.ofW (own := RX7) (by decide) rfl (Nat.le_of_ble_eq_true rfl) ?_
  intro p e s m below meth c H locs ls C hm hl
  have hx := C.1.1
  have hb := C.1.2.1
  have hl : lv_has ls 5 [(0, .ref (b + u0)), (1, .int a1), (2, .int a2), (3, .int a3), (4, .int a4)] := hl
  unfold f_X7_addClause at hf
  refine lv_aload_n hx hb dX7_addClause_0 rfl (lv_at hl 0 rfl) ?_
  refine x_get C hm inX7 rfl 8 (by decide) tf_RX7_36 (cx_Text (L_u0 0 _ rfl)) rfl dX7_addClause_1 ?_
  refine lv_bipush (v := (24 : Int32)) hx hb dX7_addClause_4 (by decide) ?_
  refine lv_icmp_ge (tgt := 60) hx hb dX7_addClause_6 (by decide) (fun hc1 => ?_) (fun hc1 => ?_)
  · have hf := xif_t hc1 hf
    cases hf
    exact x_vret C hm trivial dX7_addClause_60
  have hf := xif_f hc1 hf
  refine lv_aload_n hx hb dX7_addClause_9 rfl (lv_at hl 0 rfl) ?_
  refine x_get C hm inX7 rfl 0 (by decide) tf_RX7_9 (cx_Text (L_u0 0 _ rfl)) rfl dX7_addClause_10 ?_
  refine lv_aload_n hx hb dX7_addClause_13 rfl (lv_at hl 0 rfl) ?_
  refine x_get C hm inX7 rfl 8 (by decide) tf_RX7_36 (cx_Text (L_u0 0 _ rfl)) rfl dX7_addClause_14 ?_
  refine lv_iload_n hx hb dX7_addClause_17 rfl (lv_at hl 1 rfl) ?_
  obtain ⟨hi2, hf⟩ := xif_s hf
  obtain ⟨M3, eM3, hf⟩ := xlet_x hf
  refine x_iast (j := (Int32.toNatClampNeg (M u0 8))) (cf' := cX E b M3) C hm (cx_I (L_u0 1 _ rfl)) hi2 dX7_addClause_18 rfl (by rw [eM3]; exact cu_I (L_u0 1 _ rfl)) (by rw [eM3]; exact cX_o) (fun H locs hm => ?_)
  refine lv_aload_n hx hb dX7_addClause_19 rfl (lv_at hl 0 rfl) ?_
  refine x_get C hm inX7 rfl 1 (by decide) tf_RX7_15 (cx_Text (L_u0 0 _ rfl)) rfl dX7_addClause_20 ?_
  refine lv_aload_n hx hb dX7_addClause_23 rfl (lv_at hl 0 rfl) ?_
  refine x_get C hm inX7 rfl 8 (by decide) tf_RX7_36 (cx_Text (L_u0 0 _ rfl)) rfl dX7_addClause_24 ?_
  refine lv_iload_n hx hb dX7_addClause_27 rfl (lv_at hl 2 rfl) ?_
  obtain ⟨hi4, hf⟩ := xif_s hf
  obtain ⟨M5, eM5, hf⟩ := xlet_x hf
  refine x_iast (j := (Int32.toNatClampNeg (M3 u0 8))) (cf' := cX E b M5) C hm (cx_I (L_u0 2 _ rfl)) hi4 dX7_addClause_28 rfl (by rw [eM5]; exact cu_I (L_u0 2 _ rfl)) (by rw [eM5]; exact cX_o) (fun H locs hm => ?_)
  refine lv_aload_n hx hb dX7_addClause_29 rfl (lv_at hl 0 rfl) ?_
  refine x_get C hm inX7 rfl 2 (by decide) tf_RX7_18 (cx_Text (L_u0 0 _ rfl)) rfl dX7_addClause_30 ?_
  refine lv_aload_n hx hb dX7_addClause_33 rfl (lv_at hl 0 rfl) ?_
  refine x_get C hm inX7 rfl 8 (by decide) tf_RX7_36 (cx_Text (L_u0 0 _ rfl)) rfl dX7_addClause_34 ?_
  refine lv_iload_n hx hb dX7_addClause_37 rfl (lv_at hl 3 rfl) ?_
  obtain ⟨hi6, hf⟩ := xif_s hf
  obtain ⟨M7, eM7, hf⟩ := xlet_x hf
  refine x_iast (j := (Int32.toNatClampNeg (M5 u0 8))) (cf' := cX E b M7) C hm (cx_I (L_u0 3 _ rfl)) hi6 dX7_addClause_38 rfl (by rw [eM7]; exact cu_I (L_u0 3 _ rfl)) (by rw [eM7]; exact cX_o) (fun H locs hm => ?_)
  refine lv_aload_n hx hb dX7_addClause_39 rfl (lv_at hl 0 rfl) ?_
  refine x_get C hm inX7 rfl 3 (by decide) tf_RX7_21 (cx_Text (L_u0 0 _ rfl)) rfl dX7_addClause_40 ?_
  refine lv_aload_n hx hb dX7_addClause_43 rfl (lv_at hl 0 rfl) ?_
  refine x_get C hm inX7 rfl 8 (by decide) tf_RX7_36 (cx_Text (L_u0 0 _ rfl)) rfl dX7_addClause_44 ?_
  refine lv_iload hx hb dX7_addClause_47 (lv_at hl 4 rfl) ?_
  obtain ⟨hi8, hf⟩ := xif_s hf
  obtain ⟨M9, eM9, hf⟩ := xlet_x hf
  refine x_iast (j := (Int32.toNatClampNeg (M7 u0 8))) (cf' := cX E b M9) C hm (cx_I (L_u0 4 _ rfl)) hi8 dX7_addClause_49 rfl (by rw [eM9]; exact cu_I (L_u0 4 _ rfl)) (by rw [eM9]; exact cX_o) (fun H locs hm => ?_)
  refine lv_aload_n hx hb dX7_addClause_50 rfl (lv_at hl 0 rfl) ?_
  refine lv_dup hx hb dX7_addClause_51 rfl ?_
  refine x_get C hm inX7 rfl 8 (by decide) tf_RX7_36 (cx_Text (L_u0 0 _ rfl)) rfl dX7_addClause_52 ?_
  refine lv_iconst (v := (1 : Int32)) hx hb dX7_addClause_55 (by decide) ?_
  refine lv_iadd hx hb dX7_addClause_56 ?_
  obtain ⟨M10, eM10, hf⟩ := xlet_x hf
  refine x_put (cf' := cX E b M10) C hm inX7 tyX7 tyX7_ok nmX7 rfl 8 (by decide) tf_RX7_36 rfl rfl rfl (cx_Text (L_u0 0 _ rfl)) (Nat.le_of_ble_eq_true rfl) (by rw [eM10]; exact cu_Text_8 (L_u0 0 _ rfl)) (by rw [eM10]; exact cX_o) dX7_addClause_57 (fun H locs hm => ?_)
  cases hf
  exact x_vret C hm trivial dX7_addClause_60
/-! ColouredHeap$Reader.deedClause(I)V -/
theorem dX4_deedClause_0 : decode cX4_deedClause 0 = .ok (.iload_n 1, 1) := by decide +kernel
theorem dX4_deedClause_1 : decode cX4_deedClause 1 = .ok (.bipush 6, 2) := by decide +kernel
theorem dX4_deedClause_3 : decode cX4_deedClause 3 = .ok (.if_icmp .ne 21, 3) := by decide +kernel
theorem dX4_deedClause_6 : decode cX4_deedClause 6 = .ok (.aload_n 0, 1) := by decide +kernel
theorem dX4_deedClause_7 : decode cX4_deedClause 7 = .ok (.getfield 27, 3) := by decide +kernel
theorem dX4_deedClause_10 : decode cX4_deedClause 10 = .ok (.iload_n 1, 1) := by decide +kernel
theorem dX4_deedClause_11 : decode cX4_deedClause 11 = .ok (.aload_n 0, 1) := by decide +kernel
theorem dX4_deedClause_12 : decode cX4_deedClause 12 = .ok (.iconst 1, 1) := by decide +kernel
theorem dX4_deedClause_13 : decode cX4_deedClause 13 = .ok (.bipush 60, 2) := by decide +kernel
theorem dX4_deedClause_15 : decode cX4_deedClause 15 = .ok (.invokevirtual 118, 3) := by decide +kernel
theorem dX4_deedClause_18 : decode cX4_deedClause 18 = .ok (.iconst 0, 1) := by decide +kernel
theorem dX4_deedClause_19 : decode cX4_deedClause 19 = .ok (.iconst 0, 1) := by decide +kernel
theorem dX4_deedClause_20 : decode cX4_deedClause 20 = .ok (.invokevirtual 148, 3) := by decide +kernel
theorem dX4_deedClause_23 : decode cX4_deedClause 23 = .ok (.return_, 1) := by decide +kernel
theorem dX4_deedClause_24 : decode cX4_deedClause 24 = .ok (.aload_n 0, 1) := by decide +kernel
theorem dX4_deedClause_25 : decode cX4_deedClause 25 = .ok (.invokevirtual 152, 3) := by decide +kernel
theorem dX4_deedClause_28 : decode cX4_deedClause 28 = .ok (.istore_n 2, 1) := by decide +kernel
theorem dX4_deedClause_29 : decode cX4_deedClause 29 = .ok (.iconst 0, 1) := by decide +kernel
theorem dX4_deedClause_30 : decode cX4_deedClause 30 = .ok (.istore_n 3, 1) := by decide +kernel
theorem dX4_deedClause_31 : decode cX4_deedClause 31 = .ok (.iconst 0, 1) := by decide +kernel
theorem dX4_deedClause_32 : decode cX4_deedClause 32 = .ok (.istore 4, 2) := by decide +kernel
theorem dX4_deedClause_34 : decode cX4_deedClause 34 = .ok (.iload_n 1, 1) := by decide +kernel
theorem dX4_deedClause_35 : decode cX4_deedClause 35 = .ok (.iconst 2, 1) := by decide +kernel
theorem dX4_deedClause_36 : decode cX4_deedClause 36 = .ok (.if_icmp .ne 19, 3) := by decide +kernel
theorem dX4_deedClause_39 : decode cX4_deedClause 39 = .ok (.aload_n 0, 1) := by decide +kernel
theorem dX4_deedClause_40 : decode cX4_deedClause 40 = .ok (.bipush 7, 2) := by decide +kernel
theorem dX4_deedClause_42 : decode cX4_deedClause 42 = .ok (.invokevirtual 133, 3) := by decide +kernel
theorem dX4_deedClause_45 : decode cX4_deedClause 45 = .ok (.aload_n 0, 1) := by decide +kernel
theorem dX4_deedClause_46 : decode cX4_deedClause 46 = .ok (.iconst 0, 1) := by decide +kernel
theorem dX4_deedClause_47 : decode cX4_deedClause 47 = .ok (.iconst 3, 1) := by decide +kernel
theorem dX4_deedClause_48 : decode cX4_deedClause 48 = .ok (.invokevirtual 118, 3) := by decide +kernel
theorem dX4_deedClause_51 : decode cX4_deedClause 51 = .ok (.istore_n 3, 1) := by decide +kernel
theorem dX4_deedClause_52 : decode cX4_deedClause 52 = .ok (.goto 48, 3) := by decide +kernel
theorem dX4_deedClause_55 : decode cX4_deedClause 55 = .ok (.iload_n 1, 1) := by decide +kernel
theorem dX4_deedClause_56 : decode cX4_deedClause 56 = .ok (.iconst 3, 1) := by decide +kernel
theorem dX4_deedClause_57 : decode cX4_deedClause 57 = .ok (.if_icmp .eq 8, 3) := by decide +kernel
theorem dX4_deedClause_60 : decode cX4_deedClause 60 = .ok (.iload_n 1, 1) := by decide +kernel
theorem dX4_deedClause_61 : decode cX4_deedClause 61 = .ok (.iconst 4, 1) := by decide +kernel
theorem dX4_deedClause_62 : decode cX4_deedClause 62 = .ok (.if_icmp .ne 38, 3) := by decide +kernel
theorem dX4_deedClause_65 : decode cX4_deedClause 65 = .ok (.aload_n 0, 1) := by decide +kernel
theorem dX4_deedClause_66 : decode cX4_deedClause 66 = .ok (.iload_n 1, 1) := by decide +kernel
theorem dX4_deedClause_67 : decode cX4_deedClause 67 = .ok (.iconst 3, 1) := by decide +kernel
theorem dX4_deedClause_68 : decode cX4_deedClause 68 = .ok (.if_icmp .ne 8, 3) := by decide +kernel
theorem dX4_deedClause_71 : decode cX4_deedClause 71 = .ok (.bipush 8, 2) := by decide +kernel
theorem dX4_deedClause_73 : decode cX4_deedClause 73 = .ok (.goto 5, 3) := by decide +kernel
theorem dX4_deedClause_76 : decode cX4_deedClause 76 = .ok (.bipush 9, 2) := by decide +kernel
theorem dX4_deedClause_78 : decode cX4_deedClause 78 = .ok (.invokevirtual 133, 3) := by decide +kernel
theorem dX4_deedClause_81 : decode cX4_deedClause 81 = .ok (.aload_n 0, 1) := by decide +kernel
theorem dX4_deedClause_82 : decode cX4_deedClause 82 = .ok (.invokevirtual 152, 3) := by decide +kernel
theorem dX4_deedClause_85 : decode cX4_deedClause 85 = .ok (.istore_n 3, 1) := by decide +kernel
theorem dX4_deedClause_86 : decode cX4_deedClause 86 = .ok (.aload_n 0, 1) := by decide +kernel
theorem dX4_deedClause_87 : decode cX4_deedClause 87 = .ok (.bipush 7, 2) := by decide +kernel
theorem dX4_deedClause_89 : decode cX4_deedClause 89 = .ok (.invokevirtual 133, 3) := by decide +kernel
theorem dX4_deedClause_92 : decode cX4_deedClause 92 = .ok (.aload_n 0, 1) := by decide +kernel
theorem dX4_deedClause_93 : decode cX4_deedClause 93 = .ok (.iconst 0, 1) := by decide +kernel
theorem dX4_deedClause_94 : decode cX4_deedClause 94 = .ok (.iconst 2, 1) := by decide +kernel
theorem dX4_deedClause_95 : decode cX4_deedClause 95 = .ok (.invokevirtual 118, 3) := by decide +kernel
theorem dX4_deedClause_98 : decode cX4_deedClause 98 = .ok (.istore 4, 2) := by decide +kernel
theorem dX4_deedClause_100 : decode cX4_deedClause 100 = .ok (.aload_n 0, 1) := by decide +kernel
theorem dX4_deedClause_101 : decode cX4_deedClause 101 = .ok (.getfield 27, 3) := by decide +kernel
theorem dX4_deedClause_104 : decode cX4_deedClause 104 = .ok (.iload_n 1, 1) := by decide +kernel
theorem dX4_deedClause_105 : decode cX4_deedClause 105 = .ok (.iload_n 2, 1) := by decide +kernel
theorem dX4_deedClause_106 : decode cX4_deedClause 106 = .ok (.iload_n 3, 1) := by decide +kernel
theorem dX4_deedClause_107 : decode cX4_deedClause 107 = .ok (.iload 4, 2) := by decide +kernel
theorem dX4_deedClause_109 : decode cX4_deedClause 109 = .ok (.invokevirtual 148, 3) := by decide +kernel
theorem dX4_deedClause_112 : decode cX4_deedClause 112 = .ok (.return_, 1) := by decide +kernel
def f_X4_deedClause (M : xm) (a1 : Int32) : Option (xm) := (if a1 = (6 : Int32) then xb2 (f_X4_wantNumber M (1 : Int32) (60 : Int32)) (fun v42 M43 => xb1 (f_X7_addClause (990 + 5) M43 a1 v42 (0 : Int32) (0 : Int32)) (fun M46 => some M46)) else xb2 (f_X4_wantRoot M) (fun v3 M4 => xlet (fun (w6 : Int32) (w7 : Int32) (M8 : xm) => xb1 (f_X7_addClause (990 + 5) M8 a1 v3 w6 w7) (fun M11 => some M11)) (fun k9 => (if a1 = (2 : Int32) then xb1 (f_X4_want M4 (7 : Int32)) (fun M35 => xb2 (f_X4_wantNumber M35 (0 : Int32) (3 : Int32)) (fun v38 M39 => (k9 v38 (0 : Int32) M39))) else xlet (xlet (fun (w15 : Int32) => xb1 (f_X4_want M4 w15) (fun M18 => xb2 (f_X4_wantRoot M18) (fun v21 M22 => xb1 (f_X4_want M22 (7 : Int32)) (fun M25 => xb2 (f_X4_wantNumber M25 (0 : Int32) (2 : Int32)) (fun v28 M29 => (k9 v21 v28 M29)))))) (fun k16 => (if a1 = (3 : Int32) then (k16 (8 : Int32)) else (k16 (9 : Int32))))) (fun k14 => (if a1 = (3 : Int32) then k14 else (if a1 = (4 : Int32) then k14 else (k9 (0 : Int32) (0 : Int32) M4))))))))
set_option maxHeartbeats 4000000 in
set_option maxRecDepth 20000 in
theorem c_X4_deedClause (l : Launch) (E : xE) (b : Nat) (M : xm) (a1 : Int32) {M' : xm} (hf : f_X4_deedClause M a1 = some M') :
    xMet l E b NX yX4_deedClause cX4_deedClause 5 none (xR 5) [.ref (b + 990), .int a1] (cX E b M) none True (cX E b M') := by
  refine xMet.ofW (own := RX4) (by decide) rfl (Nat.le_of_ble_eq_true rfl) ?_
  intro p e s m below meth c H locs ls C hm hl
  have hx := C.1.1
  have hb := C.1.2.1
  have hl : lv_has ls 5 [(0, .ref (b + 990)), (1, .int a1)] := hl
  unfold f_X4_deedClause at hf
  refine lv_iload_n hx hb dX4_deedClause_0 rfl (lv_at hl 1 rfl) ?_
  refine lv_bipush (v := (6 : Int32)) hx hb dX4_deedClause_1 (by decide) ?_
  refine lv_icmp_ne (tgt := 24) hx hb dX4_deedClause_3 (by decide) (fun hc1 => ?_) (fun hc1 => ?_)
  rotate_left
  · have hf := xif_t hc1 hf
    refine lv_aload_n hx hb dX4_deedClause_6 rfl (lv_at hl 0 rfl) ?_
    refine x_get C hm inX4 rfl 4 (by decide) tf_RX4_27 (cx_Reader (LX_reader 0 _ rfl)) rfl dX4_deedClause_7 ?_
    refine lv_iload_n hx hb dX4_deedClause_10 rfl (lv_at hl 1 rfl) ?_
    refine lv_aload_n hx hb dX4_deedClause_11 rfl (lv_at hl 0 rfl) ?_
    refine lv_iconst (v := (1 : Int32)) hx hb dX4_deedClause_12 (by decide) ?_
    refine lv_bipush (v := (60 : Int32)) hx hb dX4_deedClause_13 (by decide) ?_
    obtain ⟨v42, M43, hq41, hf⟩ := xb2_e hf
    refine x_callVi (As := [.int (1 : Int32), .int (60 : Int32)]) (rest := [.int a1, .ref (b + (990 + 5))]) C hm (c_X4_wantNumber l E b M (1 : Int32) (60 : Int32) hq41) rfl (cx_Reader (LX_reader 0 _ rfl)) tc_X4_wantNumber tm_RX4_118 ti_X4_wantNumber ts_X4_wantNumber tn_RX4 td_X4_wantNumber rfl rfl ⟨Nat.le_of_ble_eq_true rfl, Nat.le_of_ble_eq_true rfl⟩ rfl hl.1 rfl (Nat.le_of_ble_eq_true rfl) ⟨Nat.zero_le _, Nat.zero_le _⟩ dX4_deedClause_15 (fun H locs hP44 hm => ?_)
    refine lv_iconst (v := (0 : Int32)) hx hb dX4_deedClause_18 (by decide) ?_
    refine lv_iconst (v := (0 : Int32)) hx hb dX4_deedClause_19 (by decide) ?_
    obtain ⟨M46, hq45, hf⟩ := xb1_e hf
    refine x_callVv (As := [.int a1, .int v42, .int (0 : Int32), .int (0 : Int32)]) (rest := []) C hm (c_X7_addClause l E b (lat_draft LX_reader) M43 a1 v42 (0 : Int32) (0 : Int32) hq45) rfl (cx_Text ((lat_draft LX_reader) 0 _ rfl)) tc_X7_addClause tm_RX4_148 ti_X7_addClause ts_X7_addClause tn_RX7 td_X7_addClause rfl rfl ⟨Nat.le_of_ble_eq_true rfl, Nat.le_of_ble_eq_true rfl⟩ rfl hl.1 rfl (Nat.le_of_ble_eq_true rfl) ⟨Nat.zero_le _, Nat.zero_le _⟩ dX4_deedClause_20 (fun H locs hP47 hm => ?_)
    cases hf
    exact x_vret C hm trivial dX4_deedClause_23
  have hf := xif_f hc1 hf
  refine lv_aload_n hx hb dX4_deedClause_24 rfl (lv_at hl 0 rfl) ?_
  obtain ⟨v3, M4, hq2, hf⟩ := xb2_e hf
  refine x_callVi (As := []) (rest := []) C hm (c_X4_wantRoot l E b M hq2) rfl (cx_Reader (LX_reader 0 _ rfl)) tc_X4_wantRoot tm_RX4_152 ti_X4_wantRoot ts_X4_wantRoot tn_RX4 td_X4_wantRoot rfl rfl ⟨Nat.le_of_ble_eq_true rfl, Nat.le_of_ble_eq_true rfl⟩ rfl hl.1 rfl (Nat.le_of_ble_eq_true rfl) ⟨Nat.zero_le _, Nat.zero_le _⟩ dX4_deedClause_25 (fun H locs hP5 hm => ?_)
  refine lv_istore_n (lv' := [(2, .int v3), (0, .ref (b + 990)), (1, .int a1)]) hx hb dX4_deedClause_28 rfl hl (by decide) rfl (fun ls hl => ?_)
  refine lv_iconst (v := (0 : Int32)) hx hb dX4_deedClause_29 (by decide) ?_
  refine lv_istore_n (lv' := [(3, .int (0 : Int32)), (2, .int v3), (0, .ref (b + 990)), (1, .int a1)]) hx hb dX4_deedClause_30 rfl hl (by decide) rfl (fun ls hl => ?_)
  refine lv_iconst (v := (0 : Int32)) hx hb dX4_deedClause_31 (by decide) ?_
  refine lv_istore (lv' := [(4, .int (0 : Int32)), (3, .int (0 : Int32)), (2, .int v3), (0, .ref (b + 990)), (1, .int a1)]) hx hb dX4_deedClause_32 hl (by decide) rfl (fun ls hl => ?_)
  refine lv_iload_n hx hb dX4_deedClause_34 rfl (lv_at hl 4 rfl) ?_
  refine lv_iconst (v := (2 : Int32)) hx hb dX4_deedClause_35 (by decide) ?_
  obtain ⟨k9, ek9, hf⟩ := xlet_x hf
  have jk9 : ∀ (w6 : Int32) (w7 : Int32) (M8 : xm) (H : Heap) (locs : List Loc) (ls : Array Slot), k9 w6 w7 M8 = some M' → xM E b NX (cX E b M8) s.heap H locs → lv_has ls 5 [(0, .ref (b + 990)), (1, .int a1), (2, .int v3), (3, .int w6), (4, .int w7)] → W p l e (xR 5) s m ([.ref (b + 990), .int a1] : List Value).toArray below meth c H locs 0 0 (MQ below (xQ E b NX none True (cX E b M')) ([.ref (b + 990), .int a1] : List Value).toArray s 0 0 (xA b NX)) (F0 m 100 ls []) := by
    intro w6 w7 M8 H locs ls hf hm hl
    have hf := xap3 ek9 hf
    refine lv_aload_n hx hb dX4_deedClause_100 rfl (lv_at hl 0 rfl) ?_
    refine x_get C hm inX4 rfl 4 (by decide) tf_RX4_27 (cx_Reader (LX_reader 0 _ rfl)) rfl dX4_deedClause_101 ?_
    refine lv_iload_n hx hb dX4_deedClause_104 rfl (lv_at hl 1 rfl) ?_
    refine lv_iload_n hx hb dX4_deedClause_105 rfl (lv_at hl 2 rfl) ?_
    refine lv_iload_n hx hb dX4_deedClause_106 rfl (lv_at hl 3 rfl) ?_
    refine lv_iload hx hb dX4_deedClause_107 (lv_at hl 4 rfl) ?_
    obtain ⟨M11, hq10, hf⟩ := xb1_e hf
    refine x_callVv (As := [.int a1, .int v3, .int w6, .int w7]) (rest := []) C hm (c_X7_addClause l E b (lat_draft LX_reader) M8 a1 v3 w6 w7 hq10) rfl (cx_Text ((lat_draft LX_reader) 0 _ rfl)) tc_X7_addClause tm_RX4_148 ti_X7_addClause ts_X7_addClause tn_RX7 td_X7_addClause rfl rfl ⟨Nat.le_of_ble_eq_true rfl, Nat.le_of_ble_eq_true rfl⟩ rfl hl.1 rfl (Nat.le_of_ble_eq_true rfl) ⟨Nat.zero_le _, Nat.zero_le _⟩ dX4_deedClause_109 (fun H locs hP12 hm => ?_)
    cases hf
    exact x_vret C hm trivial dX4_deedClause_112
  refine lv_icmp_ne (tgt := 55) hx hb dX4_deedClause_36 (by decide) (fun hc13 => ?_) (fun hc13 => ?_)
  rotate_left
  · have hf := xif_t hc13 hf
    refine lv_aload_n hx hb dX4_deedClause_39 rfl (lv_at hl 3 rfl) ?_
    refine lv_bipush (v := (7 : Int32)) hx hb dX4_deedClause_40 (by decide) ?_
    obtain ⟨M35, hq34, hf⟩ := xb1_e hf
    refine x_callVv (As := [.int (7 : Int32)]) (rest := []) C hm (c_X4_want l E b M4 (7 : Int32) hq34) rfl (cx_Reader (LX_reader 0 _ rfl)) tc_X4_want tm_RX4_133 ti_X4_want ts_X4_want tn_RX4 td_X4_want rfl rfl ⟨Nat.le_of_ble_eq_true rfl, Nat.le_of_ble_eq_true rfl⟩ rfl hl.1 rfl (Nat.le_of_ble_eq_true rfl) ⟨Nat.zero_le _, Nat.zero_le _⟩ dX4_deedClause_42 (fun H locs hP36 hm => ?_)
    refine lv_aload_n hx hb dX4_deedClause_45 rfl (lv_at hl 3 rfl) ?_
    refine lv_iconst (v := (0 : Int32)) hx hb dX4_deedClause_46 (by decide) ?_
    refine lv_iconst (v := (3 : Int32)) hx hb dX4_deedClause_47 (by decide) ?_
    obtain ⟨v38, M39, hq37, hf⟩ := xb2_e hf
    refine x_callVi (As := [.int (0 : Int32), .int (3 : Int32)]) (rest := []) C hm (c_X4_wantNumber l E b M35 (0 : Int32) (3 : Int32) hq37) rfl (cx_Reader (LX_reader 0 _ rfl)) tc_X4_wantNumber tm_RX4_118 ti_X4_wantNumber ts_X4_wantNumber tn_RX4 td_X4_wantNumber rfl rfl ⟨Nat.le_of_ble_eq_true rfl, Nat.le_of_ble_eq_true rfl⟩ rfl hl.1 rfl (Nat.le_of_ble_eq_true rfl) ⟨Nat.zero_le _, Nat.zero_le _⟩ dX4_deedClause_48 (fun H locs hP40 hm => ?_)
    refine lv_istore_n (lv' := [(3, .int v38), (4, .int (0 : Int32)), (2, .int v3), (0, .ref (b + 990)), (1, .int a1)]) hx hb dX4_deedClause_51 rfl hl (by decide) rfl (fun ls hl => ?_)
    refine lv_goto (tgt := 100) hx hb dX4_deedClause_52 (by decide) ?_
    exact jk9 v38 (0 : Int32) M39 H locs ls  hf hm (lv_sub hl [3, 4, 2, 0, 1] rfl)
  have hf := xif_f hc13 hf
  refine lv_iload_n hx hb dX4_deedClause_55 rfl (lv_at hl 4 rfl) ?_
  refine lv_iconst (v := (3 : Int32)) hx hb dX4_deedClause_56 (by decide) ?_
  obtain ⟨k14, ek14, hf⟩ := xlet_x hf
  have jk14 : ∀  (H : Heap) (locs : List Loc) (ls : Array Slot), k14 = some M' → xM E b NX (cX E b M4) s.heap H locs → lv_has ls 5 [(0, .ref (b + 990)), (1, .int a1), (2, .int v3)] → W p l e (xR 5) s m ([.ref (b + 990), .int a1] : List Value).toArray below meth c H locs 0 0 (MQ below (xQ E b NX none True (cX E b M')) ([.ref (b + 990), .int a1] : List Value).toArray s 0 0 (xA b NX)) (F0 m 65 ls []) := by
    intro  H locs ls hf hm hl
    have hf := xap0 ek14 hf
    refine lv_aload_n hx hb dX4_deedClause_65 rfl (lv_at hl 0 rfl) ?_
    refine lv_iload_n hx hb dX4_deedClause_66 rfl (lv_at hl 1 rfl) ?_
    refine lv_iconst (v := (3 : Int32)) hx hb dX4_deedClause_67 (by decide) ?_
    obtain ⟨k16, ek16, hf⟩ := xlet_x hf
    have jk16 : ∀ (w15 : Int32) (H : Heap) (locs : List Loc) (ls : Array Slot), k16 w15 = some M' → xM E b NX (cX E b M4) s.heap H locs → lv_has ls 5 [(0, .ref (b + 990)), (1, .int a1), (2, .int v3)] → W p l e (xR 5) s m ([.ref (b + 990), .int a1] : List Value).toArray below meth c H locs 0 0 (MQ below (xQ E b NX none True (cX E b M')) ([.ref (b + 990), .int a1] : List Value).toArray s 0 0 (xA b NX)) (F0 m 78 ls [.int w15, .ref (b + 990)]) := by
      intro w15 H locs ls hf hm hl
      have hf := xap1 ek16 hf
      obtain ⟨M18, hq17, hf⟩ := xb1_e hf
      refine x_callVv (As := [.int w15]) (rest := []) C hm (c_X4_want l E b M4 w15 hq17) rfl (cx_Reader (LX_reader 0 _ rfl)) tc_X4_want tm_RX4_133 ti_X4_want ts_X4_want tn_RX4 td_X4_want rfl rfl ⟨Nat.le_of_ble_eq_true rfl, Nat.le_of_ble_eq_true rfl⟩ rfl hl.1 rfl (Nat.le_of_ble_eq_true rfl) ⟨Nat.zero_le _, Nat.zero_le _⟩ dX4_deedClause_78 (fun H locs hP19 hm => ?_)
      refine lv_aload_n hx hb dX4_deedClause_81 rfl (lv_at hl 0 rfl) ?_
      obtain ⟨v21, M22, hq20, hf⟩ := xb2_e hf
      refine x_callVi (As := []) (rest := []) C hm (c_X4_wantRoot l E b M18 hq20) rfl (cx_Reader (LX_reader 0 _ rfl)) tc_X4_wantRoot tm_RX4_152 ti_X4_wantRoot ts_X4_wantRoot tn_RX4 td_X4_wantRoot rfl rfl ⟨Nat.le_of_ble_eq_true rfl, Nat.le_of_ble_eq_true rfl⟩ rfl hl.1 rfl (Nat.le_of_ble_eq_true rfl) ⟨Nat.zero_le _, Nat.zero_le _⟩ dX4_deedClause_82 (fun H locs hP23 hm => ?_)
      refine lv_istore_n (lv' := [(3, .int v21), (0, .ref (b + 990)), (1, .int a1), (2, .int v3)]) hx hb dX4_deedClause_85 rfl hl (by decide) rfl (fun ls hl => ?_)
      refine lv_aload_n hx hb dX4_deedClause_86 rfl (lv_at hl 1 rfl) ?_
      refine lv_bipush (v := (7 : Int32)) hx hb dX4_deedClause_87 (by decide) ?_
      obtain ⟨M25, hq24, hf⟩ := xb1_e hf
      refine x_callVv (As := [.int (7 : Int32)]) (rest := []) C hm (c_X4_want l E b M22 (7 : Int32) hq24) rfl (cx_Reader (LX_reader 0 _ rfl)) tc_X4_want tm_RX4_133 ti_X4_want ts_X4_want tn_RX4 td_X4_want rfl rfl ⟨Nat.le_of_ble_eq_true rfl, Nat.le_of_ble_eq_true rfl⟩ rfl hl.1 rfl (Nat.le_of_ble_eq_true rfl) ⟨Nat.zero_le _, Nat.zero_le _⟩ dX4_deedClause_89 (fun H locs hP26 hm => ?_)
      refine lv_aload_n hx hb dX4_deedClause_92 rfl (lv_at hl 1 rfl) ?_
      refine lv_iconst (v := (0 : Int32)) hx hb dX4_deedClause_93 (by decide) ?_
      refine lv_iconst (v := (2 : Int32)) hx hb dX4_deedClause_94 (by decide) ?_
      obtain ⟨v28, M29, hq27, hf⟩ := xb2_e hf
      refine x_callVi (As := [.int (0 : Int32), .int (2 : Int32)]) (rest := []) C hm (c_X4_wantNumber l E b M25 (0 : Int32) (2 : Int32) hq27) rfl (cx_Reader (LX_reader 0 _ rfl)) tc_X4_wantNumber tm_RX4_118 ti_X4_wantNumber ts_X4_wantNumber tn_RX4 td_X4_wantNumber rfl rfl ⟨Nat.le_of_ble_eq_true rfl, Nat.le_of_ble_eq_true rfl⟩ rfl hl.1 rfl (Nat.le_of_ble_eq_true rfl) ⟨Nat.zero_le _, Nat.zero_le _⟩ dX4_deedClause_95 (fun H locs hP30 hm => ?_)
      refine lv_istore (lv' := [(4, .int v28), (3, .int v21), (0, .ref (b + 990)), (1, .int a1), (2, .int v3)]) hx hb dX4_deedClause_98 hl (by decide) rfl (fun ls hl => ?_)
      exact jk9 v21 v28 M29 H locs ls  hf hm (lv_sub hl [2, 3, 4, 1, 0] rfl)
    refine lv_icmp_ne (tgt := 76) hx hb dX4_deedClause_68 (by decide) (fun hc31 => ?_) (fun hc31 => ?_)
    · have hf := xif_f hc31 hf
      refine lv_bipush (v := (9 : Int32)) hx hb dX4_deedClause_76 (by decide) ?_
      exact jk16 (9 : Int32) H locs ls  hf hm (lv_sub hl [0, 1, 2] rfl)
    have hf := xif_t hc31 hf
    refine lv_bipush (v := (8 : Int32)) hx hb dX4_deedClause_71 (by decide) ?_
    refine lv_goto (tgt := 78) hx hb dX4_deedClause_73 (by decide) ?_
    exact jk16 (8 : Int32) H locs ls  hf hm (lv_sub hl [0, 1, 2] rfl)
  refine lv_icmp_eq (tgt := 65) hx hb dX4_deedClause_57 (by decide) (fun hc32 => ?_) (fun hc32 => ?_)
  · have hf := xif_t hc32 hf
    exact jk14  H locs ls  hf hm (lv_sub hl [3, 4, 2] rfl)
  have hf := xif_f hc32 hf
  refine lv_iload_n hx hb dX4_deedClause_60 rfl (lv_at hl 4 rfl) ?_
  refine lv_iconst (v := (4 : Int32)) hx hb dX4_deedClause_61 (by decide) ?_
  refine lv_icmp_ne (tgt := 100) hx hb dX4_deedClause_62 (by decide) (fun hc33 => ?_) (fun hc33 => ?_)
  · have hf := xif_f hc33 hf
    exact jk9 (0 : Int32) (0 : Int32) M4 H locs ls  hf hm (lv_sub hl [3, 4, 2, 1, 0] rfl)
  have hf := xif_t hc33 hf
  exact jk14  H locs ls  hf hm (lv_sub hl [3, 4, 2] rfl)
