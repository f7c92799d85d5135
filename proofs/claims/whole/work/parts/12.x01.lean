/-! java/lang/String.isLatin1()Z -/
theorem dJ0_isLatin1_aae02_0 : decode cJ0_isLatin1_aae02 0 = .ok (.getstatic 38, 3) := by decide +kernel
theorem dJ0_isLatin1_aae02_3 : decode cJ0_isLatin1_aae02 3 = .ok (.ifCond .eq 14, 3) := by decide +kernel
theorem dJ0_isLatin1_aae02_6 : decode cJ0_isLatin1_aae02 6 = .ok (.aload_n 0, 1) := by decide +kernel
theorem dJ0_isLatin1_aae02_7 : decode cJ0_isLatin1_aae02 7 = .ok (.getfield 15, 3) := by decide +kernel
theorem dJ0_isLatin1_aae02_10 : decode cJ0_isLatin1_aae02 10 = .ok (.ifCond .ne 7, 3) := by decide +kernel
theorem dJ0_isLatin1_aae02_13 : decode cJ0_isLatin1_aae02 13 = .ok (.iconst 1, 1) := by decide +kernel
theorem dJ0_isLatin1_aae02_14 : decode cJ0_isLatin1_aae02 14 = .ok (.goto 4, 3) := by decide +kernel
theorem dJ0_isLatin1_aae02_17 : decode cJ0_isLatin1_aae02 17 = .ok (.iconst 0, 1) := by decide +kernel
theorem dJ0_isLatin1_aae02_18 : decode cJ0_isLatin1_aae02 18 = .ok (.ireturn, 1) := by decide +kernel
def f_J0_isLatin1_aae02 (u0 : Nat) : Int32 := (1 : Int32)
set_option maxHeartbeats 4000000 in
set_option maxRecDepth 20000 in
theorem c_J0_isLatin1_aae02 (l : Launch) (E : xE) (b : Nat) {u0 : Nat} (L_u0 : u0 < 2) (M : xm) {r : Int32} (hf : f_J0_isLatin1_aae02 u0 = r) :
    xMet l E b NX yJ0_isLatin1_aae02 cJ0_isLatin1_aae02 1 (some .boolean) (xR 1) [.ref (E.2 (10 + u0))] (cX E b M) (some (.int r)) (xbo r = true) (cX E b M) := by
  refine xMet.ofW (own := RJ0) (by decide) rfl (Nat.le_of_ble_eq_true rfl) ?_
  intro p e s m below meth c H locs ls C hm hl
  have hx := C.1.1
  have hb := C.1.2.1
  have hl : lv_has ls 1 [(0, .ref (E.2 (10 + u0)))] := hl
  unfold f_J0_isLatin1_aae02 at hf
  refine xs_comp C hm tf_RJ0_38 dJ0_isLatin1_aae02_0 ?_
  refine lv_if_eq (tgt := 17) hx hb dJ0_isLatin1_aae02_3 (by decide) (fun hc => absurd hc (by decide)) (fun hc => ?_)
  refine lv_aload_n hx hb dJ0_isLatin1_aae02_6 rfl (lv_at hl 0 rfl) ?_
  refine xs_cod C hm L_u0 tf_RJ0_15 dJ0_isLatin1_aae02_7 ?_
  refine lv_if_ne (tgt := 17) hx hb dJ0_isLatin1_aae02_10 (by decide) (fun hc => absurd hc (by decide)) (fun hc => ?_)
  refine lv_iconst (v := (1 : Int32)) hx hb dJ0_isLatin1_aae02_13 (by decide) ?_
  refine lv_goto (tgt := 18) hx hb dJ0_isLatin1_aae02_14 (by decide) ?_
  cases hf
  exact x_zret C hm (by decide) (by decide) dJ0_isLatin1_aae02_18
/-! jdk/internal/util/Preconditions.checkIndex(IILjava/util/function/BiFunction;)I -/
theorem dJ3_checkIndex_8e157_0 : decode cJ3_checkIndex_8e157 0 = .ok (.iload_n 0, 1) := by decide +kernel
theorem dJ3_checkIndex_8e157_1 : decode cJ3_checkIndex_8e157 1 = .ok (.ifCond .lt 8, 3) := by decide +kernel
theorem dJ3_checkIndex_8e157_4 : decode cJ3_checkIndex_8e157 4 = .ok (.iload_n 0, 1) := by decide +kernel
theorem dJ3_checkIndex_8e157_5 : decode cJ3_checkIndex_8e157 5 = .ok (.iload_n 1, 1) := by decide +kernel
theorem dJ3_checkIndex_8e157_6 : decode cJ3_checkIndex_8e157 6 = .ok (.if_icmp .lt 10, 3) := by decide +kernel
theorem dJ3_checkIndex_8e157_9 : decode cJ3_checkIndex_8e157 9 = .ok (.aload_n 2, 1) := by decide +kernel
theorem dJ3_checkIndex_8e157_10 : decode cJ3_checkIndex_8e157 10 = .ok (.iload_n 0, 1) := by decide +kernel
theorem dJ3_checkIndex_8e157_11 : decode cJ3_checkIndex_8e157 11 = .ok (.iload_n 1, 1) := by decide +kernel
theorem dJ3_checkIndex_8e157_12 : decode cJ3_checkIndex_8e157 12 = .ok (.invokestatic 95, 3) := by decide +kernel
theorem dJ3_checkIndex_8e157_15 : decode cJ3_checkIndex_8e157 15 = .ok (.athrow, 1) := by decide +kernel
theorem dJ3_checkIndex_8e157_16 : decode cJ3_checkIndex_8e157 16 = .ok (.iload_n 0, 1) := by decide +kernel
theorem dJ3_checkIndex_8e157_17 : decode cJ3_checkIndex_8e157 17 = .ok (.ireturn, 1) := by decide +kernel
def f_J3_checkIndex_8e157  (a0 : Int32) (a1 : Int32) : Option (Int32) := (if a0 < 0 then none else (if a0 < a1 then some a0 else none))
set_option maxHeartbeats 4000000 in
set_option maxRecDepth 20000 in
theorem c_J3_checkIndex_8e157 (l : Launch) (E : xE) (b : Nat) {u2 : Value} (L_u2 : u2 = .null ∨ ∃ t, u2 = .ref t) (M : xm) (a0 : Int32) (a1 : Int32) {r : Int32} (hf : f_J3_checkIndex_8e157  a0 a1 = some r) :
    xMet l E b NX yJ3_checkIndex_8e157 cJ3_checkIndex_8e157 3 (some .int) (xR 1) [.int a0, .int a1, u2] (cX E b M) (some (.int r)) True (cX E b M) := by
  refine xMet.ofW (own := RJ3) (by decide) rfl (by rcases L_u2 with rfl | ⟨t, rfl⟩ <;> exact Nat.le_of_ble_eq_true rfl) ?_
  intro p e s m below meth c H locs ls C hm hl
  have hx := C.1.1
  have hb := C.1.2.1
  have hl : lv_has ls 3 [(0, .int a0), (1, .int a1), (2, u2)] := (by rcases L_u2 with rfl | ⟨t, rfl⟩ <;> exact hl)
  unfold f_J3_checkIndex_8e157 at hf
  refine lv_iload_n hx hb dJ3_checkIndex_8e157_0 rfl (lv_at hl 0 rfl) ?_
  refine lv_if_lt (tgt := 9) hx hb dJ3_checkIndex_8e157_1 (by decide) (fun hc1 => ?_) (fun hc1 => ?_)
  · have hf := xif_t hc1 hf
    cases hf
  have hf := xif_f hc1 hf
  refine lv_iload_n hx hb dJ3_checkIndex_8e157_4 rfl (lv_at hl 0 rfl) ?_
  refine lv_iload_n hx hb dJ3_checkIndex_8e157_5 rfl (lv_at hl 1 rfl) ?_
  refine lv_icmp_lt (tgt := 16) hx hb dJ3_checkIndex_8e157_6 (by decide) (fun hc2 => ?_) (fun hc2 => ?_)
  rotate_left
  · have hf := xif_f hc2 hf
    cases hf
  have hf := xif_t hc2 hf
  refine lv_iload_n hx hb dJ3_checkIndex_8e157_16 rfl (lv_at hl 0 rfl) ?_
  cases hf
  exact x_iret C hm trivial dJ3_checkIndex_8e157_17
/-! java/lang/String.checkIndex(II)V -/
theorem dJ0_checkIndex_df160_0 : decode cJ0_checkIndex_df160 0 = .ok (.iload_n 0, 1) := by decide +kernel
theorem dJ0_checkIndex_df160_1 : decode cJ0_checkIndex_df160 1 = .ok (.iload_n 1, 1) := by decide +kernel
theorem dJ0_checkIndex_df160_2 : decode cJ0_checkIndex_df160 2 = .ok (.getstatic 1053, 3) := by decide +kernel
theorem dJ0_checkIndex_df160_5 : decode cJ0_checkIndex_df160 5 = .ok (.invokestatic 1059, 3) := by decide +kernel
theorem dJ0_checkIndex_df160_8 : decode cJ0_checkIndex_df160 8 = .ok (.pop, 1) := by decide +kernel
theorem dJ0_checkIndex_df160_9 : decode cJ0_checkIndex_df160 9 = .ok (.return_, 1) := by decide +kernel
def f_J0_checkIndex_df160 (a0 : Int32) (a1 : Int32) : Option (Unit) := xb1 (f_J3_checkIndex_8e157 a0 a1) (fun v3 => some ())
set_option maxHeartbeats 4000000 in
set_option maxRecDepth 20000 in
theorem c_J0_checkIndex_df160 (l : Launch) (E : xE) (b : Nat) (M : xm) (a0 : Int32) (a1 : Int32) (hf : f_J0_checkIndex_df160 a0 a1 = some ()) :
    xMet l E b NX yJ0_checkIndex_df160 cJ0_checkIndex_df160 2 none (xR 2) [.int a0, .int a1] (cX E b M) none True (cX E b M) := by
  refine xMet.ofW (own := RJ0) (by decide) rfl (Nat.le_of_ble_eq_true rfl) ?_
  intro p e s m below meth c H locs ls C hm hl
  have hx := C.1.1
  have hb := C.1.2.1
  have hl : lv_has ls 2 [(0, .int a0), (1, .int a1)] := hl
  unfold f_J0_checkIndex_df160 at hf
  refine lv_iload_n hx hb dJ0_checkIndex_df160_0 rfl (lv_at hl 0 rfl) ?_
  refine lv_iload_n hx hb dJ0_checkIndex_df160_1 rfl (lv_at hl 1 rfl) ?_
  obtain ⟨z1, L_z1, hZ⟩ := xs_sio C
  refine va_gets hx hb hZ (xS_wide hm) C.1.2.2.2.1 (C.1.2.2.2.2 _ tf_RJ0_1053) (fun _ h => h) dJ0_checkIndex_df160_2 ?_
  obtain ⟨v3, hq2, hf⟩ := xb1_e hf
  refine x_callSi (As := [.int a0, .int a1, z1]) (rest := []) C hm (c_J3_checkIndex_8e157 l E b L_z1 M a0 a1 hq2) tc_J3_checkIndex_8e157 tm_RJ0_1059 tz_J3_checkIndex_8e157 tn_RJ3 td_J3_checkIndex_8e157 rfl rfl ⟨Nat.le_of_ble_eq_true rfl, Nat.le_of_ble_eq_true rfl⟩ rfl hl.1 rfl (Nat.le_of_ble_eq_true rfl) ⟨Nat.zero_le _, Nat.zero_le _⟩ dJ0_checkIndex_df160_5 (fun H locs hP4 hm => ?_)
  refine lv_pop hx hb dJ0_checkIndex_df160_8 rfl ?_
  cases hf
  exact x_vret C hm trivial dJ0_checkIndex_df160_9
/-! java/lang/StringLatin1.charAt([BI)C -/
theorem dJ1_charAt_3b067_0 : decode cJ1_charAt_3b067 0 = .ok (.iload_n 1, 1) := by decide +kernel
theorem dJ1_charAt_3b067_1 : decode cJ1_charAt_3b067 1 = .ok (.aload_n 0, 1) := by decide +kernel
theorem dJ1_charAt_3b067_2 : decode cJ1_charAt_3b067 2 = .ok (.arraylength, 1) := by decide +kernel
theorem dJ1_charAt_3b067_3 : decode cJ1_charAt_3b067 3 = .ok (.invokestatic 9, 3) := by decide +kernel
theorem dJ1_charAt_3b067_6 : decode cJ1_charAt_3b067 6 = .ok (.aload_n 0, 1) := by decide +kernel
theorem dJ1_charAt_3b067_7 : decode cJ1_charAt_3b067 7 = .ok (.iload_n 1, 1) := by decide +kernel
theorem dJ1_charAt_3b067_8 : decode cJ1_charAt_3b067 8 = .ok (.baload, 1) := by decide +kernel
theorem dJ1_charAt_3b067_9 : decode cJ1_charAt_3b067 9 = .ok (.sipush 255, 3) := by decide +kernel
theorem dJ1_charAt_3b067_12 : decode cJ1_charAt_3b067 12 = .ok (.iand, 1) := by decide +kernel
theorem dJ1_charAt_3b067_13 : decode cJ1_charAt_3b067 13 = .ok (.i2c, 1) := by decide +kernel
theorem dJ1_charAt_3b067_14 : decode cJ1_charAt_3b067 14 = .ok (.ireturn, 1) := by decide +kernel
def f_J1_charAt_3b067 (u0 : Nat) (a1 : Int32) : Option (Int32) := xb1 (f_J0_checkIndex_df160 a1 (Int32.ofNat (sLen u0))) (fun _ => if xin a1 (sLen u0) = true then some ((((sByte u0 (Int32.toNatClampNeg a1)) &&& (255 : Int32)).toUInt32 % 65536).toInt32) else none)
set_option maxHeartbeats 4000000 in
set_option maxRecDepth 20000 in
theorem c_J1_charAt_3b067 (l : Launch) (E : xE) (b : Nat) {u0 : Nat} (L_u0 : u0 < 2) (M : xm) (a1 : Int32) {r : Int32} (hf : f_J1_charAt_3b067 u0 a1 = some r) :
    xMet l E b NX yJ1_charAt_3b067 cJ1_charAt_3b067 2 (some .char) (xR 3) [.ref (E.2 (20 + u0)), .int a1] (cX E b M) (some (.int r)) (narrow .char (.int r) = .int r) (cX E b M) := by
  refine xMet.ofW (own := RJ1) (by decide) rfl (Nat.le_of_ble_eq_true rfl) ?_
  intro p e s m below meth c H locs ls C hm hl
  have hx := C.1.1
  have hb := C.1.2.1
  have hl : lv_has ls 2 [(0, .ref (E.2 (20 + u0))), (1, .int a1)] := hl
  unfold f_J1_charAt_3b067 at hf
  refine lv_iload_n hx hb dJ1_charAt_3b067_0 rfl (lv_at hl 1 rfl) ?_
  refine lv_aload_n hx hb dJ1_charAt_3b067_1 rfl (lv_at hl 0 rfl) ?_
  refine xs_len (v := (Int32.ofNat (sLen u0))) C hm L_u0 rfl dJ1_charAt_3b067_2 ?_
  obtain ⟨_, hq1, hf⟩ := xb1_e hf
  refine x_callSv (As := [.int a1, .int (Int32.ofNat (sLen u0))]) (rest := []) C hm (c_J0_checkIndex_df160 l E b M a1 (Int32.ofNat (sLen u0)) hq1) tc_J0_checkIndex_df160 tm_RJ1_9 tz_J0_checkIndex_df160 tn_RJ0 td_J0_checkIndex_df160 rfl rfl ⟨Nat.le_of_ble_eq_true rfl, Nat.le_of_ble_eq_true rfl⟩ rfl hl.1 rfl (Nat.le_of_ble_eq_true rfl) ⟨Nat.zero_le _, Nat.zero_le _⟩ dJ1_charAt_3b067_3 (fun H locs hP2 hm => ?_)
  refine lv_aload_n hx hb dJ1_charAt_3b067_6 rfl (lv_at hl 0 rfl) ?_
  refine lv_iload_n hx hb dJ1_charAt_3b067_7 rfl (lv_at hl 1 rfl) ?_
  obtain ⟨hi3, hf⟩ := xif_s hf
  refine xs_byte C hm L_u0 hi3 dJ1_charAt_3b067_8 ?_
  refine lv_sipush (v := (255 : Int32)) hx hb dJ1_charAt_3b067_9 (by decide) ?_
  refine lv_iand hx hb dJ1_charAt_3b067_12 ?_
  refine lv_i2c hx hb dJ1_charAt_3b067_13 rfl ?_
  cases hf
  exact x_nret C hm (pk_nc _) (pk_nc _) dJ1_charAt_3b067_14
/-! java/lang/String.charAt(I)C -/
theorem dJ0_charAt_5068e_0 : decode cJ0_charAt_5068e 0 = .ok (.aload_n 0, 1) := by decide +kernel
theorem dJ0_charAt_5068e_1 : decode cJ0_charAt_5068e 1 = .ok (.invokevirtual 492, 3) := by decide +kernel
theorem dJ0_charAt_5068e_4 : decode cJ0_charAt_5068e 4 = .ok (.ifCond .eq 12, 3) := by decide +kernel
theorem dJ0_charAt_5068e_7 : decode cJ0_charAt_5068e 7 = .ok (.aload_n 0, 1) := by decide +kernel
theorem dJ0_charAt_5068e_8 : decode cJ0_charAt_5068e 8 = .ok (.getfield 9, 3) := by decide +kernel
theorem dJ0_charAt_5068e_11 : decode cJ0_charAt_5068e 11 = .ok (.iload_n 1, 1) := by decide +kernel
theorem dJ0_charAt_5068e_12 : decode cJ0_charAt_5068e 12 = .ok (.invokestatic 495, 3) := by decide +kernel
theorem dJ0_charAt_5068e_15 : decode cJ0_charAt_5068e 15 = .ok (.ireturn, 1) := by decide +kernel
theorem dJ0_charAt_5068e_16 : decode cJ0_charAt_5068e 16 = .ok (.aload_n 0, 1) := by decide +kernel
theorem dJ0_charAt_5068e_17 : decode cJ0_charAt_5068e 17 = .ok (.getfield 9, 3) := by decide +kernel
theorem dJ0_charAt_5068e_20 : decode cJ0_charAt_5068e 20 = .ok (.iload_n 1, 1) := by decide +kernel
theorem dJ0_charAt_5068e_21 : decode cJ0_charAt_5068e 21 = .ok (.invokestatic 498, 3) := by decide +kernel
theorem dJ0_charAt_5068e_24 : decode cJ0_charAt_5068e 24 = .ok (.ireturn, 1) := by decide +kernel
def f_J0_charAt_5068e (u0 : Nat) (a1 : Int32) : Option (Int32) := xb1 (f_J1_charAt_3b067 u0 a1) (fun v3 => some v3)
set_option maxHeartbeats 4000000 in
set_option maxRecDepth 20000 in
theorem c_J0_charAt_5068e (l : Launch) (E : xE) (b : Nat) {u0 : Nat} (L_u0 : u0 < 2) (M : xm) (a1 : Int32) {r : Int32} (hf : f_J0_charAt_5068e u0 a1 = some r) :
    xMet l E b NX yJ0_charAt_5068e cJ0_charAt_5068e 2 (some .char) (xR 4) [.ref (E.2 (10 + u0)), .int a1] (cX E b M) (some (.int r)) (narrow .char (.int r) = .int r) (cX E b M) := by
  refine xMet.ofW (own := RJ0) (by decide) rfl (Nat.le_of_ble_eq_true rfl) ?_
  intro p e s m below meth c H locs ls C hm hl
  have hx := C.1.1
  have hb := C.1.2.1
  have hl : lv_has ls 2 [(0, .ref (E.2 (10 + u0))), (1, .int a1)] := hl
  unfold f_J0_charAt_5068e at hf
  refine lv_aload_n hx hb dJ0_charAt_5068e_0 rfl (lv_at hl 0 rfl) ?_
  refine x_callVAi (As := []) (rest := []) C hm (c_J0_isLatin1_aae02 l E b L_u0 M (show f_J0_isLatin1_aae02 u0 = (1 : Int32) from rfl)) (xs_recv C hm L_u0) tc_J0_isLatin1_aae02 tm_RJ0_492 ti_J0_isLatin1_aae02 ts_J0_isLatin1_aae02 tn_RJ0 td_J0_isLatin1_aae02 rfl rfl ⟨Nat.le_of_ble_eq_true rfl, Nat.le_of_ble_eq_true rfl⟩ rfl hl.1 rfl (Nat.le_of_ble_eq_true rfl) ⟨Nat.zero_le _, Nat.zero_le _⟩ dJ0_charAt_5068e_1 (fun H locs hP1 hm => ?_)
  refine lv_if_eq (tgt := 16) hx hb dJ0_charAt_5068e_4 (by decide) (fun hc => absurd hc (by decide)) (fun hc => ?_)
  refine lv_aload_n hx hb dJ0_charAt_5068e_7 rfl (lv_at hl 0 rfl) ?_
  refine xs_val C hm L_u0 tf_RJ0_9 dJ0_charAt_5068e_8 ?_
  refine lv_iload_n hx hb dJ0_charAt_5068e_11 rfl (lv_at hl 1 rfl) ?_
  obtain ⟨v3, hq2, hf⟩ := xb1_e hf
  refine x_callSi (As := [.ref (E.2 (20 + u0)), .int a1]) (rest := []) C hm (c_J1_charAt_3b067 l E b L_u0 M a1 hq2) tc_J1_charAt_3b067 tm_RJ0_495 tz_J1_charAt_3b067 tn_RJ1 td_J1_charAt_3b067 rfl rfl ⟨Nat.le_of_ble_eq_true rfl, Nat.le_of_ble_eq_true rfl⟩ rfl hl.1 rfl (Nat.le_of_ble_eq_true rfl) ⟨Nat.zero_le _, Nat.zero_le _⟩ dJ0_charAt_5068e_12 (fun H locs hP4 hm => ?_)
  cases hf
  exact x_nret C hm hP4 hP4 dJ0_charAt_5068e_15
/-! java/lang/String.coder()B -/
theorem dJ0_coder_7d493_0 : decode cJ0_coder_7d493 0 = .ok (.getstatic 38, 3) := by decide +kernel
theorem dJ0_coder_7d493_3 : decode cJ0_coder_7d493 3 = .ok (.ifCond .eq 10, 3) := by decide +kernel
theorem dJ0_coder_7d493_6 : decode cJ0_coder_7d493 6 = .ok (.aload_n 0, 1) := by decide +kernel
theorem dJ0_coder_7d493_7 : decode cJ0_coder_7d493 7 = .ok (.getfield 15, 3) := by decide +kernel
theorem dJ0_coder_7d493_10 : decode cJ0_coder_7d493 10 = .ok (.goto 4, 3) := by decide +kernel
theorem dJ0_coder_7d493_13 : decode cJ0_coder_7d493 13 = .ok (.iconst 1, 1) := by decide +kernel
theorem dJ0_coder_7d493_14 : decode cJ0_coder_7d493 14 = .ok (.ireturn, 1) := by decide +kernel
def f_J0_coder_7d493 (u0 : Nat) : Int32 := (0 : Int32)
set_option maxHeartbeats 4000000 in
set_option maxRecDepth 20000 in
theorem c_J0_coder_7d493 (l : Launch) (E : xE) (b : Nat) {u0 : Nat} (L_u0 : u0 < 2) (M : xm) {r : Int32} (hf : f_J0_coder_7d493 u0 = r) :
    xMet l E b NX yJ0_coder_7d493 cJ0_coder_7d493 1 (some .byte) (xR 1) [.ref (E.2 (10 + u0))] (cX E b M) (some (.int r)) (narrow .byte (.int r) = .int r) (cX E b M) := by
  refine xMet.ofW (own := RJ0) (by decide) rfl (Nat.le_of_ble_eq_true rfl) ?_
  intro p e s m below meth c H locs ls C hm hl
  have hx := C.1.1
  have hb := C.1.2.1
  have hl : lv_has ls 1 [(0, .ref (E.2 (10 + u0)))] := hl
  unfold f_J0_coder_7d493 at hf
  refine xs_comp C hm tf_RJ0_38 dJ0_coder_7d493_0 ?_
  refine lv_if_eq (tgt := 13) hx hb dJ0_coder_7d493_3 (by decide) (fun hc => absurd hc (by decide)) (fun hc => ?_)
  refine lv_aload_n hx hb dJ0_coder_7d493_6 rfl (lv_at hl 0 rfl) ?_
  refine xs_cod C hm L_u0 tf_RJ0_15 dJ0_coder_7d493_7 ?_
  refine lv_goto (tgt := 14) hx hb dJ0_coder_7d493_10 (by decide) ?_
  cases hf
  exact x_nret C hm rfl rfl dJ0_coder_7d493_14
/-! java/lang/String.length()I -/
theorem dJ0_length_8abf5_0 : decode cJ0_length_8abf5 0 = .ok (.aload_n 0, 1) := by decide +kernel
theorem dJ0_length_8abf5_1 : decode cJ0_length_8abf5 1 = .ok (.getfield 9, 3) := by decide +kernel
theorem dJ0_length_8abf5_4 : decode cJ0_length_8abf5 4 = .ok (.arraylength, 1) := by decide +kernel
theorem dJ0_length_8abf5_5 : decode cJ0_length_8abf5 5 = .ok (.aload_n 0, 1) := by decide +kernel
theorem dJ0_length_8abf5_6 : decode cJ0_length_8abf5 6 = .ok (.invokevirtual 335, 3) := by decide +kernel
theorem dJ0_length_8abf5_9 : decode cJ0_length_8abf5 9 = .ok (.ishr, 1) := by decide +kernel
theorem dJ0_length_8abf5_10 : decode cJ0_length_8abf5 10 = .ok (.ireturn, 1) := by decide +kernel
def f_J0_length_8abf5 (u0 : Nat) : Int32 := ((Int32.ofNat (sLen u0)) >>> ((0 : Int32) &&& 31))
set_option maxHeartbeats 4000000 in
set_option maxRecDepth 20000 in
theorem c_J0_length_8abf5 (l : Launch) (E : xE) (b : Nat) {u0 : Nat} (L_u0 : u0 < 2) (M : xm) {r : Int32} (hf : f_J0_length_8abf5 u0 = r) :
    xMet l E b NX yJ0_length_8abf5 cJ0_length_8abf5 1 (some .int) (xR 2) [.ref (E.2 (10 + u0))] (cX E b M) (some (.int r)) True (cX E b M) := by
  refine xMet.ofW (own := RJ0) (by decide) rfl (Nat.le_of_ble_eq_true rfl) ?_
  intro p e s m below meth c H locs ls C hm hl
  have hx := C.1.1
  have hb := C.1.2.1
  have hl : lv_has ls 1 [(0, .ref (E.2 (10 + u0)))] := hl
  unfold f_J0_length_8abf5 at hf
  refine lv_aload_n hx hb dJ0_length_8abf5_0 rfl (lv_at hl 0 rfl) ?_
  refine xs_val C hm L_u0 tf_RJ0_9 dJ0_length_8abf5_1 ?_
  refine xs_len (v := (Int32.ofNat (sLen u0))) C hm L_u0 rfl dJ0_length_8abf5_4 ?_
  refine lv_aload_n hx hb dJ0_length_8abf5_5 rfl (lv_at hl 0 rfl) ?_
  refine x_callVAi (As := []) (rest := [.int (Int32.ofNat (sLen u0))]) C hm (c_J0_coder_7d493 l E b L_u0 M (show f_J0_coder_7d493 u0 = (0 : Int32) from rfl)) (xs_recv C hm L_u0) tc_J0_coder_7d493 tm_RJ0_335 ti_J0_coder_7d493 ts_J0_coder_7d493 tn_RJ0 td_J0_coder_7d493 rfl rfl ⟨Nat.le_of_ble_eq_true rfl, Nat.le_of_ble_eq_true rfl⟩ rfl hl.1 rfl (Nat.le_of_ble_eq_true rfl) ⟨Nat.zero_le _, Nat.zero_le _⟩ dJ0_length_8abf5_6 (fun H locs hP1 hm => ?_)
  refine lv_ishr hx hb dJ0_length_8abf5_9 ?_
  cases hf
  exact x_iret C hm trivial dJ0_length_8abf5_10
/-! java/lang/StringLatin1.canEncode(I)Z -/
theorem dJ1_canEncode_9a6ad_0 : decode cJ1_canEncode_9a6ad 0 = .ok (.iload_n 0, 1) := by decide +kernel
theorem dJ1_canEncode_9a6ad_1 : decode cJ1_canEncode_9a6ad 1 = .ok (.ifCond .lt 14, 3) := by decide +kernel
theorem dJ1_canEncode_9a6ad_4 : decode cJ1_canEncode_9a6ad 4 = .ok (.iload_n 0, 1) := by decide +kernel
theorem dJ1_canEncode_9a6ad_5 : decode cJ1_canEncode_9a6ad 5 = .ok (.sipush 255, 3) := by decide +kernel
theorem dJ1_canEncode_9a6ad_8 : decode cJ1_canEncode_9a6ad 8 = .ok (.if_icmp .gt 7, 3) := by decide +kernel
theorem dJ1_canEncode_9a6ad_11 : decode cJ1_canEncode_9a6ad 11 = .ok (.iconst 1, 1) := by decide +kernel
theorem dJ1_canEncode_9a6ad_12 : decode cJ1_canEncode_9a6ad 12 = .ok (.goto 4, 3) := by decide +kernel
theorem dJ1_canEncode_9a6ad_15 : decode cJ1_canEncode_9a6ad 15 = .ok (.iconst 0, 1) := by decide +kernel
theorem dJ1_canEncode_9a6ad_16 : decode cJ1_canEncode_9a6ad 16 = .ok (.ireturn, 1) := by decide +kernel
def f_J1_canEncode_9a6ad (a0 : Int32) : Int32 := (if a0 < 0 then (0 : Int32) else (if (255 : Int32) < a0 then (0 : Int32) else (1 : Int32)))
set_option maxHeartbeats 4000000 in
set_option maxRecDepth 20000 in
theorem c_J1_canEncode_9a6ad (l : Launch) (E : xE) (b : Nat) (M : xm) (a0 : Int32) {r : Int32} (hf : f_J1_canEncode_9a6ad a0 = r) :
    xMet l E b NX yJ1_canEncode_9a6ad cJ1_canEncode_9a6ad 1 (some .boolean) (xR 1) [.int a0] (cX E b M) (some (.int r)) (xbo r = true) (cX E b M) := by
  refine xMet.ofW (own := RJ1) (by decide) rfl (Nat.le_of_ble_eq_true rfl) ?_
  intro p e s m below meth c H locs ls C hm hl
  have hx := C.1.1
  have hb := C.1.2.1
  have hl : lv_has ls 1 [(0, .int a0)] := hl
  unfold f_J1_canEncode_9a6ad at hf
  refine lv_iload_n hx hb dJ1_canEncode_9a6ad_0 rfl (lv_at hl 0 rfl) ?_
  refine lv_if_lt (tgt := 15) hx hb dJ1_canEncode_9a6ad_1 (by decide) (fun hc1 => ?_) (fun hc1 => ?_)
  · have hf := xif_t hc1 hf
    refine lv_iconst (v := (0 : Int32)) hx hb dJ1_canEncode_9a6ad_15 (by decide) ?_
    cases hf
    exact x_zret C hm (by decide) (by decide) dJ1_canEncode_9a6ad_16
  have hf := xif_f hc1 hf
  refine lv_iload_n hx hb dJ1_canEncode_9a6ad_4 rfl (lv_at hl 0 rfl) ?_
  refine lv_sipush (v := (255 : Int32)) hx hb dJ1_canEncode_9a6ad_5 (by decide) ?_
  refine lv_icmp_gt (tgt := 15) hx hb dJ1_canEncode_9a6ad_8 (by decide) (fun hc2 => ?_) (fun hc2 => ?_)
  · have hf := xif_t hc2 hf
    refine lv_iconst (v := (0 : Int32)) hx hb dJ1_canEncode_9a6ad_15 (by decide) ?_
    cases hf
    exact x_zret C hm (by decide) (by decide) dJ1_canEncode_9a6ad_16
  have hf := xif_f hc2 hf
  refine lv_iconst (v := (1 : Int32)) hx hb dJ1_canEncode_9a6ad_11 (by decide) ?_
  refine lv_goto (tgt := 16) hx hb dJ1_canEncode_9a6ad_12 (by decide) ?_
  cases hf
  exact x_zret C hm (by decide) (by decide) dJ1_canEncode_9a6ad_16
/-! java/lang/StringLatin1.indexOfChar([BIII)I -/
theorem dJ1_indexOfChar_4cfef_0 : decode cJ1_indexOfChar_4cfef 0 = .ok (.iload_n 1, 1) := by decide +kernel
theorem dJ1_indexOfChar_4cfef_1 : decode cJ1_indexOfChar_4cfef 1 = .ok (.i2b, 1) := by decide +kernel
theorem dJ1_indexOfChar_4cfef_2 : decode cJ1_indexOfChar_4cfef 2 = .ok (.istore 4, 2) := by decide +kernel
theorem dJ1_indexOfChar_4cfef_4 : decode cJ1_indexOfChar_4cfef 4 = .ok (.iload_n 2, 1) := by decide +kernel
theorem dJ1_indexOfChar_4cfef_5 : decode cJ1_indexOfChar_4cfef 5 = .ok (.istore 5, 2) := by decide +kernel
theorem dJ1_indexOfChar_4cfef_7 : decode cJ1_indexOfChar_4cfef 7 = .ok (.iload 5, 2) := by decide +kernel
theorem dJ1_indexOfChar_4cfef_9 : decode cJ1_indexOfChar_4cfef 9 = .ok (.iload_n 3, 1) := by decide +kernel
theorem dJ1_indexOfChar_4cfef_10 : decode cJ1_indexOfChar_4cfef 10 = .ok (.if_icmp .ge 21, 3) := by decide +kernel
theorem dJ1_indexOfChar_4cfef_13 : decode cJ1_indexOfChar_4cfef 13 = .ok (.aload_n 0, 1) := by decide +kernel
theorem dJ1_indexOfChar_4cfef_14 : decode cJ1_indexOfChar_4cfef 14 = .ok (.iload 5, 2) := by decide +kernel
theorem dJ1_indexOfChar_4cfef_16 : decode cJ1_indexOfChar_4cfef 16 = .ok (.baload, 1) := by decide +kernel
theorem dJ1_indexOfChar_4cfef_17 : decode cJ1_indexOfChar_4cfef 17 = .ok (.iload 4, 2) := by decide +kernel
theorem dJ1_indexOfChar_4cfef_19 : decode cJ1_indexOfChar_4cfef 19 = .ok (.if_icmp .ne 6, 3) := by decide +kernel
theorem dJ1_indexOfChar_4cfef_22 : decode cJ1_indexOfChar_4cfef 22 = .ok (.iload 5, 2) := by decide +kernel
theorem dJ1_indexOfChar_4cfef_24 : decode cJ1_indexOfChar_4cfef 24 = .ok (.ireturn, 1) := by decide +kernel
theorem dJ1_indexOfChar_4cfef_25 : decode cJ1_indexOfChar_4cfef 25 = .ok (.iinc 5 1, 3) := by decide +kernel
theorem dJ1_indexOfChar_4cfef_28 : decode cJ1_indexOfChar_4cfef 28 = .ok (.goto (-21), 3) := by decide +kernel
theorem dJ1_indexOfChar_4cfef_31 : decode cJ1_indexOfChar_4cfef 31 = .ok (.iconst (-1), 1) := by decide +kernel
theorem dJ1_indexOfChar_4cfef_32 : decode cJ1_indexOfChar_4cfef 32 = .ok (.ireturn, 1) := by decide +kernel
def g_J1_indexOfChar_4cfef_7 (o2 : Nat) (x3 : Int32) (x4 : Int32) : Nat → Int32 → Option ((Int32) ⊕ (Unit))
  | 0, _ => none
  | n + 1, x5 => (if x3 ≤ x5 then some (Sum.inr ()) else if xin x5 (sLen o2) = true then (if (sByte o2 (Int32.toNatClampNeg x5)) = x4 then some (Sum.inl x5) else xlet (x5 + (1 : Int32)) (fun v9 => g_J1_indexOfChar_4cfef_7 o2 x3 x4 n v9)) else none)
def f_J1_indexOfChar_4cfef (u0 : Nat) (a1 : Int32) (a2 : Int32) (a3 : Int32) : Option (Int32) := xlet (a1.toInt8.toInt32) (fun v1 => xs2 (g_J1_indexOfChar_4cfef_7 u0 a3 v1 xfuel a2) (fun q10 => some q10) (fun q10 => some (-1 : Int32)))
set_option maxHeartbeats 4000000 in
set_option maxRecDepth 20000 in
theorem j_J1_indexOfChar_4cfef_7 {p : Program} {l : Launch} {e : Env} {s : State} {m : MethodId} {args : Array Value} {below : List Frame} {meth : Method} {c : Code} {Q : State → Prop} {E : xE} {b : Nat} (C : xC p s m args meth c cJ1_indexOfChar_4cfef 6 RJ1 (some .int) E b) {o2 : Nat} (L_o2 : o2 < 2) {M : xm} (x3 : Int32) (x4 : Int32) {r : (Int32) ⊕ (Unit)}
    (kx0 : ∀ q : Int32, r = Sum.inl q → ∀ (H : Heap) (locs : List Loc) (ls : Array Slot), xM E b NX (cX E b M) s.heap H locs → lv_has ls 6 [(5, .int q)] → W p l e (xR 1) s m args below meth c H locs 0 0 Q (F0 m 22 ls []))
    (kx1 : ∀ q : Unit, r = Sum.inr q → ∀ (H : Heap) (locs : List Loc) (ls : Array Slot), xM E b NX (cX E b M) s.heap H locs → lv_has ls 6 [] → W p l e (xR 1) s m args below meth c H locs 0 0 Q (F0 m 31 ls [])) :
    ∀ (n : Nat) (x5 : Int32) (H : Heap) (locs : List Loc) (ls : Array Slot), g_J1_indexOfChar_4cfef_7 o2 x3 x4 n x5 = some r → xM E b NX (cX E b M) s.heap H locs → lv_has ls 6 [(0, .ref (E.2 (20 + o2))), (3, .int x3), (4, .int x4), (5, .int x5)] → W p l e (xR 1) s m args below meth c H locs 0 0 Q (F0 m 7 ls []) := by
  have hx := C.1.1
  have hb := C.1.2.1
  intro n
  induction n with
  | zero =>
    intro x5 H locs ls hf hm hl
    rw [g_J1_indexOfChar_4cfef_7] at hf
    cases hf
  | succ n ih =>
    intro x5 H locs ls hf hm hl
    rw [g_J1_indexOfChar_4cfef_7] at hf
    refine lv_iload hx hb dJ1_indexOfChar_4cfef_7 (lv_at hl 3 rfl) ?_
    refine lv_iload_n hx hb dJ1_indexOfChar_4cfef_9 rfl (lv_at hl 1 rfl) ?_
    refine lv_icmp_ge (tgt := 31) hx hb dJ1_indexOfChar_4cfef_10 (by decide) (fun hc6 => ?_) (fun hc6 => ?_)
    · have hf := xif_t hc6 hf
      cases hf
      exact kx1 () rfl H locs ls hm (lv_sub hl [] rfl)
    have hf := xif_f hc6 hf
    refine lv_aload_n hx hb dJ1_indexOfChar_4cfef_13 rfl (lv_at hl 0 rfl) ?_
    refine lv_iload hx hb dJ1_indexOfChar_4cfef_14 (lv_at hl 3 rfl) ?_
    obtain ⟨hi7, hf⟩ := xif_s hf
    refine xs_byte C hm L_o2 hi7 dJ1_indexOfChar_4cfef_16 ?_
    refine lv_iload hx hb dJ1_indexOfChar_4cfef_17 (lv_at hl 2 rfl) ?_
    refine lv_icmp_ne (tgt := 25) hx hb dJ1_indexOfChar_4cfef_19 (by decide) (fun hc8 => ?_) (fun hc8 => ?_)
    rotate_left
    · have hf := xif_t hc8 hf
      cases hf
      exact kx0 x5 rfl H locs ls hm (lv_sub hl [3] rfl)
    have hf := xif_f hc8 hf
    obtain ⟨v9, ev9, hf⟩ := xlet_x hf
    refine lv_iinc (v := v9) (lv' := [(5, .int v9), (0, .ref (E.2 (20 + o2))), (3, .int x3), (4, .int x4)]) hx hb dJ1_indexOfChar_4cfef_25 hl (k := 3) rfl (by rw [ev9]; rfl) (by decide) rfl (fun ls hl => ?_)
    refine lv_goto (tgt := 7) hx hb dJ1_indexOfChar_4cfef_28 (by decide) ?_
    exact ih v9 H locs ls hf hm (lv_sub hl [1, 2, 3, 0] rfl)
set_option maxHeartbeats 4000000 in
set_option maxRecDepth 20000 in
theorem c_J1_indexOfChar_4cfef (l : Launch) (E : xE) (b : Nat) {u0 : Nat} (L_u0 : u0 < 2) (M : xm) (a1 : Int32) (a2 : Int32) (a3 : Int32) {r : Int32} (hf : f_J1_indexOfChar_4cfef u0 a1 a2 a3 = some r) :
    xMet l E b NX yJ1_indexOfChar_4cfef cJ1_indexOfChar_4cfef 6 (some .int) (xR 1) [.ref (E.2 (20 + u0)), .int a1, .int a2, .int a3] (cX E b M) (some (.int r)) True (cX E b M) := by
  refine xMet.ofW (own := RJ1) (by decide) rfl (Nat.le_of_ble_eq_true rfl) ?_
  intro p e s m below meth c H locs ls C hm hl
  have hx := C.1.1
  have hb := C.1.2.1
  have hl : lv_has ls 6 [(0, .ref (E.2 (20 + u0))), (1, .int a1), (2, .int a2), (3, .int a3)] := hl
  unfold f_J1_indexOfChar_4cfef at hf
  refine lv_iload_n hx hb dJ1_indexOfChar_4cfef_0 rfl (lv_at hl 1 rfl) ?_
  refine lv_i2b hx hb dJ1_indexOfChar_4cfef_1 rfl ?_
  refine lv_topi (fun v1 ev1 => ?_)
  have hf := xlet_e ev1 hf
  refine lv_istore (lv' := [(4, .int v1), (0, .ref (E.2 (20 + u0))), (1, .int a1), (2, .int a2), (3, .int a3)]) hx hb dJ1_indexOfChar_4cfef_2 hl (by decide) rfl (fun ls hl => ?_)
  refine lv_iload_n hx hb dJ1_indexOfChar_4cfef_4 rfl (lv_at hl 3 rfl) ?_
  refine lv_istore (lv' := [(5, .int a2), (4, .int v1), (0, .ref (E.2 (20 + u0))), (1, .int a1), (2, .int a2), (3, .int a3)]) hx hb dJ1_indexOfChar_4cfef_5 hl (by decide) rfl (fun ls hl => ?_)
  rcases xs2_e hf with ⟨q10, hq, hf⟩ | ⟨q10, hq, hf⟩
  · refine j_J1_indexOfChar_4cfef_7 C L_u0 a3 v1 (r := Sum.inl q10) (fun q2 hr H locs ls hm hl => ?_) (fun q2 hr => by cases hr) xfuel a2 H locs ls hq hm (lv_sub hl [2, 5, 1, 0] rfl)
    cases hr
    refine lv_iload hx hb dJ1_indexOfChar_4cfef_22 (lv_at hl 0 rfl) ?_
    cases hf
    exact x_iret C hm trivial dJ1_indexOfChar_4cfef_24
  · refine j_J1_indexOfChar_4cfef_7 C L_u0 a3 v1 (r := Sum.inr q10) (fun q2 hr => by cases hr) (fun q2 hr H locs ls hm hl => ?_) xfuel a2 H locs ls hq hm (lv_sub hl [2, 5, 1, 0] rfl)
    cases hr
    refine lv_iconst (v := (-1 : Int32)) hx hb dJ1_indexOfChar_4cfef_31 (by decide) ?_
    cases hf
    exact x_iret C hm trivial dJ1_indexOfChar_4cfef_32
/-! java/lang/StringLatin1.indexOf([BIII)I -/
theorem dJ1_indexOf_4cfef_0 : decode cJ1_indexOf_4cfef 0 = .ok (.iload_n 1, 1) := by decide +kernel
theorem dJ1_indexOf_4cfef_1 : decode cJ1_indexOf_4cfef 1 = .ok (.invokestatic 88, 3) := by decide +kernel
theorem dJ1_indexOf_4cfef_4 : decode cJ1_indexOf_4cfef 4 = .ok (.ifCond .ne 5, 3) := by decide +kernel
theorem dJ1_indexOf_4cfef_7 : decode cJ1_indexOf_4cfef 7 = .ok (.iconst (-1), 1) := by decide +kernel
theorem dJ1_indexOf_4cfef_8 : decode cJ1_indexOf_4cfef 8 = .ok (.ireturn, 1) := by decide +kernel
theorem dJ1_indexOf_4cfef_9 : decode cJ1_indexOf_4cfef 9 = .ok (.iload_n 2, 1) := by decide +kernel
theorem dJ1_indexOf_4cfef_10 : decode cJ1_indexOf_4cfef 10 = .ok (.iconst 0, 1) := by decide +kernel
theorem dJ1_indexOf_4cfef_11 : decode cJ1_indexOf_4cfef 11 = .ok (.invokestatic 92, 3) := by decide +kernel
theorem dJ1_indexOf_4cfef_14 : decode cJ1_indexOf_4cfef 14 = .ok (.istore_n 2, 1) := by decide +kernel
theorem dJ1_indexOf_4cfef_15 : decode cJ1_indexOf_4cfef 15 = .ok (.iload_n 3, 1) := by decide +kernel
theorem dJ1_indexOf_4cfef_16 : decode cJ1_indexOf_4cfef 16 = .ok (.aload_n 0, 1) := by decide +kernel
theorem dJ1_indexOf_4cfef_17 : decode cJ1_indexOf_4cfef 17 = .ok (.arraylength, 1) := by decide +kernel
theorem dJ1_indexOf_4cfef_18 : decode cJ1_indexOf_4cfef 18 = .ok (.invokestatic 38, 3) := by decide +kernel
theorem dJ1_indexOf_4cfef_21 : decode cJ1_indexOf_4cfef 21 = .ok (.istore_n 3, 1) := by decide +kernel
theorem dJ1_indexOf_4cfef_22 : decode cJ1_indexOf_4cfef 22 = .ok (.iload_n 2, 1) := by decide +kernel
theorem dJ1_indexOf_4cfef_23 : decode cJ1_indexOf_4cfef 23 = .ok (.iload_n 3, 1) := by decide +kernel
theorem dJ1_indexOf_4cfef_24 : decode cJ1_indexOf_4cfef 24 = .ok (.if_icmp .lt 5, 3) := by decide +kernel
theorem dJ1_indexOf_4cfef_27 : decode cJ1_indexOf_4cfef 27 = .ok (.iconst (-1), 1) := by decide +kernel
theorem dJ1_indexOf_4cfef_28 : decode cJ1_indexOf_4cfef 28 = .ok (.ireturn, 1) := by decide +kernel
theorem dJ1_indexOf_4cfef_29 : decode cJ1_indexOf_4cfef 29 = .ok (.aload_n 0, 1) := by decide +kernel
theorem dJ1_indexOf_4cfef_30 : decode cJ1_indexOf_4cfef 30 = .ok (.iload_n 1, 1) := by decide +kernel
theorem dJ1_indexOf_4cfef_31 : decode cJ1_indexOf_4cfef 31 = .ok (.iload_n 2, 1) := by decide +kernel
theorem dJ1_indexOf_4cfef_32 : decode cJ1_indexOf_4cfef 32 = .ok (.iload_n 3, 1) := by decide +kernel
theorem dJ1_indexOf_4cfef_33 : decode cJ1_indexOf_4cfef 33 = .ok (.invokestatic 95, 3) := by decide +kernel
theorem dJ1_indexOf_4cfef_36 : decode cJ1_indexOf_4cfef 36 = .ok (.ireturn, 1) := by decide +kernel
def f_J1_indexOf_4cfef (u0 : Nat) (a1 : Int32) (a2 : Int32) (a3 : Int32) : Option (Int32) := (if (f_J1_canEncode_9a6ad a1) = 0 then some (-1 : Int32) else xlet (xmax a2 (0 : Int32)) (fun v3 => xlet (xmin a3 (Int32.ofNat (sLen u0))) (fun v4 => (if v3 < v4 then xb1 (f_J1_indexOfChar_4cfef u0 a1 v3 v4) (fun v7 => some v7) else some (-1 : Int32)))))
set_option maxHeartbeats 4000000 in
set_option maxRecDepth 20000 in
theorem c_J1_indexOf_4cfef (l : Launch) (E : xE) (b : Nat) {u0 : Nat} (L_u0 : u0 < 2) (M : xm) (a1 : Int32) (a2 : Int32) (a3 : Int32) {r : Int32} (hf : f_J1_indexOf_4cfef u0 a1 a2 a3 = some r) :
    xMet l E b NX yJ1_indexOf_4cfef cJ1_indexOf_4cfef 4 (some .int) (xR 2) [.ref (E.2 (20 + u0)), .int a1, .int a2, .int a3] (cX E b M) (some (.int r)) True (cX E b M) := by
  refine xMet.ofW (own := RJ1) (by decide) rfl (Nat.le_of_ble_eq_true rfl) ?_
  intro p e s m below meth c H locs ls C hm hl
  have hx := C.1.1
  have hb := C.1.2.1
  have hl : lv_has ls 4 [(0, .ref (E.2 (20 + u0))), (1, .int a1), (2, .int a2), (3, .int a3)] := hl
  unfold f_J1_indexOf_4cfef at hf
  refine lv_iload_n hx hb dJ1_indexOf_4cfef_0 rfl (lv_at hl 1 rfl) ?_
  refine x_callSi (As := [.int a1]) (rest := []) C hm (c_J1_canEncode_9a6ad l E b M a1 rfl) tc_J1_canEncode_9a6ad tm_RJ1_88 tz_J1_canEncode_9a6ad tn_RJ1 td_J1_canEncode_9a6ad rfl rfl ⟨Nat.le_of_ble_eq_true rfl, Nat.le_of_ble_eq_true rfl⟩ rfl hl.1 rfl (Nat.le_of_ble_eq_true rfl) ⟨Nat.zero_le _, Nat.zero_le _⟩ dJ1_indexOf_4cfef_1 (fun H locs hP1 hm => ?_)
  refine lv_if_ne (tgt := 9) hx hb dJ1_indexOf_4cfef_4 (by decide) (fun hc2 => ?_) (fun hc2 => ?_)
  rotate_left
  · have hf := xif_t hc2 hf
    refine lv_iconst (v := (-1 : Int32)) hx hb dJ1_indexOf_4cfef_7 (by decide) ?_
    cases hf
    exact x_iret C hm trivial dJ1_indexOf_4cfef_8
  have hf := xif_f hc2 hf
  refine lv_iload_n hx hb dJ1_indexOf_4cfef_9 rfl (lv_at hl 2 rfl) ?_
  refine lv_iconst (v := (0 : Int32)) hx hb dJ1_indexOf_4cfef_10 (by decide) ?_
  refine va_mmax hx hb (C.1.2.2.1.trans hl.1.symm) C.1.2.2.2.1 (C.1.2.2.2.2 _ tm_RJ1_92) (C.1.2.2.2.2 _ tz_Math_maxI) (C.1.2.2.2.2 _ tn_Math) (C.1.2.2.2.2 _ tc_Math_maxI) (Nat.le_of_ble_eq_true rfl) (Nat.le_of_ble_eq_true rfl) (Nat.zero_le _) (Nat.zero_le _) dJ1_indexOf_4cfef_11 ?_
  refine lv_topi (fun v3 ev3 => ?_)
  have hf := xlet_e ev3 hf
  refine lv_istore_n (lv' := [(2, .int v3), (0, .ref (E.2 (20 + u0))), (1, .int a1), (3, .int a3)]) hx hb dJ1_indexOf_4cfef_14 rfl hl (by decide) rfl (fun ls hl => ?_)
  refine lv_iload_n hx hb dJ1_indexOf_4cfef_15 rfl (lv_at hl 3 rfl) ?_
  refine lv_aload_n hx hb dJ1_indexOf_4cfef_16 rfl (lv_at hl 1 rfl) ?_
  refine xs_len (v := (Int32.ofNat (sLen u0))) C hm L_u0 rfl dJ1_indexOf_4cfef_17 ?_
  refine va_mmin hx hb (C.1.2.2.1.trans hl.1.symm) C.1.2.2.2.1 (C.1.2.2.2.2 _ tm_RJ1_38) (C.1.2.2.2.2 _ tz_Math_minI) (C.1.2.2.2.2 _ tn_Math) (C.1.2.2.2.2 _ tc_Math_minI) (Nat.le_of_ble_eq_true rfl) (Nat.le_of_ble_eq_true rfl) (Nat.zero_le _) (Nat.zero_le _) dJ1_indexOf_4cfef_18 ?_
  refine lv_topi (fun v4 ev4 => ?_)
  have hf := xlet_e ev4 hf
  refine lv_istore_n (lv' := [(3, .int v4), (2, .int v3), (0, .ref (E.2 (20 + u0))), (1, .int a1)]) hx hb dJ1_indexOf_4cfef_21 rfl hl (by decide) rfl (fun ls hl => ?_)
  refine lv_iload_n hx hb dJ1_indexOf_4cfef_22 rfl (lv_at hl 1 rfl) ?_
  refine lv_iload_n hx hb dJ1_indexOf_4cfef_23 rfl (lv_at hl 0 rfl) ?_
  refine lv_icmp_lt (tgt := 29) hx hb dJ1_indexOf_4cfef_24 (by decide) (fun hc5 => ?_) (fun hc5 => ?_)
  rotate_left
  · have hf := xif_f hc5 hf
    refine lv_iconst (v := (-1 : Int32)) hx hb dJ1_indexOf_4cfef_27 (by decide) ?_
    cases hf
    exact x_iret C hm trivial dJ1_indexOf_4cfef_28
  have hf := xif_t hc5 hf
  refine lv_aload_n hx hb dJ1_indexOf_4cfef_29 rfl (lv_at hl 2 rfl) ?_
  refine lv_iload_n hx hb dJ1_indexOf_4cfef_30 rfl (lv_at hl 3 rfl) ?_
  refine lv_iload_n hx hb dJ1_indexOf_4cfef_31 rfl (lv_at hl 1 rfl) ?_
  refine lv_iload_n hx hb dJ1_indexOf_4cfef_32 rfl (lv_at hl 0 rfl) ?_
  obtain ⟨v7, hq6, hf⟩ := xb1_e hf
  refine x_callSi (As := [.ref (E.2 (20 + u0)), .int a1, .int v3, .int v4]) (rest := []) C hm (c_J1_indexOfChar_4cfef l E b L_u0 M a1 v3 v4 hq6) tc_J1_indexOfChar_4cfef tm_RJ1_95 tz_J1_indexOfChar_4cfef tn_RJ1 td_J1_indexOfChar_4cfef rfl rfl ⟨Nat.le_of_ble_eq_true rfl, Nat.le_of_ble_eq_true rfl⟩ rfl hl.1 rfl (Nat.le_of_ble_eq_true rfl) ⟨Nat.zero_le _, Nat.zero_le _⟩ dJ1_indexOf_4cfef_33 (fun H locs hP8 hm => ?_)
  cases hf
  exact x_iret C hm trivial dJ1_indexOf_4cfef_36
/-! java/lang/String.indexOf(II)I -/
theorem dJ0_indexOf_7cf53_0 : decode cJ0_indexOf_7cf53 0 = .ok (.aload_n 0, 1) := by decide +kernel
theorem dJ0_indexOf_7cf53_1 : decode cJ0_indexOf_7cf53 1 = .ok (.invokevirtual 492, 3) := by decide +kernel
theorem dJ0_indexOf_7cf53_4 : decode cJ0_indexOf_7cf53 4 = .ok (.ifCond .eq 19, 3) := by decide +kernel
theorem dJ0_indexOf_7cf53_7 : decode cJ0_indexOf_7cf53 7 = .ok (.aload_n 0, 1) := by decide +kernel
theorem dJ0_indexOf_7cf53_8 : decode cJ0_indexOf_7cf53 8 = .ok (.getfield 9, 3) := by decide +kernel
theorem dJ0_indexOf_7cf53_11 : decode cJ0_indexOf_7cf53 11 = .ok (.iload_n 1, 1) := by decide +kernel
theorem dJ0_indexOf_7cf53_12 : decode cJ0_indexOf_7cf53 12 = .ok (.iload_n 2, 1) := by decide +kernel
theorem dJ0_indexOf_7cf53_13 : decode cJ0_indexOf_7cf53 13 = .ok (.aload_n 0, 1) := by decide +kernel
theorem dJ0_indexOf_7cf53_14 : decode cJ0_indexOf_7cf53 14 = .ok (.invokevirtual 505, 3) := by decide +kernel
theorem dJ0_indexOf_7cf53_17 : decode cJ0_indexOf_7cf53 17 = .ok (.invokestatic 637, 3) := by decide +kernel
theorem dJ0_indexOf_7cf53_20 : decode cJ0_indexOf_7cf53 20 = .ok (.goto 16, 3) := by decide +kernel
theorem dJ0_indexOf_7cf53_23 : decode cJ0_indexOf_7cf53 23 = .ok (.aload_n 0, 1) := by decide +kernel
theorem dJ0_indexOf_7cf53_24 : decode cJ0_indexOf_7cf53 24 = .ok (.getfield 9, 3) := by decide +kernel
theorem dJ0_indexOf_7cf53_27 : decode cJ0_indexOf_7cf53 27 = .ok (.iload_n 1, 1) := by decide +kernel
theorem dJ0_indexOf_7cf53_28 : decode cJ0_indexOf_7cf53 28 = .ok (.iload_n 2, 1) := by decide +kernel
theorem dJ0_indexOf_7cf53_29 : decode cJ0_indexOf_7cf53 29 = .ok (.aload_n 0, 1) := by decide +kernel
theorem dJ0_indexOf_7cf53_30 : decode cJ0_indexOf_7cf53 30 = .ok (.invokevirtual 505, 3) := by decide +kernel
theorem dJ0_indexOf_7cf53_33 : decode cJ0_indexOf_7cf53 33 = .ok (.invokestatic 640, 3) := by decide +kernel
theorem dJ0_indexOf_7cf53_36 : decode cJ0_indexOf_7cf53 36 = .ok (.ireturn, 1) := by decide +kernel
def f_J0_indexOf_7cf53 (u0 : Nat) (a1 : Int32) (a2 : Int32) : Option (Int32) := xb1 (f_J1_indexOf_4cfef u0 a1 a2 (f_J0_length_8abf5 u0)) (fun v4 => some v4)
set_option maxHeartbeats 4000000 in
set_option maxRecDepth 20000 in
theorem c_J0_indexOf_7cf53 (l : Launch) (E : xE) (b : Nat) {u0 : Nat} (L_u0 : u0 < 2) (M : xm) (a1 : Int32) (a2 : Int32) {r : Int32} (hf : f_J0_indexOf_7cf53 u0 a1 a2 = some r) :
    xMet l E b NX yJ0_indexOf_7cf53 cJ0_indexOf_7cf53 3 (some .int) (xR 3) [.ref (E.2 (10 + u0)), .int a1, .int a2] (cX E b M) (some (.int r)) True (cX E b M) := by
  refine xMet.ofW (own := RJ0) (by decide) rfl (Nat.le_of_ble_eq_true rfl) ?_
  intro p e s m below meth c H locs ls C hm hl
  have hx := C.1.1
  have hb := C.1.2.1
  have hl : lv_has ls 3 [(0, .ref (E.2 (10 + u0))), (1, .int a1), (2, .int a2)] := hl
  unfold f_J0_indexOf_7cf53 at hf
  refine lv_aload_n hx hb dJ0_indexOf_7cf53_0 rfl (lv_at hl 0 rfl) ?_
  refine x_callVAi (As := []) (rest := []) C hm (c_J0_isLatin1_aae02 l E b L_u0 M (show f_J0_isLatin1_aae02 u0 = (1 : Int32) from rfl)) (xs_recv C hm L_u0) tc_J0_isLatin1_aae02 tm_RJ0_492 ti_J0_isLatin1_aae02 ts_J0_isLatin1_aae02 tn_RJ0 td_J0_isLatin1_aae02 rfl rfl ⟨Nat.le_of_ble_eq_true rfl, Nat.le_of_ble_eq_true rfl⟩ rfl hl.1 rfl (Nat.le_of_ble_eq_true rfl) ⟨Nat.zero_le _, Nat.zero_le _⟩ dJ0_indexOf_7cf53_1 (fun H locs hP1 hm => ?_)
  refine lv_if_eq (tgt := 23) hx hb dJ0_indexOf_7cf53_4 (by decide) (fun hc => absurd hc (by decide)) (fun hc => ?_)
  refine lv_aload_n hx hb dJ0_indexOf_7cf53_7 rfl (lv_at hl 0 rfl) ?_
  refine xs_val C hm L_u0 tf_RJ0_9 dJ0_indexOf_7cf53_8 ?_
  refine lv_iload_n hx hb dJ0_indexOf_7cf53_11 rfl (lv_at hl 1 rfl) ?_
  refine lv_iload_n hx hb dJ0_indexOf_7cf53_12 rfl (lv_at hl 2 rfl) ?_
  refine lv_aload_n hx hb dJ0_indexOf_7cf53_13 rfl (lv_at hl 0 rfl) ?_
  refine x_callVAi (As := []) (rest := [.int a2, .int a1, .ref (E.2 (20 + u0))]) C hm (c_J0_length_8abf5 l E b L_u0 M rfl) (xs_recv C hm L_u0) tc_J0_length_8abf5 tm_RJ0_505 ti_J0_length_8abf5 ts_J0_length_8abf5 tn_RJ0 td_J0_length_8abf5 rfl rfl ⟨Nat.le_of_ble_eq_true rfl, Nat.le_of_ble_eq_true rfl⟩ rfl hl.1 rfl (Nat.le_of_ble_eq_true rfl) ⟨Nat.zero_le _, Nat.zero_le _⟩ dJ0_indexOf_7cf53_14 (fun H locs hP2 hm => ?_)
  obtain ⟨v4, hq3, hf⟩ := xb1_e hf
  refine x_callSi (As := [.ref (E.2 (20 + u0)), .int a1, .int a2, .int (f_J0_length_8abf5 u0)]) (rest := []) C hm (c_J1_indexOf_4cfef l E b L_u0 M a1 a2 (f_J0_length_8abf5 u0) hq3) tc_J1_indexOf_4cfef tm_RJ0_637 tz_J1_indexOf_4cfef tn_RJ1 td_J1_indexOf_4cfef rfl rfl ⟨Nat.le_of_ble_eq_true rfl, Nat.le_of_ble_eq_true rfl⟩ rfl hl.1 rfl (Nat.le_of_ble_eq_true rfl) ⟨Nat.zero_le _, Nat.zero_le _⟩ dJ0_indexOf_7cf53_17 (fun H locs hP5 hm => ?_)
  refine lv_goto (tgt := 36) hx hb dJ0_indexOf_7cf53_20 (by decide) ?_
  cases hf
  exact x_iret C hm trivial dJ0_indexOf_7cf53_36
/-! java/lang/String.indexOf(I)I -/
theorem dJ0_indexOf_0f7a4_0 : decode cJ0_indexOf_0f7a4 0 = .ok (.aload_n 0, 1) := by decide +kernel
theorem dJ0_indexOf_0f7a4_1 : decode cJ0_indexOf_0f7a4 1 = .ok (.iload_n 1, 1) := by decide +kernel
theorem dJ0_indexOf_0f7a4_2 : decode cJ0_indexOf_0f7a4 2 = .ok (.iconst 0, 1) := by decide +kernel
theorem dJ0_indexOf_0f7a4_3 : decode cJ0_indexOf_0f7a4 3 = .ok (.invokevirtual 633, 3) := by decide +kernel
theorem dJ0_indexOf_0f7a4_6 : decode cJ0_indexOf_0f7a4 6 = .ok (.ireturn, 1) := by decide +kernel
def f_J0_indexOf_0f7a4 (u0 : Nat) (a1 : Int32) : Option (Int32) := xb1 (f_J0_indexOf_7cf53 u0 a1 (0 : Int32)) (fun v2 => some v2)
set_option maxHeartbeats 4000000 in
set_option maxRecDepth 20000 in
theorem c_J0_indexOf_0f7a4 (l : Launch) (E : xE) (b : Nat) {u0 : Nat} (L_u0 : u0 < 2) (M : xm) (a1 : Int32) {r : Int32} (hf : f_J0_indexOf_0f7a4 u0 a1 = some r) :
    xMet l E b NX yJ0_indexOf_0f7a4 cJ0_indexOf_0f7a4 2 (some .int) (xR 4) [.ref (E.2 (10 + u0)), .int a1] (cX E b M) (some (.int r)) True (cX E b M) := by
  refine xMet.ofW (own := RJ0) (by decide) rfl (Nat.le_of_ble_eq_true rfl) ?_
  intro p e s m below meth c H locs ls C hm hl
  have hx := C.1.1
  have hb := C.1.2.1
  have hl : lv_has ls 2 [(0, .ref (E.2 (10 + u0))), (1, .int a1)] := hl
  unfold f_J0_indexOf_0f7a4 at hf
  refine lv_aload_n hx hb dJ0_indexOf_0f7a4_0 rfl (lv_at hl 0 rfl) ?_
  refine lv_iload_n hx hb dJ0_indexOf_0f7a4_1 rfl (lv_at hl 1 rfl) ?_
  refine lv_iconst (v := (0 : Int32)) hx hb dJ0_indexOf_0f7a4_2 (by decide) ?_
  obtain ⟨v2, hq1, hf⟩ := xb1_e hf
  refine x_callVAi (As := [.int a1, .int (0 : Int32)]) (rest := []) C hm (c_J0_indexOf_7cf53 l E b L_u0 M a1 (0 : Int32) hq1) (xs_recv C hm L_u0) tc_J0_indexOf_7cf53 tm_RJ0_633 ti_J0_indexOf_7cf53 ts_J0_indexOf_7cf53 tn_RJ0 td_J0_indexOf_7cf53 rfl rfl ⟨Nat.le_of_ble_eq_true rfl, Nat.le_of_ble_eq_true rfl⟩ rfl hl.1 rfl (Nat.le_of_ble_eq_true rfl) ⟨Nat.zero_le _, Nat.zero_le _⟩ dJ0_indexOf_0f7a4_3 (fun H locs hP3 hm => ?_)
  cases hf
  exact x_iret C hm trivial dJ0_indexOf_0f7a4_6
/-! java/lang/Integer.bitCount(I)I -/
theorem dJ6_bitCount_0f7a4_0 : decode cJ6_bitCount_0f7a4 0 = .ok (.iload_n 0, 1) := by decide +kernel
theorem dJ6_bitCount_0f7a4_1 : decode cJ6_bitCount_0f7a4 1 = .ok (.iload_n 0, 1) := by decide +kernel
theorem dJ6_bitCount_0f7a4_2 : decode cJ6_bitCount_0f7a4 2 = .ok (.iconst 1, 1) := by decide +kernel
theorem dJ6_bitCount_0f7a4_3 : decode cJ6_bitCount_0f7a4 3 = .ok (.iushr, 1) := by decide +kernel
theorem dJ6_bitCount_0f7a4_4 : decode cJ6_bitCount_0f7a4 4 = .ok (.ldc_w 265, 3) := by decide +kernel
theorem dJ6_bitCount_0f7a4_7 : decode cJ6_bitCount_0f7a4 7 = .ok (.iand, 1) := by decide +kernel
theorem dJ6_bitCount_0f7a4_8 : decode cJ6_bitCount_0f7a4 8 = .ok (.isub, 1) := by decide +kernel
theorem dJ6_bitCount_0f7a4_9 : decode cJ6_bitCount_0f7a4 9 = .ok (.istore_n 0, 1) := by decide +kernel
theorem dJ6_bitCount_0f7a4_10 : decode cJ6_bitCount_0f7a4 10 = .ok (.iload_n 0, 1) := by decide +kernel
theorem dJ6_bitCount_0f7a4_11 : decode cJ6_bitCount_0f7a4 11 = .ok (.ldc_w 266, 3) := by decide +kernel
theorem dJ6_bitCount_0f7a4_14 : decode cJ6_bitCount_0f7a4 14 = .ok (.iand, 1) := by decide +kernel
theorem dJ6_bitCount_0f7a4_15 : decode cJ6_bitCount_0f7a4 15 = .ok (.iload_n 0, 1) := by decide +kernel
theorem dJ6_bitCount_0f7a4_16 : decode cJ6_bitCount_0f7a4 16 = .ok (.iconst 2, 1) := by decide +kernel
theorem dJ6_bitCount_0f7a4_17 : decode cJ6_bitCount_0f7a4 17 = .ok (.iushr, 1) := by decide +kernel
theorem dJ6_bitCount_0f7a4_18 : decode cJ6_bitCount_0f7a4 18 = .ok (.ldc_w 266, 3) := by decide +kernel
theorem dJ6_bitCount_0f7a4_21 : decode cJ6_bitCount_0f7a4 21 = .ok (.iand, 1) := by decide +kernel
theorem dJ6_bitCount_0f7a4_22 : decode cJ6_bitCount_0f7a4 22 = .ok (.iadd, 1) := by decide +kernel
theorem dJ6_bitCount_0f7a4_23 : decode cJ6_bitCount_0f7a4 23 = .ok (.istore_n 0, 1) := by decide +kernel
theorem dJ6_bitCount_0f7a4_24 : decode cJ6_bitCount_0f7a4 24 = .ok (.iload_n 0, 1) := by decide +kernel
theorem dJ6_bitCount_0f7a4_25 : decode cJ6_bitCount_0f7a4 25 = .ok (.iload_n 0, 1) := by decide +kernel
theorem dJ6_bitCount_0f7a4_26 : decode cJ6_bitCount_0f7a4 26 = .ok (.iconst 4, 1) := by decide +kernel
theorem dJ6_bitCount_0f7a4_27 : decode cJ6_bitCount_0f7a4 27 = .ok (.iushr, 1) := by decide +kernel
theorem dJ6_bitCount_0f7a4_28 : decode cJ6_bitCount_0f7a4 28 = .ok (.iadd, 1) := by decide +kernel
theorem dJ6_bitCount_0f7a4_29 : decode cJ6_bitCount_0f7a4 29 = .ok (.ldc_w 267, 3) := by decide +kernel
theorem dJ6_bitCount_0f7a4_32 : decode cJ6_bitCount_0f7a4 32 = .ok (.iand, 1) := by decide +kernel
theorem dJ6_bitCount_0f7a4_33 : decode cJ6_bitCount_0f7a4 33 = .ok (.istore_n 0, 1) := by decide +kernel
theorem dJ6_bitCount_0f7a4_34 : decode cJ6_bitCount_0f7a4 34 = .ok (.iload_n 0, 1) := by decide +kernel
theorem dJ6_bitCount_0f7a4_35 : decode cJ6_bitCount_0f7a4 35 = .ok (.iload_n 0, 1) := by decide +kernel
theorem dJ6_bitCount_0f7a4_36 : decode cJ6_bitCount_0f7a4 36 = .ok (.bipush 8, 2) := by decide +kernel
theorem dJ6_bitCount_0f7a4_38 : decode cJ6_bitCount_0f7a4 38 = .ok (.iushr, 1) := by decide +kernel
theorem dJ6_bitCount_0f7a4_39 : decode cJ6_bitCount_0f7a4 39 = .ok (.iadd, 1) := by decide +kernel
theorem dJ6_bitCount_0f7a4_40 : decode cJ6_bitCount_0f7a4 40 = .ok (.istore_n 0, 1) := by decide +kernel
theorem dJ6_bitCount_0f7a4_41 : decode cJ6_bitCount_0f7a4 41 = .ok (.iload_n 0, 1) := by decide +kernel
theorem dJ6_bitCount_0f7a4_42 : decode cJ6_bitCount_0f7a4 42 = .ok (.iload_n 0, 1) := by decide +kernel
theorem dJ6_bitCount_0f7a4_43 : decode cJ6_bitCount_0f7a4 43 = .ok (.bipush 16, 2) := by decide +kernel
theorem dJ6_bitCount_0f7a4_45 : decode cJ6_bitCount_0f7a4 45 = .ok (.iushr, 1) := by decide +kernel
theorem dJ6_bitCount_0f7a4_46 : decode cJ6_bitCount_0f7a4 46 = .ok (.iadd, 1) := by decide +kernel
theorem dJ6_bitCount_0f7a4_47 : decode cJ6_bitCount_0f7a4 47 = .ok (.istore_n 0, 1) := by decide +kernel
theorem dJ6_bitCount_0f7a4_48 : decode cJ6_bitCount_0f7a4 48 = .ok (.iload_n 0, 1) := by decide +kernel
theorem dJ6_bitCount_0f7a4_49 : decode cJ6_bitCount_0f7a4 49 = .ok (.bipush 63, 2) := by decide +kernel
theorem dJ6_bitCount_0f7a4_51 : decode cJ6_bitCount_0f7a4 51 = .ok (.iand, 1) := by decide +kernel
theorem dJ6_bitCount_0f7a4_52 : decode cJ6_bitCount_0f7a4 52 = .ok (.ireturn, 1) := by decide +kernel
def f_J6_bitCount_0f7a4 (a0 : Int32) : Int32 := xlet (a0 - ((xushr a0 (1 : Int32)) &&& (1431655765 : Int32))) (fun v1 => xlet ((v1 &&& (858993459 : Int32)) + ((xushr v1 (2 : Int32)) &&& (858993459 : Int32))) (fun v2 => xlet ((v2 + (xushr v2 (4 : Int32))) &&& (252645135 : Int32)) (fun v3 => xlet (v3 + (xushr v3 (8 : Int32))) (fun v4 => xlet (v4 + (xushr v4 (16 : Int32))) (fun v5 => (v5 &&& (63 : Int32)))))))
set_option maxHeartbeats 4000000 in
set_option maxRecDepth 20000 in
theorem c_J6_bitCount_0f7a4 (l : Launch) (E : xE) (b : Nat) (M : xm) (a0 : Int32) {r : Int32} (hf : f_J6_bitCount_0f7a4 a0 = r) :
    xMet l E b NX yJ6_bitCount_0f7a4 cJ6_bitCount_0f7a4 1 (some .int) (xR 1) [.int a0] (cX E b M) (some (.int r)) True (cX E b M) := by
  refine xMet.ofW (own := RJ6) (by decide) rfl (Nat.le_of_ble_eq_true rfl) ?_
  intro p e s m below meth c H locs ls C hm hl
  have hx := C.1.1
  have hb := C.1.2.1
  have hl : lv_has ls 1 [(0, .int a0)] := hl
  unfold f_J6_bitCount_0f7a4 at hf
  refine lv_iload_n hx hb dJ6_bitCount_0f7a4_0 rfl (lv_at hl 0 rfl) ?_
  refine lv_iload_n hx hb dJ6_bitCount_0f7a4_1 rfl (lv_at hl 0 rfl) ?_
  refine lv_iconst (v := (1 : Int32)) hx hb dJ6_bitCount_0f7a4_2 (by decide) ?_
  refine lv_iushr hx hb dJ6_bitCount_0f7a4_3 rfl ?_
  refine lv_ldcw (v := (1431655765 : Int32)) hx hb C.1.2.2.2.1 (C.1.2.2.2.2 _ tk_RJ6_265) dJ6_bitCount_0f7a4_4 ?_
  refine lv_iand hx hb dJ6_bitCount_0f7a4_7 ?_
  refine lv_isub hx hb dJ6_bitCount_0f7a4_8 ?_
  refine lv_topi (fun v1 ev1 => ?_)
  have hf := xlet_e ev1 hf
  refine lv_istore_n (lv' := [(0, .int v1)]) hx hb dJ6_bitCount_0f7a4_9 rfl hl (by decide) rfl (fun ls hl => ?_)
  refine lv_iload_n hx hb dJ6_bitCount_0f7a4_10 rfl (lv_at hl 0 rfl) ?_
  refine lv_ldcw (v := (858993459 : Int32)) hx hb C.1.2.2.2.1 (C.1.2.2.2.2 _ tk_RJ6_266) dJ6_bitCount_0f7a4_11 ?_
  refine lv_iand hx hb dJ6_bitCount_0f7a4_14 ?_
  refine lv_iload_n hx hb dJ6_bitCount_0f7a4_15 rfl (lv_at hl 0 rfl) ?_
  refine lv_iconst (v := (2 : Int32)) hx hb dJ6_bitCount_0f7a4_16 (by decide) ?_
  refine lv_iushr hx hb dJ6_bitCount_0f7a4_17 rfl ?_
  refine lv_ldcw (v := (858993459 : Int32)) hx hb C.1.2.2.2.1 (C.1.2.2.2.2 _ tk_RJ6_266) dJ6_bitCount_0f7a4_18 ?_
  refine lv_iand hx hb dJ6_bitCount_0f7a4_21 ?_
  refine lv_iadd hx hb dJ6_bitCount_0f7a4_22 ?_
  refine lv_topi (fun v2 ev2 => ?_)
  have hf := xlet_e ev2 hf
  refine lv_istore_n (lv' := [(0, .int v2)]) hx hb dJ6_bitCount_0f7a4_23 rfl hl (by decide) rfl (fun ls hl => ?_)
  refine lv_iload_n hx hb dJ6_bitCount_0f7a4_24 rfl (lv_at hl 0 rfl) ?_
  refine lv_iload_n hx hb dJ6_bitCount_0f7a4_25 rfl (lv_at hl 0 rfl) ?_
  refine lv_iconst (v := (4 : Int32)) hx hb dJ6_bitCount_0f7a4_26 (by decide) ?_
  refine lv_iushr hx hb dJ6_bitCount_0f7a4_27 rfl ?_
  refine lv_iadd hx hb dJ6_bitCount_0f7a4_28 ?_
  refine lv_ldcw (v := (252645135 : Int32)) hx hb C.1.2.2.2.1 (C.1.2.2.2.2 _ tk_RJ6_267) dJ6_bitCount_0f7a4_29 ?_
  refine lv_iand hx hb dJ6_bitCount_0f7a4_32 ?_
  refine lv_topi (fun v3 ev3 => ?_)
  have hf := xlet_e ev3 hf
  refine lv_istore_n (lv' := [(0, .int v3)]) hx hb dJ6_bitCount_0f7a4_33 rfl hl (by decide) rfl (fun ls hl => ?_)
  refine lv_iload_n hx hb dJ6_bitCount_0f7a4_34 rfl (lv_at hl 0 rfl) ?_
  refine lv_iload_n hx hb dJ6_bitCount_0f7a4_35 rfl (lv_at hl 0 rfl) ?_
  refine lv_bipush (v := (8 : Int32)) hx hb dJ6_bitCount_0f7a4_36 (by decide) ?_
  refine lv_iushr hx hb dJ6_bitCount_0f7a4_38 rfl ?_
  refine lv_iadd hx hb dJ6_bitCount_0f7a4_39 ?_
  refine lv_topi (fun v4 ev4 => ?_)
  have hf := xlet_e ev4 hf
  refine lv_istore_n (lv' := [(0, .int v4)]) hx hb dJ6_bitCount_0f7a4_40 rfl hl (by decide) rfl (fun ls hl => ?_)
  refine lv_iload_n hx hb dJ6_bitCount_0f7a4_41 rfl (lv_at hl 0 rfl) ?_
  refine lv_iload_n hx hb dJ6_bitCount_0f7a4_42 rfl (lv_at hl 0 rfl) ?_
  refine lv_bipush (v := (16 : Int32)) hx hb dJ6_bitCount_0f7a4_43 (by decide) ?_
  refine lv_iushr hx hb dJ6_bitCount_0f7a4_45 rfl ?_
  refine lv_iadd hx hb dJ6_bitCount_0f7a4_46 ?_
  refine lv_topi (fun v5 ev5 => ?_)
  have hf := xlet_e ev5 hf
  refine lv_istore_n (lv' := [(0, .int v5)]) hx hb dJ6_bitCount_0f7a4_47 rfl hl (by decide) rfl (fun ls hl => ?_)
  refine lv_iload_n hx hb dJ6_bitCount_0f7a4_48 rfl (lv_at hl 0 rfl) ?_
  refine lv_bipush (v := (63 : Int32)) hx hb dJ6_bitCount_0f7a4_49 (by decide) ?_
  refine lv_iand hx hb dJ6_bitCount_0f7a4_51 ?_
  cases hf
  exact x_iret C hm trivial dJ6_bitCount_0f7a4_52
/-! java/util/Arrays.fill([II)V -/
theorem dJ7_fill_53178_0 : decode cJ7_fill_53178 0 = .ok (.iconst 0, 1) := by decide +kernel
theorem dJ7_fill_53178_1 : decode cJ7_fill_53178 1 = .ok (.istore_n 2, 1) := by decide +kernel
theorem dJ7_fill_53178_2 : decode cJ7_fill_53178 2 = .ok (.aload_n 0, 1) := by decide +kernel
theorem dJ7_fill_53178_3 : decode cJ7_fill_53178 3 = .ok (.arraylength, 1) := by decide +kernel
theorem dJ7_fill_53178_4 : decode cJ7_fill_53178 4 = .ok (.istore_n 3, 1) := by decide +kernel
theorem dJ7_fill_53178_5 : decode cJ7_fill_53178 5 = .ok (.iload_n 2, 1) := by decide +kernel
theorem dJ7_fill_53178_6 : decode cJ7_fill_53178 6 = .ok (.iload_n 3, 1) := by decide +kernel
theorem dJ7_fill_53178_7 : decode cJ7_fill_53178 7 = .ok (.if_icmp .ge 13, 3) := by decide +kernel
theorem dJ7_fill_53178_10 : decode cJ7_fill_53178 10 = .ok (.aload_n 0, 1) := by decide +kernel
theorem dJ7_fill_53178_11 : decode cJ7_fill_53178 11 = .ok (.iload_n 2, 1) := by decide +kernel
theorem dJ7_fill_53178_12 : decode cJ7_fill_53178 12 = .ok (.iload_n 1, 1) := by decide +kernel
theorem dJ7_fill_53178_13 : decode cJ7_fill_53178 13 = .ok (.iastore, 1) := by decide +kernel
theorem dJ7_fill_53178_14 : decode cJ7_fill_53178 14 = .ok (.iinc 2 1, 3) := by decide +kernel
theorem dJ7_fill_53178_17 : decode cJ7_fill_53178 17 = .ok (.goto (-12), 3) := by decide +kernel
theorem dJ7_fill_53178_20 : decode cJ7_fill_53178 20 = .ok (.return_, 1) := by decide +kernel
def g_J7_fill_53178_5 (o2 no2 : Nat) (x3 : Int32) (x5 : Int32) : Nat → xm → Int32 → Option ((xm))
  | 0, _, _ => none
  | n + 1, M6, x4 => (if x5 ≤ x4 then some (M6) else if xin x4 no2 = true then xlet (up2 M6 o2 (Int32.toNatClampNeg x4) x3) (fun M10 => xlet (x4 + (1 : Int32)) (fun v11 => g_J7_fill_53178_5 o2 no2 x3 x5 n M10 v11)) else none)
def f_J7_fill_53178 (u0 nu0 : Nat) (M : xm) (a1 : Int32) : Option (xm) := xlet (Int32.ofNat nu0) (fun v1 => xb1 (g_J7_fill_53178_5 u0 nu0 a1 v1 xfuel M (0 : Int32)) (fun M12 => some M12))
set_option maxHeartbeats 4000000 in
set_option maxRecDepth 20000 in
theorem j_J7_fill_53178_5 {p : Program} {l : Launch} {e : Env} {s : State} {m : MethodId} {args : Array Value} {below : List Frame} {meth : Method} {c : Code} {Q : State → Prop} {E : xE} {b : Nat} (C : xC p s m args meth c cJ7_fill_53178 4 RJ7 none E b) {o2 no2 : Nat} (A_o2 : lay o2 = (10, no2)) (x3 : Int32) (x5 : Int32) {y7 : xm}
    (kx0 : ∀ (H : Heap) (locs : List Loc) (ls : Array Slot), xM E b NX (cX E b y7) s.heap H locs → lv_has ls 4 [] → W p l e (xR 1) s m args below meth c H locs 0 0 Q (F0 m 20 ls [])) :
    ∀ (n : Nat) (M6 : xm) (x4 : Int32) (H : Heap) (locs : List Loc) (ls : Array Slot), g_J7_fill_53178_5 o2 no2 x3 x5 n M6 x4 = some y7 → xM E b NX (cX E b M6) s.heap H locs → lv_has ls 4 [(0, .ref (b + o2)), (1, .int x3), (2, .int x4), (3, .int x5)] → W p l e (xR 1) s m args below meth c H locs 0 0 Q (F0 m 5 ls []) := by
  have hx := C.1.1
  have hb := C.1.2.1
  intro n
  induction n with
  | zero =>
    intro M6 x4 H locs ls hf hm hl
    rw [g_J7_fill_53178_5] at hf
    cases hf
  | succ n ih =>
    intro M6 x4 H locs ls hf hm hl
    rw [g_J7_fill_53178_5] at hf
    refine lv_iload_n hx hb dJ7_fill_53178_5 rfl (lv_at hl 2 rfl) ?_
    refine lv_iload_n hx hb dJ7_fill_53178_6 rfl (lv_at hl 3 rfl) ?_
    refine lv_icmp_ge (tgt := 20) hx hb dJ7_fill_53178_7 (by decide) (fun hc8 => ?_) (fun hc8 => ?_)
    · have hf := xif_t hc8 hf
      cases hf
      exact kx0 H locs ls hm (lv_sub hl [] rfl)
    have hf := xif_f hc8 hf
    refine lv_aload_n hx hb dJ7_fill_53178_10 rfl (lv_at hl 0 rfl) ?_
    refine lv_iload_n hx hb dJ7_fill_53178_11 rfl (lv_at hl 2 rfl) ?_
    refine lv_iload_n hx hb dJ7_fill_53178_12 rfl (lv_at hl 1 rfl) ?_
    obtain ⟨hi9, hf⟩ := xif_s hf
    obtain ⟨M10, eM10, hf⟩ := xlet_x hf
    refine x_iast (j := (Int32.toNatClampNeg x4)) (cf' := cX E b M10) C hm (cx_I A_o2) hi9 dJ7_fill_53178_13 rfl (by rw [eM10]; exact cu_I A_o2) (by rw [eM10]; exact cX_o) (fun H locs hm => ?_)
    obtain ⟨v11, ev11, hf⟩ := xlet_x hf
    refine lv_iinc (v := v11) (lv' := [(2, .int v11), (0, .ref (b + o2)), (1, .int x3), (3, .int x5)]) hx hb dJ7_fill_53178_14 hl (k := 2) rfl (by rw [ev11]; rfl) (by decide) rfl (fun ls hl => ?_)
    refine lv_goto (tgt := 5) hx hb dJ7_fill_53178_17 (by decide) ?_
    exact ih M10 v11 H locs ls hf hm (lv_sub hl [1, 2, 0, 3] rfl)
set_option maxHeartbeats 4000000 in
set_option maxRecDepth 20000 in
theorem c_J7_fill_53178 (l : Launch) (E : xE) (b : Nat) {u0 nu0 : Nat} (A_u0 : lay u0 = (10, nu0)) (M : xm) (a1 : Int32) {M' : xm} (hf : f_J7_fill_53178 u0 nu0 M a1 = some M') :
    xMet l E b NX yJ7_fill_53178 cJ7_fill_53178 4 none (xR 1) [.ref (b + u0), .int a1] (cX E b M) none True (cX E b M') := by
  refine xMet.ofW (own := RJ7) (by decide) rfl (Nat.le_of_ble_eq_true rfl) ?_
  intro p e s m below meth c H locs ls C hm hl
  have hx := C.1.1
  have hb := C.1.2.1
  have hl : lv_has ls 4 [(0, .ref (b + u0)), (1, .int a1)] := hl
  unfold f_J7_fill_53178 at hf
  refine lv_iconst (v := (0 : Int32)) hx hb dJ7_fill_53178_0 (by decide) ?_
  refine lv_istore_n (lv' := [(2, .int (0 : Int32)), (0, .ref (b + u0)), (1, .int a1)]) hx hb dJ7_fill_53178_1 rfl hl (by decide) rfl (fun ls hl => ?_)
  refine lv_aload_n hx hb dJ7_fill_53178_2 rfl (lv_at hl 1 rfl) ?_
  refine x_alen (v := (Int32.ofNat nu0)) C hm (cx_I A_u0) rfl dJ7_fill_53178_3 ?_
  refine lv_topi (fun v1 ev1 => ?_)
  have hf := xlet_e ev1 hf
  refine lv_istore_n (lv' := [(3, .int v1), (2, .int (0 : Int32)), (0, .ref (b + u0)), (1, .int a1)]) hx hb dJ7_fill_53178_4 rfl hl (by decide) rfl (fun ls hl => ?_)
  obtain ⟨M12, hq, hf⟩ := xb1_e hf
  refine j_J7_fill_53178_5 C A_u0 a1 v1 (fun H locs ls hm hl => ?_) xfuel M (0 : Int32) H locs ls hq hm (lv_sub hl [2, 3, 1, 0] rfl)
  cases hf
  exact x_vret C hm trivial dJ7_fill_53178_20
/-! ColouredHeap$Book.part(II)I -/
theorem dX0_part_0 : decode cX0_part 0 = .ok (.iload_n 1, 1) := by decide +kernel
theorem dX0_part_1 : decode cX0_part 1 = .ok (.ifCond .lt 20, 3) := by decide +kernel
theorem dX0_part_4 : decode cX0_part 4 = .ok (.iload_n 1, 1) := by decide +kernel
theorem dX0_part_5 : decode cX0_part 5 = .ok (.aload_n 0, 1) := by decide +kernel
theorem dX0_part_6 : decode cX0_part 6 = .ok (.getfield 19, 3) := by decide +kernel
theorem dX0_part_9 : decode cX0_part 9 = .ok (.if_icmp .ge 12, 3) := by decide +kernel
theorem dX0_part_12 : decode cX0_part 12 = .ok (.iload_n 2, 1) := by decide +kernel
theorem dX0_part_13 : decode cX0_part 13 = .ok (.ifCond .lt 8, 3) := by decide +kernel
theorem dX0_part_16 : decode cX0_part 16 = .ok (.iload_n 2, 1) := by decide +kernel
theorem dX0_part_17 : decode cX0_part 17 = .ok (.iconst 3, 1) := by decide +kernel
theorem dX0_part_18 : decode cX0_part 18 = .ok (.if_icmp .lt 6, 3) := by decide +kernel
theorem dX0_part_21 : decode cX0_part 21 = .ok (.bipush (-2), 2) := by decide +kernel
theorem dX0_part_23 : decode cX0_part 23 = .ok (.ireturn, 1) := by decide +kernel
theorem dX0_part_24 : decode cX0_part 24 = .ok (.aload_n 0, 1) := by decide +kernel
theorem dX0_part_25 : decode cX0_part 25 = .ok (.getfield 15, 3) := by decide +kernel
theorem dX0_part_28 : decode cX0_part 28 = .ok (.iload_n 1, 1) := by decide +kernel
theorem dX0_part_29 : decode cX0_part 29 = .ok (.iadd, 1) := by decide +kernel
theorem dX0_part_30 : decode cX0_part 30 = .ok (.bipush 25, 2) := by decide +kernel
theorem dX0_part_32 : decode cX0_part 32 = .ok (.irem, 1) := by decide +kernel
theorem dX0_part_33 : decode cX0_part 33 = .ok (.iconst 3, 1) := by decide +kernel
theorem dX0_part_34 : decode cX0_part 34 = .ok (.imul, 1) := by decide +kernel
theorem dX0_part_35 : decode cX0_part 35 = .ok (.iload_n 2, 1) := by decide +kernel
theorem dX0_part_36 : decode cX0_part 36 = .ok (.iadd, 1) := by decide +kernel
theorem dX0_part_37 : decode cX0_part 37 = .ok (.istore_n 3, 1) := by decide +kernel
theorem dX0_part_38 : decode cX0_part 38 = .ok (.iload_n 3, 1) := by decide +kernel
theorem dX0_part_39 : decode cX0_part 39 = .ok (.ifCond .lt 21, 3) := by decide +kernel
theorem dX0_part_42 : decode cX0_part 42 = .ok (.iload_n 3, 1) := by decide +kernel
theorem dX0_part_43 : decode cX0_part 43 = .ok (.aload_n 0, 1) := by decide +kernel
theorem dX0_part_44 : decode cX0_part 44 = .ok (.getfield 9, 3) := by decide +kernel
theorem dX0_part_47 : decode cX0_part 47 = .ok (.arraylength, 1) := by decide +kernel
theorem dX0_part_48 : decode cX0_part 48 = .ok (.if_icmp .ge 12, 3) := by decide +kernel
theorem dX0_part_51 : decode cX0_part 51 = .ok (.aload_n 0, 1) := by decide +kernel
theorem dX0_part_52 : decode cX0_part 52 = .ok (.getfield 9, 3) := by decide +kernel
theorem dX0_part_55 : decode cX0_part 55 = .ok (.iload_n 3, 1) := by decide +kernel
theorem dX0_part_56 : decode cX0_part 56 = .ok (.iaload, 1) := by decide +kernel
theorem dX0_part_57 : decode cX0_part 57 = .ok (.goto 5, 3) := by decide +kernel
theorem dX0_part_60 : decode cX0_part 60 = .ok (.bipush (-2), 2) := by decide +kernel
theorem dX0_part_62 : decode cX0_part 62 = .ok (.ireturn, 1) := by decide +kernel
def f_X0_part (u0 : Nat) (M : xm) (a1 : Int32) (a2 : Int32) : Option (Int32) := (if a1 < 0 then some (-2 : Int32) else (if (M u0 2) ≤ a1 then some (-2 : Int32) else (if a2 < 0 then some (-2 : Int32) else (if a2 < (3 : Int32) then xlet (((xrem ((M u0 1) + a1) (25 : Int32)) * (3 : Int32)) + a2) (fun v5 => (if v5 < 0 then some (-2 : Int32) else (if (75 : Int32) ≤ v5 then some (-2 : Int32) else if xin v5 75 = true then some (M (u0 + 1) (Int32.toNatClampNeg v5)) else none))) else some (-2 : Int32)))))
set_option maxHeartbeats 4000000 in
set_option maxRecDepth 20000 in
theorem c_X0_part (l : Launch) (E : xE) (b : Nat) {u0 : Nat} (L_u0 : lat u0 pBook) (M : xm) (a1 : Int32) (a2 : Int32) {r : Int32} (hf : f_X0_part u0 M a1 a2 = some r) :
    xMet l E b NX yX0_part cX0_part 4 (some .int) (xR 1) [.ref (b + u0), .int a1, .int a2] (cX E b M) (some (.int r)) True (cX E b M) := by
  refine xMet.ofW (own := RX0) (by decide) rfl (Nat.le_of_ble_eq_true rfl) ?_
  intro p e s m below meth c H locs ls C hm hl
  have hx := C.1.1
  have hb := C.1.2.1
  have hl : lv_has ls 4 [(0, .ref (b + u0)), (1, .int a1), (2, .int a2)] := hl
  unfold f_X0_part at hf
  refine lv_iload_n hx hb dX0_part_0 rfl (lv_at hl 1 rfl) ?_
  refine lv_if_lt (tgt := 21) hx hb dX0_part_1 (by decide) (fun hc1 => ?_) (fun hc1 => ?_)
  · have hf := xif_t hc1 hf
    refine lv_bipush (v := (-2 : Int32)) hx hb dX0_part_21 (by decide) ?_
    cases hf
    exact x_iret C hm trivial dX0_part_23
  have hf := xif_f hc1 hf
  refine lv_iload_n hx hb dX0_part_4 rfl (lv_at hl 1 rfl) ?_
  refine lv_aload_n hx hb dX0_part_5 rfl (lv_at hl 0 rfl) ?_
  refine x_get C hm inX0 rfl 2 (by decide) tf_RX0_19 (cx_Book (L_u0 0 _ rfl)) rfl dX0_part_6 ?_
  refine lv_icmp_ge (tgt := 21) hx hb dX0_part_9 (by decide) (fun hc2 => ?_) (fun hc2 => ?_)
  · have hf := xif_t hc2 hf
    refine lv_bipush (v := (-2 : Int32)) hx hb dX0_part_21 (by decide) ?_
    cases hf
    exact x_iret C hm trivial dX0_part_23
  have hf := xif_f hc2 hf
  refine lv_iload_n hx hb dX0_part_12 rfl (lv_at hl 2 rfl) ?_
  refine lv_if_lt (tgt := 21) hx hb dX0_part_13 (by decide) (fun hc3 => ?_) (fun hc3 => ?_)
  · have hf := xif_t hc3 hf
    refine lv_bipush (v := (-2 : Int32)) hx hb dX0_part_21 (by decide) ?_
    cases hf
    exact x_iret C hm trivial dX0_part_23
  have hf := xif_f hc3 hf
  refine lv_iload_n hx hb dX0_part_16 rfl (lv_at hl 2 rfl) ?_
  refine lv_iconst (v := (3 : Int32)) hx hb dX0_part_17 (by decide) ?_
  refine lv_icmp_lt (tgt := 24) hx hb dX0_part_18 (by decide) (fun hc4 => ?_) (fun hc4 => ?_)
  rotate_left
  · have hf := xif_f hc4 hf
    refine lv_bipush (v := (-2 : Int32)) hx hb dX0_part_21 (by decide) ?_
    cases hf
    exact x_iret C hm trivial dX0_part_23
  have hf := xif_t hc4 hf
  refine lv_aload_n hx hb dX0_part_24 rfl (lv_at hl 0 rfl) ?_
  refine x_get C hm inX0 rfl 1 (by decide) tf_RX0_15 (cx_Book (L_u0 0 _ rfl)) rfl dX0_part_25 ?_
  refine lv_iload_n hx hb dX0_part_28 rfl (lv_at hl 1 rfl) ?_
  refine lv_iadd hx hb dX0_part_29 ?_
  refine lv_bipush (v := (25 : Int32)) hx hb dX0_part_30 (by decide) ?_
  refine lv_irem hx hb dX0_part_32 (by decide) ?_
  refine lv_iconst (v := (3 : Int32)) hx hb dX0_part_33 (by decide) ?_
  refine lv_imul hx hb dX0_part_34 ?_
  refine lv_iload_n hx hb dX0_part_35 rfl (lv_at hl 2 rfl) ?_
  refine lv_iadd hx hb dX0_part_36 ?_
  refine lv_topi (fun v5 ev5 => ?_)
  have hf := xlet_e ev5 hf
  refine lv_istore_n (lv' := [(3, .int v5), (0, .ref (b + u0)), (1, .int a1), (2, .int a2)]) hx hb dX0_part_37 rfl hl (by decide) rfl (fun ls hl => ?_)
  refine lv_iload_n hx hb dX0_part_38 rfl (lv_at hl 0 rfl) ?_
  refine lv_if_lt (tgt := 60) hx hb dX0_part_39 (by decide) (fun hc6 => ?_) (fun hc6 => ?_)
  · have hf := xif_t hc6 hf
    refine lv_bipush (v := (-2 : Int32)) hx hb dX0_part_60 (by decide) ?_
    cases hf
    exact x_iret C hm trivial dX0_part_62
  have hf := xif_f hc6 hf
  refine lv_iload_n hx hb dX0_part_42 rfl (lv_at hl 0 rfl) ?_
  refine lv_aload_n hx hb dX0_part_43 rfl (lv_at hl 1 rfl) ?_
  refine x_get C hm inX0 rfl 0 (by decide) tf_RX0_9 (cx_Book (L_u0 0 _ rfl)) rfl dX0_part_44 ?_
  refine x_alen (v := (75 : Int32)) C hm (cx_I (L_u0 1 _ rfl)) (by decide) dX0_part_47 ?_
  refine lv_icmp_ge (tgt := 60) hx hb dX0_part_48 (by decide) (fun hc7 => ?_) (fun hc7 => ?_)
  · have hf := xif_t hc7 hf
    refine lv_bipush (v := (-2 : Int32)) hx hb dX0_part_60 (by decide) ?_
    cases hf
    exact x_iret C hm trivial dX0_part_62
  have hf := xif_f hc7 hf
  refine lv_aload_n hx hb dX0_part_51 rfl (lv_at hl 1 rfl) ?_
  refine x_get C hm inX0 rfl 0 (by decide) tf_RX0_9 (cx_Book (L_u0 0 _ rfl)) rfl dX0_part_52 ?_
  refine lv_iload_n hx hb dX0_part_55 rfl (lv_at hl 0 rfl) ?_
  obtain ⟨hi8, hf⟩ := xif_s hf
  refine x_iald (j := (Int32.toNatClampNeg v5)) C hm (cx_I (L_u0 1 _ rfl)) hi8 dX0_part_56 rfl ?_
  refine lv_goto (tgt := 62) hx hb dX0_part_57 (by decide) ?_
  cases hf
  exact x_iret C hm trivial dX0_part_62
/-! ColouredHeap$Book.linesOf(I)I -/
theorem dX0_linesOf_0 : decode cX0_linesOf 0 = .ok (.iconst 0, 1) := by decide +kernel
theorem dX0_linesOf_1 : decode cX0_linesOf 1 = .ok (.istore_n 2, 1) := by decide +kernel
theorem dX0_linesOf_2 : decode cX0_linesOf 2 = .ok (.iconst 0, 1) := by decide +kernel
theorem dX0_linesOf_3 : decode cX0_linesOf 3 = .ok (.istore_n 3, 1) := by decide +kernel
theorem dX0_linesOf_4 : decode cX0_linesOf 4 = .ok (.iload_n 3, 1) := by decide +kernel
theorem dX0_linesOf_5 : decode cX0_linesOf 5 = .ok (.aload_n 0, 1) := by decide +kernel
theorem dX0_linesOf_6 : decode cX0_linesOf 6 = .ok (.getfield 19, 3) := by decide +kernel
theorem dX0_linesOf_9 : decode cX0_linesOf 9 = .ok (.if_icmp .ge 22, 3) := by decide +kernel
theorem dX0_linesOf_12 : decode cX0_linesOf 12 = .ok (.aload_n 0, 1) := by decide +kernel
theorem dX0_linesOf_13 : decode cX0_linesOf 13 = .ok (.iload_n 3, 1) := by decide +kernel
theorem dX0_linesOf_14 : decode cX0_linesOf 14 = .ok (.iconst 1, 1) := by decide +kernel
theorem dX0_linesOf_15 : decode cX0_linesOf 15 = .ok (.invokevirtual 28, 3) := by decide +kernel
theorem dX0_linesOf_18 : decode cX0_linesOf 18 = .ok (.iload_n 1, 1) := by decide +kernel
theorem dX0_linesOf_19 : decode cX0_linesOf 19 = .ok (.if_icmp .ne 6, 3) := by decide +kernel
theorem dX0_linesOf_22 : decode cX0_linesOf 22 = .ok (.iinc 2 1, 3) := by decide +kernel
theorem dX0_linesOf_25 : decode cX0_linesOf 25 = .ok (.iinc 3 1, 3) := by decide +kernel
theorem dX0_linesOf_28 : decode cX0_linesOf 28 = .ok (.goto (-24), 3) := by decide +kernel
theorem dX0_linesOf_31 : decode cX0_linesOf 31 = .ok (.iload_n 2, 1) := by decide +kernel
theorem dX0_linesOf_32 : decode cX0_linesOf 32 = .ok (.ireturn, 1) := by decide +kernel
def g_X0_linesOf_4 (o1 : Nat) (M : xm) (x2 : Int32) : Nat → Int32 → Int32 → Option ((Int32))
  | 0, _, _ => none
  | n + 1, x3, x4 => (if (M o1 2) ≤ x4 then some (x3) else xb1 (f_X0_part o1 M x4 (1 : Int32)) (fun v8 => (if v8 = x2 then xlet (x3 + (1 : Int32)) (fun v12 => xlet (x4 + (1 : Int32)) (fun v13 => g_X0_linesOf_4 o1 M x2 n v12 v13)) else xlet (x4 + (1 : Int32)) (fun v11 => g_X0_linesOf_4 o1 M x2 n x3 v11))))
def f_X0_linesOf (u0 : Nat) (M : xm) (a1 : Int32) : Option (Int32) := xb1 (g_X0_linesOf_4 u0 M a1 xfuel (0 : Int32) (0 : Int32)) (fun v14 => some v14)
set_option maxHeartbeats 4000000 in
set_option maxRecDepth 20000 in
theorem j_X0_linesOf_4 {p : Program} {l : Launch} {e : Env} {s : State} {m : MethodId} {args : Array Value} {below : List Frame} {meth : Method} {c : Code} {Q : State → Prop} {E : xE} {b : Nat} (C : xC p s m args meth c cX0_linesOf 4 RX0 (some .int) E b) {o1 : Nat} (L_o1 : lat o1 pBook) (M : xm) (x2 : Int32) {y5 : Int32}
    (kx0 : ∀ (H : Heap) (locs : List Loc) (ls : Array Slot), xM E b NX (cX E b M) s.heap H locs → lv_has ls 4 [(2, .int y5)] → W p l e (xR 2) s m args below meth c H locs 0 0 Q (F0 m 31 ls [])) :
    ∀ (n : Nat) (x3 : Int32) (x4 : Int32) (H : Heap) (locs : List Loc) (ls : Array Slot), g_X0_linesOf_4 o1 M x2 n x3 x4 = some y5 → xM E b NX (cX E b M) s.heap H locs → lv_has ls 4 [(0, .ref (b + o1)), (1, .int x2), (2, .int x3), (3, .int x4)] → W p l e (xR 2) s m args below meth c H locs 0 0 Q (F0 m 4 ls []) := by
  have hx := C.1.1
  have hb := C.1.2.1
  intro n
  induction n with
  | zero =>
    intro x3 x4 H locs ls hf hm hl
    rw [g_X0_linesOf_4] at hf
    cases hf
  | succ n ih =>
    intro x3 x4 H locs ls hf hm hl
    rw [g_X0_linesOf_4] at hf
    refine lv_iload_n hx hb dX0_linesOf_4 rfl (lv_at hl 3 rfl) ?_
    refine lv_aload_n hx hb dX0_linesOf_5 rfl (lv_at hl 0 rfl) ?_
    refine x_get C hm inX0 rfl 2 (by decide) tf_RX0_19 (cx_Book (L_o1 0 _ rfl)) rfl dX0_linesOf_6 ?_
    refine lv_icmp_ge (tgt := 31) hx hb dX0_linesOf_9 (by decide) (fun hc6 => ?_) (fun hc6 => ?_)
    · have hf := xif_t hc6 hf
      cases hf
      exact kx0 H locs ls hm (lv_sub hl [2] rfl)
    have hf := xif_f hc6 hf
    refine lv_aload_n hx hb dX0_linesOf_12 rfl (lv_at hl 0 rfl) ?_
    refine lv_iload_n hx hb dX0_linesOf_13 rfl (lv_at hl 3 rfl) ?_
    refine lv_iconst (v := (1 : Int32)) hx hb dX0_linesOf_14 (by decide) ?_
    obtain ⟨v8, hq7, hf⟩ := xb1_e hf
    refine x_callVi (As := [.int x4, .int (1 : Int32)]) (rest := []) C hm (c_X0_part l E b L_o1 M x4 (1 : Int32) hq7) rfl (cx_Book (L_o1 0 _ rfl)) tc_X0_part tm_RX0_28 ti_X0_part ts_X0_part tn_RX0 td_X0_part rfl rfl ⟨Nat.le_of_ble_eq_true rfl, Nat.le_of_ble_eq_true rfl⟩ rfl hl.1 rfl (Nat.le_of_ble_eq_true rfl) ⟨Nat.zero_le _, Nat.zero_le _⟩ dX0_linesOf_15 (fun H locs hP9 hm => ?_)
    refine lv_iload_n hx hb dX0_linesOf_18 rfl (lv_at hl 1 rfl) ?_
    refine lv_icmp_ne (tgt := 25) hx hb dX0_linesOf_19 (by decide) (fun hc10 => ?_) (fun hc10 => ?_)
    · have hf := xif_f hc10 hf
      obtain ⟨v11, ev11, hf⟩ := xlet_x hf
      refine lv_iinc (v := v11) (lv' := [(3, .int v11), (0, .ref (b + o1)), (1, .int x2), (2, .int x3)]) hx hb dX0_linesOf_25 hl (k := 3) rfl (by rw [ev11]; rfl) (by decide) rfl (fun ls hl => ?_)
      refine lv_goto (tgt := 4) hx hb dX0_linesOf_28 (by decide) ?_
      exact ih x3 v11 H locs ls hf hm (lv_sub hl [1, 2, 3, 0] rfl)
    have hf := xif_t hc10 hf
    obtain ⟨v12, ev12, hf⟩ := xlet_x hf
    refine lv_iinc (v := v12) (lv' := [(2, .int v12), (0, .ref (b + o1)), (1, .int x2), (3, .int x4)]) hx hb dX0_linesOf_22 hl (k := 2) rfl (by rw [ev12]; rfl) (by decide) rfl (fun ls hl => ?_)
    obtain ⟨v13, ev13, hf⟩ := xlet_x hf
    refine lv_iinc (v := v13) (lv' := [(3, .int v13), (2, .int v12), (0, .ref (b + o1)), (1, .int x2)]) hx hb dX0_linesOf_25 hl (k := 3) rfl (by rw [ev13]; rfl) (by decide) rfl (fun ls hl => ?_)
    refine lv_goto (tgt := 4) hx hb dX0_linesOf_28 (by decide) ?_
    exact ih v12 v13 H locs ls hf hm (lv_sub hl [2, 3, 1, 0] rfl)
set_option maxHeartbeats 4000000 in
set_option maxRecDepth 20000 in
theorem c_X0_linesOf (l : Launch) (E : xE) (b : Nat) {u0 : Nat} (L_u0 : lat u0 pBook) (M : xm) (a1 : Int32) {r : Int32} (hf : f_X0_linesOf u0 M a1 = some r) :
    xMet l E b NX yX0_linesOf cX0_linesOf 4 (some .int) (xR 2) [.ref (b + u0), .int a1] (cX E b M) (some (.int r)) True (cX E b M) := by
  refine xMet.ofW (own := RX0) (by decide) rfl (Nat.le_of_ble_eq_true rfl) ?_
  intro p e s m below meth c H locs ls C hm hl
  have hx := C.1.1
  have hb := C.1.2.1
  have hl : lv_has ls 4 [(0, .ref (b + u0)), (1, .int a1)] := hl
  unfold f_X0_linesOf at hf
  refine lv_iconst (v := (0 : Int32)) hx hb dX0_linesOf_0 (by decide) ?_
  refine lv_istore_n (lv' := [(2, .int (0 : Int32)), (0, .ref (b + u0)), (1, .int a1)]) hx hb dX0_linesOf_1 rfl hl (by decide) rfl (fun ls hl => ?_)
  refine lv_iconst (v := (0 : Int32)) hx hb dX0_linesOf_2 (by decide) ?_
  refine lv_istore_n (lv' := [(3, .int (0 : Int32)), (2, .int (0 : Int32)), (0, .ref (b + u0)), (1, .int a1)]) hx hb dX0_linesOf_3 rfl hl (by decide) rfl (fun ls hl => ?_)
  obtain ⟨v14, hq, hf⟩ := xb1_e hf
  refine j_X0_linesOf_4 C L_u0 M a1 (fun H locs ls hm hl => ?_) xfuel (0 : Int32) (0 : Int32) H locs ls hq hm (lv_sub hl [2, 3, 1, 0] rfl)
  refine lv_iload_n hx hb dX0_linesOf_31 rfl (lv_at hl 0 rfl) ?_
  cases hf
  exact x_iret C hm trivial dX0_linesOf_32
/-! ColouredHeap$Book.takeOver(LColouredHeap$Book;)V -/
theorem dX0_takeOver_0 : decode cX0_takeOver 0 = .ok (.aload_n 1, 1) := by decide +kernel
theorem dX0_takeOver_1 : decode cX0_takeOver 1 = .ok (.getfield 9, 3) := by decide +kernel
theorem dX0_takeOver_4 : decode cX0_takeOver 4 = .ok (.iconst 0, 1) := by decide +kernel
theorem dX0_takeOver_5 : decode cX0_takeOver 5 = .ok (.aload_n 0, 1) := by decide +kernel
theorem dX0_takeOver_6 : decode cX0_takeOver 6 = .ok (.getfield 9, 3) := by decide +kernel
theorem dX0_takeOver_9 : decode cX0_takeOver 9 = .ok (.iconst 0, 1) := by decide +kernel
theorem dX0_takeOver_10 : decode cX0_takeOver 10 = .ok (.bipush 75, 2) := by decide +kernel
theorem dX0_takeOver_12 : decode cX0_takeOver 12 = .ok (.invokestatic 22, 3) := by decide +kernel
theorem dX0_takeOver_15 : decode cX0_takeOver 15 = .ok (.aload_n 0, 1) := by decide +kernel
theorem dX0_takeOver_16 : decode cX0_takeOver 16 = .ok (.aload_n 1, 1) := by decide +kernel
theorem dX0_takeOver_17 : decode cX0_takeOver 17 = .ok (.getfield 15, 3) := by decide +kernel
theorem dX0_takeOver_20 : decode cX0_takeOver 20 = .ok (.putfield 15, 3) := by decide +kernel
theorem dX0_takeOver_23 : decode cX0_takeOver 23 = .ok (.aload_n 0, 1) := by decide +kernel
theorem dX0_takeOver_24 : decode cX0_takeOver 24 = .ok (.aload_n 1, 1) := by decide +kernel
theorem dX0_takeOver_25 : decode cX0_takeOver 25 = .ok (.getfield 19, 3) := by decide +kernel
theorem dX0_takeOver_28 : decode cX0_takeOver 28 = .ok (.putfield 19, 3) := by decide +kernel
theorem dX0_takeOver_31 : decode cX0_takeOver 31 = .ok (.return_, 1) := by decide +kernel
def f_X0_takeOver (u0 : Nat) (u1 : Nat) (M : xm) : Option (xm) := xlet (xcopy M (u1 + 1) (u0 + 1) 75) (fun M1 => xlet (up2 M1 u0 1 (M1 u1 1)) (fun M2 => xlet (up2 M2 u0 2 (M2 u1 2)) (fun M3 => some M3)))
set_option maxHeartbeats 4000000 in
set_option maxRecDepth 20000 in
theorem c_X0_takeOver (l : Launch) (E : xE) (b : Nat) {u0 : Nat} (L_u0 : lat u0 pBook) {u1 : Nat} (L_u1 : lat u1 pBook) (M : xm) {M' : xm} (hf : f_X0_takeOver u0 u1 M = some M') :
    xMet l E b NX yX0_takeOver cX0_takeOver 2 none (xR 2) [.ref (b + u0), .ref (b + u1)] (cX E b M) none True (cX E b M') := by
  refine xMet.ofW (own := RX0) (by decide) rfl (Nat.le_of_ble_eq_true rfl) ?_
  intro p e s m below meth c H locs ls C hm hl
  have hx := C.1.1
  have hb := C.1.2.1
  have hl : lv_has ls 2 [(0, .ref (b + u0)), (1, .ref (b + u1))] := hl
  unfold f_X0_takeOver at hf
  refine lv_aload_n hx hb dX0_takeOver_0 rfl (lv_at hl 1 rfl) ?_
  refine x_get C hm inX0 rfl 0 (by decide) tf_RX0_9 (cx_Book (L_u1 0 _ rfl)) rfl dX0_takeOver_1 ?_
  refine lv_iconst (v := (0 : Int32)) hx hb dX0_takeOver_4 (by decide) ?_
  refine lv_aload_n hx hb dX0_takeOver_5 rfl (lv_at hl 0 rfl) ?_
  refine x_get C hm inX0 rfl 0 (by decide) tf_RX0_9 (cx_Book (L_u0 0 _ rfl)) rfl dX0_takeOver_6 ?_
  refine lv_iconst (v := (0 : Int32)) hx hb dX0_takeOver_9 (by decide) ?_
  refine lv_bipush (v := (75 : Int32)) hx hb dX0_takeOver_10 (by decide) ?_
  obtain ⟨M1, eM1, hf⟩ := xlet_x hf
  refine x_copy (cf' := cX E b M1) C hm hl.1 (C.1.2.2.2.2 _ tm_RX0_22) (C.1.2.2.2.2 _ tv_arraycopy) (C.1.2.2.2.2 _ tz_arraycopy) (C.1.2.2.2.2 _ tn_System) (cx_I (L_u1 1 _ rfl)) (cx_I (L_u0 1 _ rfl)) (n := (75 : Int32)) (by decide) rfl (by decide) (by decide) (Nat.le_of_ble_eq_true rfl) (Nat.le_of_ble_eq_true rfl) dX0_takeOver_12 (by rw [eM1]; exact cc_I (L_u0 1 _ rfl)) (by rw [eM1]; exact cc_o) (fun H locs hm => ?_)
  refine lv_aload_n hx hb dX0_takeOver_15 rfl (lv_at hl 0 rfl) ?_
  refine lv_aload_n hx hb dX0_takeOver_16 rfl (lv_at hl 1 rfl) ?_
  refine x_get C hm inX0 rfl 1 (by decide) tf_RX0_15 (cx_Book (L_u1 0 _ rfl)) rfl dX0_takeOver_17 ?_
  obtain ⟨M2, eM2, hf⟩ := xlet_x hf
  refine x_put (cf' := cX E b M2) C hm inX0 tyX0 tyX0_ok nmX0 rfl 1 (by decide) tf_RX0_15 rfl rfl rfl (cx_Book (L_u0 0 _ rfl)) (Nat.le_of_ble_eq_true rfl) (by rw [eM2]; exact cu_Book_1 (L_u0 0 _ rfl)) (by rw [eM2]; exact cX_o) dX0_takeOver_20 (fun H locs hm => ?_)
  refine lv_aload_n hx hb dX0_takeOver_23 rfl (lv_at hl 0 rfl) ?_
  refine lv_aload_n hx hb dX0_takeOver_24 rfl (lv_at hl 1 rfl) ?_
  refine x_get C hm inX0 rfl 2 (by decide) tf_RX0_19 (cx_Book (L_u1 0 _ rfl)) rfl dX0_takeOver_25 ?_
  obtain ⟨M3, eM3, hf⟩ := xlet_x hf
  refine x_put (cf' := cX E b M3) C hm inX0 tyX0 tyX0_ok nmX0 rfl 2 (by decide) tf_RX0_19 rfl rfl rfl (cx_Book (L_u0 0 _ rfl)) (Nat.le_of_ble_eq_true rfl) (by rw [eM3]; exact cu_Book_2 (L_u0 0 _ rfl)) (by rw [eM3]; exact cX_o) dX0_takeOver_28 (fun H locs hm => ?_)
  cases hf
  exact x_vret C hm trivial dX0_takeOver_31
/-! ColouredHeap$Book.write(III)V -/
theorem dX0_write_0 : decode cX0_write 0 = .ok (.aload_n 0, 1) := by decide +kernel
theorem dX0_write_1 : decode cX0_write 1 = .ok (.getfield 15, 3) := by decide +kernel
theorem dX0_write_4 : decode cX0_write 4 = .ok (.aload_n 0, 1) := by decide +kernel
theorem dX0_write_5 : decode cX0_write 5 = .ok (.getfield 19, 3) := by decide +kernel
theorem dX0_write_8 : decode cX0_write 8 = .ok (.iadd, 1) := by decide +kernel
theorem dX0_write_9 : decode cX0_write 9 = .ok (.bipush 25, 2) := by decide +kernel
theorem dX0_write_11 : decode cX0_write 11 = .ok (.irem, 1) := by decide +kernel
theorem dX0_write_12 : decode cX0_write 12 = .ok (.iconst 3, 1) := by decide +kernel
theorem dX0_write_13 : decode cX0_write 13 = .ok (.imul, 1) := by decide +kernel
theorem dX0_write_14 : decode cX0_write 14 = .ok (.istore 4, 2) := by decide +kernel
theorem dX0_write_16 : decode cX0_write 16 = .ok (.iload 4, 2) := by decide +kernel
theorem dX0_write_18 : decode cX0_write 18 = .ok (.ifCond .lt 15, 3) := by decide +kernel
theorem dX0_write_21 : decode cX0_write 21 = .ok (.iload 4, 2) := by decide +kernel
theorem dX0_write_23 : decode cX0_write 23 = .ok (.iconst 2, 1) := by decide +kernel
theorem dX0_write_24 : decode cX0_write 24 = .ok (.iadd, 1) := by decide +kernel
theorem dX0_write_25 : decode cX0_write 25 = .ok (.aload_n 0, 1) := by decide +kernel
theorem dX0_write_26 : decode cX0_write 26 = .ok (.getfield 9, 3) := by decide +kernel
theorem dX0_write_29 : decode cX0_write 29 = .ok (.arraylength, 1) := by decide +kernel
theorem dX0_write_30 : decode cX0_write 30 = .ok (.if_icmp .lt 4, 3) := by decide +kernel
theorem dX0_write_33 : decode cX0_write 33 = .ok (.return_, 1) := by decide +kernel
theorem dX0_write_34 : decode cX0_write 34 = .ok (.aload_n 0, 1) := by decide +kernel
theorem dX0_write_35 : decode cX0_write 35 = .ok (.getfield 9, 3) := by decide +kernel
theorem dX0_write_38 : decode cX0_write 38 = .ok (.iload 4, 2) := by decide +kernel
theorem dX0_write_40 : decode cX0_write 40 = .ok (.iload_n 1, 1) := by decide +kernel
theorem dX0_write_41 : decode cX0_write 41 = .ok (.iastore, 1) := by decide +kernel
theorem dX0_write_42 : decode cX0_write 42 = .ok (.aload_n 0, 1) := by decide +kernel
theorem dX0_write_43 : decode cX0_write 43 = .ok (.getfield 9, 3) := by decide +kernel
theorem dX0_write_46 : decode cX0_write 46 = .ok (.iload 4, 2) := by decide +kernel
theorem dX0_write_48 : decode cX0_write 48 = .ok (.iconst 1, 1) := by decide +kernel
theorem dX0_write_49 : decode cX0_write 49 = .ok (.iadd, 1) := by decide +kernel
theorem dX0_write_50 : decode cX0_write 50 = .ok (.iload_n 2, 1) := by decide +kernel
theorem dX0_write_51 : decode cX0_write 51 = .ok (.iastore, 1) := by decide +kernel
theorem dX0_write_52 : decode cX0_write 52 = .ok (.aload_n 0, 1) := by decide +kernel
theorem dX0_write_53 : decode cX0_write 53 = .ok (.getfield 9, 3) := by decide +kernel
theorem dX0_write_56 : decode cX0_write 56 = .ok (.iload 4, 2) := by decide +kernel
theorem dX0_write_58 : decode cX0_write 58 = .ok (.iconst 2, 1) := by decide +kernel
theorem dX0_write_59 : decode cX0_write 59 = .ok (.iadd, 1) := by decide +kernel
theorem dX0_write_60 : decode cX0_write 60 = .ok (.iload_n 3, 1) := by decide +kernel
theorem dX0_write_61 : decode cX0_write 61 = .ok (.iastore, 1) := by decide +kernel
theorem dX0_write_62 : decode cX0_write 62 = .ok (.aload_n 0, 1) := by decide +kernel
theorem dX0_write_63 : decode cX0_write 63 = .ok (.getfield 19, 3) := by decide +kernel
theorem dX0_write_66 : decode cX0_write 66 = .ok (.bipush 25, 2) := by decide +kernel
theorem dX0_write_68 : decode cX0_write 68 = .ok (.if_icmp .ge 16, 3) := by decide +kernel
theorem dX0_write_71 : decode cX0_write 71 = .ok (.aload_n 0, 1) := by decide +kernel
theorem dX0_write_72 : decode cX0_write 72 = .ok (.dup, 1) := by decide +kernel
theorem dX0_write_73 : decode cX0_write 73 = .ok (.getfield 19, 3) := by decide +kernel
theorem dX0_write_76 : decode cX0_write 76 = .ok (.iconst 1, 1) := by decide +kernel
theorem dX0_write_77 : decode cX0_write 77 = .ok (.iadd, 1) := by decide +kernel
theorem dX0_write_78 : decode cX0_write 78 = .ok (.putfield 19, 3) := by decide +kernel
theorem dX0_write_81 : decode cX0_write 81 = .ok (.goto 16, 3) := by decide +kernel
theorem dX0_write_84 : decode cX0_write 84 = .ok (.aload_n 0, 1) := by decide +kernel
theorem dX0_write_85 : decode cX0_write 85 = .ok (.aload_n 0, 1) := by decide +kernel
theorem dX0_write_86 : decode cX0_write 86 = .ok (.getfield 15, 3) := by decide +kernel
theorem dX0_write_89 : decode cX0_write 89 = .ok (.iconst 1, 1) := by decide +kernel
theorem dX0_write_90 : decode cX0_write 90 = .ok (.iadd, 1) := by decide +kernel
theorem dX0_write_91 : decode cX0_write 91 = .ok (.bipush 25, 2) := by decide +kernel
theorem dX0_write_93 : decode cX0_write 93 = .ok (.irem, 1) := by decide +kernel
theorem dX0_write_94 : decode cX0_write 94 = .ok (.putfield 15, 3) := by decide +kernel
theorem dX0_write_97 : decode cX0_write 97 = .ok (.return_, 1) := by decide +kernel
def f_X0_write (u0 : Nat) (M : xm) (a1 : Int32) (a2 : Int32) (a3 : Int32) : Option (xm) := xlet ((xrem ((M u0 1) + (M u0 2)) (25 : Int32)) * (3 : Int32)) (fun v1 => (if v1 < 0 then some M else (if (v1 + (2 : Int32)) < (75 : Int32) then if xin v1 75 = true then xlet (up2 M (u0 + 1) (Int32.toNatClampNeg v1) a1) (fun M5 => if xin (v1 + (1 : Int32)) 75 = true then xlet (up2 M5 (u0 + 1) (Int32.toNatClampNeg (v1 + (1 : Int32))) a2) (fun M7 => if xin (v1 + (2 : Int32)) 75 = true then xlet (up2 M7 (u0 + 1) (Int32.toNatClampNeg (v1 + (2 : Int32))) a3) (fun M9 => (if (25 : Int32) ≤ (M9 u0 2) then xlet (up2 M9 u0 1 (xrem ((M9 u0 1) + (1 : Int32)) (25 : Int32))) (fun M11 => some M11) else xlet (up2 M9 u0 2 ((M9 u0 2) + (1 : Int32))) (fun M12 => some M12))) else none) else none) else none else some M)))
set_option maxHeartbeats 4000000 in
set_option maxRecDepth 20000 in
theorem c_X0_write (l : Launch) (E : xE) (b : Nat) {u0 : Nat} (L_u0 : lat u0 pBook) (M : xm) (a1 : Int32) (a2 : Int32) (a3 : Int32) {M' : xm} (hf : f_X0_write u0 M a1 a2 a3 = some M') :
    xMet l E b NX yX0_write cX0_write 5 none (xR 1) [.ref (b + u0), .int a1, .int a2, .int a3] (cX E b M) none True (cX E b M') := by
  refine xMet.ofW (own := RX0) (by decide) rfl (Nat.le_of_ble_eq_true rfl) ?_
  intro p e s m below meth c H locs ls C hm hl
  have hx := C.1.1
  have hb := C.1.2.1
  have hl : lv_has ls 5 [(0, .ref (b + u0)), (1, .int a1), (2, .int a2), (3, .int a3)] := hl
  unfold f_X0_write at hf
  refine lv_aload_n hx hb dX0_write_0 rfl (lv_at hl 0 rfl) ?_
  refine x_get C hm inX0 rfl 1 (by decide) tf_RX0_15 (cx_Book (L_u0 0 _ rfl)) rfl dX0_write_1 ?_
  refine lv_aload_n hx hb dX0_write_4 rfl (lv_at hl 0 rfl) ?_
  refine x_get C hm inX0 rfl 2 (by decide) tf_RX0_19 (cx_Book (L_u0 0 _ rfl)) rfl dX0_write_5 ?_
  refine lv_iadd hx hb dX0_write_8 ?_
  refine lv_bipush (v := (25 : Int32)) hx hb dX0_write_9 (by decide) ?_
  refine lv_irem hx hb dX0_write_11 (by decide) ?_
  refine lv_iconst (v := (3 : Int32)) hx hb dX0_write_12 (by decide) ?_
  refine lv_imul hx hb dX0_write_13 ?_
  refine lv_topi (fun v1 ev1 => ?_)
  have hf := xlet_e ev1 hf
  refine lv_istore (lv' := [(4, .int v1), (0, .ref (b + u0)), (1, .int a1), (2, .int a2), (3, .int a3)]) hx hb dX0_write_14 hl (by decide) rfl (fun ls hl => ?_)
  refine lv_iload hx hb dX0_write_16 (lv_at hl 0 rfl) ?_
  refine lv_if_lt (tgt := 33) hx hb dX0_write_18 (by decide) (fun hc2 => ?_) (fun hc2 => ?_)
  · have hf := xif_t hc2 hf
    cases hf
    exact x_vret C hm trivial dX0_write_33
  have hf := xif_f hc2 hf
  refine lv_iload hx hb dX0_write_21 (lv_at hl 0 rfl) ?_
  refine lv_iconst (v := (2 : Int32)) hx hb dX0_write_23 (by decide) ?_
  refine lv_iadd hx hb dX0_write_24 ?_
  refine lv_aload_n hx hb dX0_write_25 rfl (lv_at hl 1 rfl) ?_
  refine x_get C hm inX0 rfl 0 (by decide) tf_RX0_9 (cx_Book (L_u0 0 _ rfl)) rfl dX0_write_26 ?_
  refine x_alen (v := (75 : Int32)) C hm (cx_I (L_u0 1 _ rfl)) (by decide) dX0_write_29 ?_
  refine lv_icmp_lt (tgt := 34) hx hb dX0_write_30 (by decide) (fun hc3 => ?_) (fun hc3 => ?_)
  rotate_left
  · have hf := xif_f hc3 hf
    cases hf
    exact x_vret C hm trivial dX0_write_33
  have hf := xif_t hc3 hf
  refine lv_aload_n hx hb dX0_write_34 rfl (lv_at hl 1 rfl) ?_
  refine x_get C hm inX0 rfl 0 (by decide) tf_RX0_9 (cx_Book (L_u0 0 _ rfl)) rfl dX0_write_35 ?_
  refine lv_iload hx hb dX0_write_38 (lv_at hl 0 rfl) ?_
  refine lv_iload_n hx hb dX0_write_40 rfl (lv_at hl 2 rfl) ?_
  obtain ⟨hi4, hf⟩ := xif_s hf
  obtain ⟨M5, eM5, hf⟩ := xlet_x hf
  refine x_iast (j := (Int32.toNatClampNeg v1)) (cf' := cX E b M5) C hm (cx_I (L_u0 1 _ rfl)) hi4 dX0_write_41 rfl (by rw [eM5]; exact cu_I (L_u0 1 _ rfl)) (by rw [eM5]; exact cX_o) (fun H locs hm => ?_)
  refine lv_aload_n hx hb dX0_write_42 rfl (lv_at hl 1 rfl) ?_
  refine x_get C hm inX0 rfl 0 (by decide) tf_RX0_9 (cx_Book (L_u0 0 _ rfl)) rfl dX0_write_43 ?_
  refine lv_iload hx hb dX0_write_46 (lv_at hl 0 rfl) ?_
  refine lv_iconst (v := (1 : Int32)) hx hb dX0_write_48 (by decide) ?_
  refine lv_iadd hx hb dX0_write_49 ?_
  refine lv_iload_n hx hb dX0_write_50 rfl (lv_at hl 3 rfl) ?_
  obtain ⟨hi6, hf⟩ := xif_s hf
  obtain ⟨M7, eM7, hf⟩ := xlet_x hf
  refine x_iast (j := (Int32.toNatClampNeg (v1 + (1 : Int32)))) (cf' := cX E b M7) C hm (cx_I (L_u0 1 _ rfl)) hi6 dX0_write_51 rfl (by rw [eM7]; exact cu_I (L_u0 1 _ rfl)) (by rw [eM7]; exact cX_o) (fun H locs hm => ?_)
  refine lv_aload_n hx hb dX0_write_52 rfl (lv_at hl 1 rfl) ?_
  refine x_get C hm inX0 rfl 0 (by decide) tf_RX0_9 (cx_Book (L_u0 0 _ rfl)) rfl dX0_write_53 ?_
  refine lv_iload hx hb dX0_write_56 (lv_at hl 0 rfl) ?_
  refine lv_iconst (v := (2 : Int32)) hx hb dX0_write_58 (by decide) ?_
  refine lv_iadd hx hb dX0_write_59 ?_
  refine lv_iload_n hx hb dX0_write_60 rfl (lv_at hl 4 rfl) ?_
  obtain ⟨hi8, hf⟩ := xif_s hf
  obtain ⟨M9, eM9, hf⟩ := xlet_x hf
  refine x_iast (j := (Int32.toNatClampNeg (v1 + (2 : Int32)))) (cf' := cX E b M9) C hm (cx_I (L_u0 1 _ rfl)) hi8 dX0_write_61 rfl (by rw [eM9]; exact cu_I (L_u0 1 _ rfl)) (by rw [eM9]; exact cX_o) (fun H locs hm => ?_)
  refine lv_aload_n hx hb dX0_write_62 rfl (lv_at hl 1 rfl) ?_
  refine x_get C hm inX0 rfl 2 (by decide) tf_RX0_19 (cx_Book (L_u0 0 _ rfl)) rfl dX0_write_63 ?_
  refine lv_bipush (v := (25 : Int32)) hx hb dX0_write_66 (by decide) ?_
  refine lv_icmp_ge (tgt := 84) hx hb dX0_write_68 (by decide) (fun hc10 => ?_) (fun hc10 => ?_)
  rotate_left
  · have hf := xif_f hc10 hf
    refine lv_aload_n hx hb dX0_write_71 rfl (lv_at hl 1 rfl) ?_
    refine lv_dup hx hb dX0_write_72 rfl ?_
    refine x_get C hm inX0 rfl 2 (by decide) tf_RX0_19 (cx_Book (L_u0 0 _ rfl)) rfl dX0_write_73 ?_
    refine lv_iconst (v := (1 : Int32)) hx hb dX0_write_76 (by decide) ?_
    refine lv_iadd hx hb dX0_write_77 ?_
    obtain ⟨M12, eM12, hf⟩ := xlet_x hf
    refine x_put (cf' := cX E b M12) C hm inX0 tyX0 tyX0_ok nmX0 rfl 2 (by decide) tf_RX0_19 rfl rfl rfl (cx_Book (L_u0 0 _ rfl)) (Nat.le_of_ble_eq_true rfl) (by rw [eM12]; exact cu_Book_2 (L_u0 0 _ rfl)) (by rw [eM12]; exact cX_o) dX0_write_78 (fun H locs hm => ?_)
    refine lv_goto (tgt := 97) hx hb dX0_write_81 (by decide) ?_
    cases hf
    exact x_vret C hm trivial dX0_write_97
  have hf := xif_t hc10 hf
  refine lv_aload_n hx hb dX0_write_84 rfl (lv_at hl 1 rfl) ?_
  refine lv_aload_n hx hb dX0_write_85 rfl (lv_at hl 1 rfl) ?_
  refine x_get C hm inX0 rfl 1 (by decide) tf_RX0_15 (cx_Book (L_u0 0 _ rfl)) rfl dX0_write_86 ?_
  refine lv_iconst (v := (1 : Int32)) hx hb dX0_write_89 (by decide) ?_
  refine lv_iadd hx hb dX0_write_90 ?_
  refine lv_bipush (v := (25 : Int32)) hx hb dX0_write_91 (by decide) ?_
  refine lv_irem hx hb dX0_write_93 (by decide) ?_
  obtain ⟨M11, eM11, hf⟩ := xlet_x hf
  refine x_put (cf' := cX E b M11) C hm inX0 tyX0 tyX0_ok nmX0 rfl 1 (by decide) tf_RX0_15 rfl rfl rfl (cx_Book (L_u0 0 _ rfl)) (Nat.le_of_ble_eq_true rfl) (by rw [eM11]; exact cu_Book_1 (L_u0 0 _ rfl)) (by rw [eM11]; exact cX_o) dX0_write_94 (fun H locs hm => ?_)
  cases hf
  exact x_vret C hm trivial dX0_write_97
/-! ColouredHeap$Heap.copyWords(III)V -/
theorem dX1_copyWords_0 : decode cX1_copyWords 0 = .ok (.iconst 0, 1) := by decide +kernel
theorem dX1_copyWords_1 : decode cX1_copyWords 1 = .ok (.istore 4, 2) := by decide +kernel
theorem dX1_copyWords_3 : decode cX1_copyWords 3 = .ok (.iload 4, 2) := by decide +kernel
theorem dX1_copyWords_5 : decode cX1_copyWords 5 = .ok (.iload_n 3, 1) := by decide +kernel
theorem dX1_copyWords_6 : decode cX1_copyWords 6 = .ok (.if_icmp .ge 53, 3) := by decide +kernel
theorem dX1_copyWords_9 : decode cX1_copyWords 9 = .ok (.iload_n 1, 1) := by decide +kernel
theorem dX1_copyWords_10 : decode cX1_copyWords 10 = .ok (.ifCond .lt 43, 3) := by decide +kernel
theorem dX1_copyWords_13 : decode cX1_copyWords 13 = .ok (.iload_n 2, 1) := by decide +kernel
theorem dX1_copyWords_14 : decode cX1_copyWords 14 = .ok (.ifCond .lt 39, 3) := by decide +kernel
theorem dX1_copyWords_17 : decode cX1_copyWords 17 = .ok (.iload_n 1, 1) := by decide +kernel
theorem dX1_copyWords_18 : decode cX1_copyWords 18 = .ok (.iload 4, 2) := by decide +kernel
theorem dX1_copyWords_20 : decode cX1_copyWords 20 = .ok (.iadd, 1) := by decide +kernel
theorem dX1_copyWords_21 : decode cX1_copyWords 21 = .ok (.bipush 64, 2) := by decide +kernel
theorem dX1_copyWords_23 : decode cX1_copyWords 23 = .ok (.if_icmp .ge 30, 3) := by decide +kernel
theorem dX1_copyWords_26 : decode cX1_copyWords 26 = .ok (.iload_n 2, 1) := by decide +kernel
theorem dX1_copyWords_27 : decode cX1_copyWords 27 = .ok (.iload 4, 2) := by decide +kernel
theorem dX1_copyWords_29 : decode cX1_copyWords 29 = .ok (.iadd, 1) := by decide +kernel
theorem dX1_copyWords_30 : decode cX1_copyWords 30 = .ok (.bipush 64, 2) := by decide +kernel
theorem dX1_copyWords_32 : decode cX1_copyWords 32 = .ok (.if_icmp .ge 21, 3) := by decide +kernel
theorem dX1_copyWords_35 : decode cX1_copyWords 35 = .ok (.aload_n 0, 1) := by decide +kernel
theorem dX1_copyWords_36 : decode cX1_copyWords 36 = .ok (.getfield 9, 3) := by decide +kernel
theorem dX1_copyWords_39 : decode cX1_copyWords 39 = .ok (.iload_n 2, 1) := by decide +kernel
theorem dX1_copyWords_40 : decode cX1_copyWords 40 = .ok (.iload 4, 2) := by decide +kernel
theorem dX1_copyWords_42 : decode cX1_copyWords 42 = .ok (.iadd, 1) := by decide +kernel
theorem dX1_copyWords_43 : decode cX1_copyWords 43 = .ok (.aload_n 0, 1) := by decide +kernel
theorem dX1_copyWords_44 : decode cX1_copyWords 44 = .ok (.getfield 9, 3) := by decide +kernel
theorem dX1_copyWords_47 : decode cX1_copyWords 47 = .ok (.iload_n 1, 1) := by decide +kernel
theorem dX1_copyWords_48 : decode cX1_copyWords 48 = .ok (.iload 4, 2) := by decide +kernel
theorem dX1_copyWords_50 : decode cX1_copyWords 50 = .ok (.iadd, 1) := by decide +kernel
theorem dX1_copyWords_51 : decode cX1_copyWords 51 = .ok (.iaload, 1) := by decide +kernel
theorem dX1_copyWords_52 : decode cX1_copyWords 52 = .ok (.iastore, 1) := by decide +kernel
theorem dX1_copyWords_53 : decode cX1_copyWords 53 = .ok (.iinc 4 1, 3) := by decide +kernel
theorem dX1_copyWords_56 : decode cX1_copyWords 56 = .ok (.goto (-53), 3) := by decide +kernel
theorem dX1_copyWords_59 : decode cX1_copyWords 59 = .ok (.return_, 1) := by decide +kernel
def g_X1_copyWords_3 (o1 : Nat) (x2 : Int32) (x3 : Int32) (x4 : Int32) : Nat → xm → Int32 → Option ((xm))
  | 0, _, _ => none
  | n + 1, M6, x5 => (if x4 ≤ x5 then some (M6) else (if x2 < 0 then xlet (x5 + (1 : Int32)) (fun v10 => g_X1_copyWords_3 o1 x2 x3 x4 n M6 v10) else (if x3 < 0 then xlet (x5 + (1 : Int32)) (fun v12 => g_X1_copyWords_3 o1 x2 x3 x4 n M6 v12) else (if (64 : Int32) ≤ (x2 + x5) then xlet (x5 + (1 : Int32)) (fun v14 => g_X1_copyWords_3 o1 x2 x3 x4 n M6 v14) else (if (64 : Int32) ≤ (x3 + x5) then xlet (x5 + (1 : Int32)) (fun v16 => g_X1_copyWords_3 o1 x2 x3 x4 n M6 v16) else if xin (x2 + x5) 64 = true then if xin (x3 + x5) 64 = true then xlet (up2 M6 (o1 + 1) (Int32.toNatClampNeg (x3 + x5)) (M6 (o1 + 1) (Int32.toNatClampNeg (x2 + x5)))) (fun M19 => xlet (x5 + (1 : Int32)) (fun v20 => g_X1_copyWords_3 o1 x2 x3 x4 n M19 v20)) else none else none)))))
def f_X1_copyWords (u0 : Nat) (M : xm) (a1 : Int32) (a2 : Int32) (a3 : Int32) : Option (xm) := xb1 (g_X1_copyWords_3 u0 a1 a2 a3 xfuel M (0 : Int32)) (fun M21 => some M21)
set_option maxHeartbeats 4000000 in
set_option maxRecDepth 20000 in
theorem j_X1_copyWords_3 {p : Program} {l : Launch} {e : Env} {s : State} {m : MethodId} {args : Array Value} {below : List Frame} {meth : Method} {c : Code} {Q : State → Prop} {E : xE} {b : Nat} (C : xC p s m args meth c cX1_copyWords 5 RX1 none E b) {o1 : Nat} (L_o1 : lat o1 pHeap) (x2 : Int32) (x3 : Int32) (x4 : Int32) {y7 : xm}
    (kx0 : ∀ (H : Heap) (locs : List Loc) (ls : Array Slot), xM E b NX (cX E b y7) s.heap H locs → lv_has ls 5 [] → W p l e (xR 1) s m args below meth c H locs 0 0 Q (F0 m 59 ls [])) :
    ∀ (n : Nat) (M6 : xm) (x5 : Int32) (H : Heap) (locs : List Loc) (ls : Array Slot), g_X1_copyWords_3 o1 x2 x3 x4 n M6 x5 = some y7 → xM E b NX (cX E b M6) s.heap H locs → lv_has ls 5 [(0, .ref (b + o1)), (1, .int x2), (2, .int x3), (3, .int x4), (4, .int x5)] → W p l e (xR 1) s m args below meth c H locs 0 0 Q (F0 m 3 ls []) := by
  have hx := C.1.1
  have hb := C.1.2.1
  intro n
  induction n with
  | zero =>
    intro M6 x5 H locs ls hf hm hl
    rw [g_X1_copyWords_3] at hf
    cases hf
  | succ n ih =>
    intro M6 x5 H locs ls hf hm hl
    rw [g_X1_copyWords_3] at hf
    refine lv_iload hx hb dX1_copyWords_3 (lv_at hl 4 rfl) ?_
    refine lv_iload_n hx hb dX1_copyWords_5 rfl (lv_at hl 3 rfl) ?_
    refine lv_icmp_ge (tgt := 59) hx hb dX1_copyWords_6 (by decide) (fun hc8 => ?_) (fun hc8 => ?_)
    · have hf := xif_t hc8 hf
      cases hf
      exact kx0 H locs ls hm (lv_sub hl [] rfl)
    have hf := xif_f hc8 hf
    refine lv_iload_n hx hb dX1_copyWords_9 rfl (lv_at hl 1 rfl) ?_
    refine lv_if_lt (tgt := 53) hx hb dX1_copyWords_10 (by decide) (fun hc9 => ?_) (fun hc9 => ?_)
    · have hf := xif_t hc9 hf
      obtain ⟨v10, ev10, hf⟩ := xlet_x hf
      refine lv_iinc (v := v10) (lv' := [(4, .int v10), (0, .ref (b + o1)), (1, .int x2), (2, .int x3), (3, .int x4)]) hx hb dX1_copyWords_53 hl (k := 4) rfl (by rw [ev10]; rfl) (by decide) rfl (fun ls hl => ?_)
      refine lv_goto (tgt := 3) hx hb dX1_copyWords_56 (by decide) ?_
      exact ih M6 v10 H locs ls hf hm (lv_sub hl [1, 2, 3, 4, 0] rfl)
    have hf := xif_f hc9 hf
    refine lv_iload_n hx hb dX1_copyWords_13 rfl (lv_at hl 2 rfl) ?_
    refine lv_if_lt (tgt := 53) hx hb dX1_copyWords_14 (by decide) (fun hc11 => ?_) (fun hc11 => ?_)
    · have hf := xif_t hc11 hf
      obtain ⟨v12, ev12, hf⟩ := xlet_x hf
      refine lv_iinc (v := v12) (lv' := [(4, .int v12), (0, .ref (b + o1)), (1, .int x2), (2, .int x3), (3, .int x4)]) hx hb dX1_copyWords_53 hl (k := 4) rfl (by rw [ev12]; rfl) (by decide) rfl (fun ls hl => ?_)
      refine lv_goto (tgt := 3) hx hb dX1_copyWords_56 (by decide) ?_
      exact ih M6 v12 H locs ls hf hm (lv_sub hl [1, 2, 3, 4, 0] rfl)
    have hf := xif_f hc11 hf
    refine lv_iload_n hx hb dX1_copyWords_17 rfl (lv_at hl 1 rfl) ?_
    refine lv_iload hx hb dX1_copyWords_18 (lv_at hl 4 rfl) ?_
    refine lv_iadd hx hb dX1_copyWords_20 ?_
    refine lv_bipush (v := (64 : Int32)) hx hb dX1_copyWords_21 (by decide) ?_
    refine lv_icmp_ge (tgt := 53) hx hb dX1_copyWords_23 (by decide) (fun hc13 => ?_) (fun hc13 => ?_)
    · have hf := xif_t hc13 hf
      obtain ⟨v14, ev14, hf⟩ := xlet_x hf
      refine lv_iinc (v := v14) (lv' := [(4, .int v14), (0, .ref (b + o1)), (1, .int x2), (2, .int x3), (3, .int x4)]) hx hb dX1_copyWords_53 hl (k := 4) rfl (by rw [ev14]; rfl) (by decide) rfl (fun ls hl => ?_)
      refine lv_goto (tgt := 3) hx hb dX1_copyWords_56 (by decide) ?_
      exact ih M6 v14 H locs ls hf hm (lv_sub hl [1, 2, 3, 4, 0] rfl)
    have hf := xif_f hc13 hf
    refine lv_iload_n hx hb dX1_copyWords_26 rfl (lv_at hl 2 rfl) ?_
    refine lv_iload hx hb dX1_copyWords_27 (lv_at hl 4 rfl) ?_
    refine lv_iadd hx hb dX1_copyWords_29 ?_
    refine lv_bipush (v := (64 : Int32)) hx hb dX1_copyWords_30 (by decide) ?_
    refine lv_icmp_ge (tgt := 53) hx hb dX1_copyWords_32 (by decide) (fun hc15 => ?_) (fun hc15 => ?_)
    · have hf := xif_t hc15 hf
      obtain ⟨v16, ev16, hf⟩ := xlet_x hf
      refine lv_iinc (v := v16) (lv' := [(4, .int v16), (0, .ref (b + o1)), (1, .int x2), (2, .int x3), (3, .int x4)]) hx hb dX1_copyWords_53 hl (k := 4) rfl (by rw [ev16]; rfl) (by decide) rfl (fun ls hl => ?_)
      refine lv_goto (tgt := 3) hx hb dX1_copyWords_56 (by decide) ?_
      exact ih M6 v16 H locs ls hf hm (lv_sub hl [1, 2, 3, 4, 0] rfl)
    have hf := xif_f hc15 hf
    refine lv_aload_n hx hb dX1_copyWords_35 rfl (lv_at hl 0 rfl) ?_
    refine x_get C hm inX1 rfl 0 (by decide) tf_RX1_9 (cx_Heap (L_o1 0 _ rfl)) rfl dX1_copyWords_36 ?_
    refine lv_iload_n hx hb dX1_copyWords_39 rfl (lv_at hl 2 rfl) ?_
    refine lv_iload hx hb dX1_copyWords_40 (lv_at hl 4 rfl) ?_
    refine lv_iadd hx hb dX1_copyWords_42 ?_
    refine lv_aload_n hx hb dX1_copyWords_43 rfl (lv_at hl 0 rfl) ?_
    refine x_get C hm inX1 rfl 0 (by decide) tf_RX1_9 (cx_Heap (L_o1 0 _ rfl)) rfl dX1_copyWords_44 ?_
    refine lv_iload_n hx hb dX1_copyWords_47 rfl (lv_at hl 1 rfl) ?_
    refine lv_iload hx hb dX1_copyWords_48 (lv_at hl 4 rfl) ?_
    refine lv_iadd hx hb dX1_copyWords_50 ?_
    obtain ⟨hi17, hf⟩ := xif_s hf
    refine x_iald (j := (Int32.toNatClampNeg (x2 + x5))) C hm (cx_I (L_o1 1 _ rfl)) hi17 dX1_copyWords_51 rfl ?_
    obtain ⟨hi18, hf⟩ := xif_s hf
    obtain ⟨M19, eM19, hf⟩ := xlet_x hf
    refine x_iast (j := (Int32.toNatClampNeg (x3 + x5))) (cf' := cX E b M19) C hm (cx_I (L_o1 1 _ rfl)) hi18 dX1_copyWords_52 rfl (by rw [eM19]; exact cu_I (L_o1 1 _ rfl)) (by rw [eM19]; exact cX_o) (fun H locs hm => ?_)
    obtain ⟨v20, ev20, hf⟩ := xlet_x hf
    refine lv_iinc (v := v20) (lv' := [(4, .int v20), (0, .ref (b + o1)), (1, .int x2), (2, .int x3), (3, .int x4)]) hx hb dX1_copyWords_53 hl (k := 4) rfl (by rw [ev20]; rfl) (by decide) rfl (fun ls hl => ?_)
    refine lv_goto (tgt := 3) hx hb dX1_copyWords_56 (by decide) ?_
    exact ih M19 v20 H locs ls hf hm (lv_sub hl [1, 2, 3, 4, 0] rfl)
set_option maxHeartbeats 4000000 in
set_option maxRecDepth 20000 in
theorem c_X1_copyWords (l : Launch) (E : xE) (b : Nat) {u0 : Nat} (L_u0 : lat u0 pHeap) (M : xm) (a1 : Int32) (a2 : Int32) (a3 : Int32) {M' : xm} (hf : f_X1_copyWords u0 M a1 a2 a3 = some M') :
    xMet l E b NX yX1_copyWords cX1_copyWords 5 none (xR 1) [.ref (b + u0), .int a1, .int a2, .int a3] (cX E b M) none True (cX E b M') := by
  refine xMet.ofW (own := RX1) (by decide) rfl (Nat.le_of_ble_eq_true rfl) ?_
  intro p e s m below meth c H locs ls C hm hl
  have hx := C.1.1
  have hb := C.1.2.1
  have hl : lv_has ls 5 [(0, .ref (b + u0)), (1, .int a1), (2, .int a2), (3, .int a3)] := hl
  unfold f_X1_copyWords at hf
  refine lv_iconst (v := (0 : Int32)) hx hb dX1_copyWords_0 (by decide) ?_
  refine lv_istore (lv' := [(4, .int (0 : Int32)), (0, .ref (b + u0)), (1, .int a1), (2, .int a2), (3, .int a3)]) hx hb dX1_copyWords_1 hl (by decide) rfl (fun ls hl => ?_)
  obtain ⟨M21, hq, hf⟩ := xb1_e hf
  refine j_X1_copyWords_3 C L_u0 a1 a2 a3 (fun H locs ls hm hl => ?_) xfuel M (0 : Int32) H locs ls hq hm (lv_sub hl [1, 2, 3, 4, 0] rfl)
  cases hf
  exact x_vret C hm trivial dX1_copyWords_59
/-! ColouredHeap.isAddress(I)Z -/
theorem dX9_isAddress_0 : decode cX9_isAddress 0 = .ok (.iload_n 0, 1) := by decide +kernel
theorem dX9_isAddress_1 : decode cX9_isAddress 1 = .ok (.ifCond .lt 13, 3) := by decide +kernel
theorem dX9_isAddress_4 : decode cX9_isAddress 4 = .ok (.iload_n 0, 1) := by decide +kernel
theorem dX9_isAddress_5 : decode cX9_isAddress 5 = .ok (.bipush 64, 2) := by decide +kernel
theorem dX9_isAddress_7 : decode cX9_isAddress 7 = .ok (.if_icmp .ge 7, 3) := by decide +kernel
theorem dX9_isAddress_10 : decode cX9_isAddress 10 = .ok (.iconst 1, 1) := by decide +kernel
theorem dX9_isAddress_11 : decode cX9_isAddress 11 = .ok (.goto 4, 3) := by decide +kernel
theorem dX9_isAddress_14 : decode cX9_isAddress 14 = .ok (.iconst 0, 1) := by decide +kernel
theorem dX9_isAddress_15 : decode cX9_isAddress 15 = .ok (.ireturn, 1) := by decide +kernel
def f_X9_isAddress (a0 : Int32) : Int32 := (if a0 < 0 then (0 : Int32) else (if (64 : Int32) ≤ a0 then (0 : Int32) else (1 : Int32)))
set_option maxHeartbeats 4000000 in
set_option maxRecDepth 20000 in
theorem c_X9_isAddress (l : Launch) (E : xE) (b : Nat) (M : xm) (a0 : Int32) {r : Int32} (hf : f_X9_isAddress a0 = r) :
    xMet l E b NX yX9_isAddress cX9_isAddress 1 (some .boolean) (xR 1) [.int a0] (cX E b M) (some (.int r)) (xbo r = true) (cX E b M) := by
  refine xMet.ofW (own := RX9) (by decide) rfl (Nat.le_of_ble_eq_true rfl) ?_
  intro p e s m below meth c H locs ls C hm hl
  have hx := C.1.1
  have hb := C.1.2.1
  have hl : lv_has ls 1 [(0, .int a0)] := hl
  unfold f_X9_isAddress at hf
  refine lv_iload_n hx hb dX9_isAddress_0 rfl (lv_at hl 0 rfl) ?_
  refine lv_if_lt (tgt := 14) hx hb dX9_isAddress_1 (by decide) (fun hc1 => ?_) (fun hc1 => ?_)
  · have hf := xif_t hc1 hf
    refine lv_iconst (v := (0 : Int32)) hx hb dX9_isAddress_14 (by decide) ?_
    cases hf
    exact x_zret C hm (by decide) (by decide) dX9_isAddress_15
  have hf := xif_f hc1 hf
  refine lv_iload_n hx hb dX9_isAddress_4 rfl (lv_at hl 0 rfl) ?_
  refine lv_bipush (v := (64 : Int32)) hx hb dX9_isAddress_5 (by decide) ?_
  refine lv_icmp_ge (tgt := 14) hx hb dX9_isAddress_7 (by decide) (fun hc2 => ?_) (fun hc2 => ?_)
  · have hf := xif_t hc2 hf
    refine lv_iconst (v := (0 : Int32)) hx hb dX9_isAddress_14 (by decide) ?_
    cases hf
    exact x_zret C hm (by decide) (by decide) dX9_isAddress_15
  have hf := xif_f hc2 hf
  refine lv_iconst (v := (1 : Int32)) hx hb dX9_isAddress_10 (by decide) ?_
  refine lv_goto (tgt := 15) hx hb dX9_isAddress_11 (by decide) ?_
  cases hf
  exact x_zret C hm (by decide) (by decide) dX9_isAddress_15
/-! ColouredHeap$Heap.sizeAt(I)I -/
theorem dX1_sizeAt_0 : decode cX1_sizeAt 0 = .ok (.iload_n 1, 1) := by decide +kernel
theorem dX1_sizeAt_1 : decode cX1_sizeAt 1 = .ok (.invokestatic 90, 3) := by decide +kernel
theorem dX1_sizeAt_4 : decode cX1_sizeAt 4 = .ok (.ifCond .eq 30, 3) := by decide +kernel
theorem dX1_sizeAt_7 : decode cX1_sizeAt 7 = .ok (.aload_n 0, 1) := by decide +kernel
theorem dX1_sizeAt_8 : decode cX1_sizeAt 8 = .ok (.getfield 9, 3) := by decide +kernel
theorem dX1_sizeAt_11 : decode cX1_sizeAt 11 = .ok (.iload_n 1, 1) := by decide +kernel
theorem dX1_sizeAt_12 : decode cX1_sizeAt 12 = .ok (.iaload, 1) := by decide +kernel
theorem dX1_sizeAt_13 : decode cX1_sizeAt 13 = .ok (.sipush 1000, 3) := by decide +kernel
theorem dX1_sizeAt_16 : decode cX1_sizeAt 16 = .ok (.if_icmp .lt 18, 3) := by decide +kernel
theorem dX1_sizeAt_19 : decode cX1_sizeAt 19 = .ok (.aload_n 0, 1) := by decide +kernel
theorem dX1_sizeAt_20 : decode cX1_sizeAt 20 = .ok (.getfield 9, 3) := by decide +kernel
theorem dX1_sizeAt_23 : decode cX1_sizeAt 23 = .ok (.iload_n 1, 1) := by decide +kernel
theorem dX1_sizeAt_24 : decode cX1_sizeAt 24 = .ok (.iaload, 1) := by decide +kernel
theorem dX1_sizeAt_25 : decode cX1_sizeAt 25 = .ok (.sipush 1000, 3) := by decide +kernel
theorem dX1_sizeAt_28 : decode cX1_sizeAt 28 = .ok (.isub, 1) := by decide +kernel
theorem dX1_sizeAt_29 : decode cX1_sizeAt 29 = .ok (.iconst 1, 1) := by decide +kernel
theorem dX1_sizeAt_30 : decode cX1_sizeAt 30 = .ok (.iadd, 1) := by decide +kernel
theorem dX1_sizeAt_31 : decode cX1_sizeAt 31 = .ok (.goto 4, 3) := by decide +kernel
theorem dX1_sizeAt_34 : decode cX1_sizeAt 34 = .ok (.iconst 0, 1) := by decide +kernel
theorem dX1_sizeAt_35 : decode cX1_sizeAt 35 = .ok (.ireturn, 1) := by decide +kernel
def f_X1_sizeAt (u0 : Nat) (M : xm) (a1 : Int32) : Option (Int32) := (if (f_X9_isAddress a1) = 0 then some (0 : Int32) else if xin a1 64 = true then (if (M (u0 + 1) (Int32.toNatClampNeg a1)) < (1000 : Int32) then some (0 : Int32) else some (((M (u0 + 1) (Int32.toNatClampNeg a1)) - (1000 : Int32)) + (1 : Int32))) else none)
set_option maxHeartbeats 4000000 in
set_option maxRecDepth 20000 in
theorem c_X1_sizeAt (l : Launch) (E : xE) (b : Nat) {u0 : Nat} (L_u0 : lat u0 pHeap) (M : xm) (a1 : Int32) {r : Int32} (hf : f_X1_sizeAt u0 M a1 = some r) :
    xMet l E b NX yX1_sizeAt cX1_sizeAt 2 (some .int) (xR 2) [.ref (b + u0), .int a1] (cX E b M) (some (.int r)) True (cX E b M) := by
  refine xMet.ofW (own := RX1) (by decide) rfl (Nat.le_of_ble_eq_true rfl) ?_
  intro p e s m below meth c H locs ls C hm hl
  have hx := C.1.1
  have hb := C.1.2.1
  have hl : lv_has ls 2 [(0, .ref (b + u0)), (1, .int a1)] := hl
  unfold f_X1_sizeAt at hf
  refine lv_iload_n hx hb dX1_sizeAt_0 rfl (lv_at hl 1 rfl) ?_
  refine x_callSNi (As := [.int a1]) (rest := []) C hm (c_X9_isAddress l E b M a1 rfl) tc_X9_isAddress (by decide +kernel : (RX1, 90, yX9_isAddress, "ColouredHeap") ∈ xNest) tz_X9_isAddress tn_RX9 td_X9_isAddress rfl rfl ⟨Nat.le_of_ble_eq_true rfl, Nat.le_of_ble_eq_true rfl⟩ rfl hl.1 rfl (Nat.le_of_ble_eq_true rfl) ⟨Nat.zero_le _, Nat.zero_le _⟩ dX1_sizeAt_1 (fun H locs hP1 hm => ?_)
  refine lv_if_eq (tgt := 34) hx hb dX1_sizeAt_4 (by decide) (fun hc2 => ?_) (fun hc2 => ?_)
  · have hf := xif_t hc2 hf
    refine lv_iconst (v := (0 : Int32)) hx hb dX1_sizeAt_34 (by decide) ?_
    cases hf
    exact x_iret C hm trivial dX1_sizeAt_35
  have hf := xif_f hc2 hf
  refine lv_aload_n hx hb dX1_sizeAt_7 rfl (lv_at hl 0 rfl) ?_
  refine x_get C hm inX1 rfl 0 (by decide) tf_RX1_9 (cx_Heap (L_u0 0 _ rfl)) rfl dX1_sizeAt_8 ?_
  refine lv_iload_n hx hb dX1_sizeAt_11 rfl (lv_at hl 1 rfl) ?_
  obtain ⟨hi3, hf⟩ := xif_s hf
  refine x_iald (j := (Int32.toNatClampNeg a1)) C hm (cx_I (L_u0 1 _ rfl)) hi3 dX1_sizeAt_12 rfl ?_
  refine lv_sipush (v := (1000 : Int32)) hx hb dX1_sizeAt_13 (by decide) ?_
  refine lv_icmp_lt (tgt := 34) hx hb dX1_sizeAt_16 (by decide) (fun hc4 => ?_) (fun hc4 => ?_)
  · have hf := xif_t hc4 hf
    refine lv_iconst (v := (0 : Int32)) hx hb dX1_sizeAt_34 (by decide) ?_
    cases hf
    exact x_iret C hm trivial dX1_sizeAt_35
  have hf := xif_f hc4 hf
  refine lv_aload_n hx hb dX1_sizeAt_19 rfl (lv_at hl 0 rfl) ?_
  refine x_get C hm inX1 rfl 0 (by decide) tf_RX1_9 (cx_Heap (L_u0 0 _ rfl)) rfl dX1_sizeAt_20 ?_
  refine lv_iload_n hx hb dX1_sizeAt_23 rfl (lv_at hl 1 rfl) ?_
  refine x_iald (j := (Int32.toNatClampNeg a1)) C hm (cx_I (L_u0 1 _ rfl)) hi3 dX1_sizeAt_24 rfl ?_
  refine lv_sipush (v := (1000 : Int32)) hx hb dX1_sizeAt_25 (by decide) ?_
  refine lv_isub hx hb dX1_sizeAt_28 ?_
  refine lv_iconst (v := (1 : Int32)) hx hb dX1_sizeAt_29 (by decide) ?_
  refine lv_iadd hx hb dX1_sizeAt_30 ?_
  refine lv_goto (tgt := 35) hx hb dX1_sizeAt_31 (by decide) ?_
  cases hf
  exact x_iret C hm trivial dX1_sizeAt_35
/-! ColouredHeap.isRoot(I)Z -/
theorem dX9_isRoot_0 : decode cX9_isRoot 0 = .ok (.iload_n 0, 1) := by decide +kernel
theorem dX9_isRoot_1 : decode cX9_isRoot 1 = .ok (.ifCond .lt 13, 3) := by decide +kernel
theorem dX9_isRoot_4 : decode cX9_isRoot 4 = .ok (.iload_n 0, 1) := by decide +kernel
theorem dX9_isRoot_5 : decode cX9_isRoot 5 = .ok (.bipush 6, 2) := by decide +kernel
theorem dX9_isRoot_7 : decode cX9_isRoot 7 = .ok (.if_icmp .ge 7, 3) := by decide +kernel
theorem dX9_isRoot_10 : decode cX9_isRoot 10 = .ok (.iconst 1, 1) := by decide +kernel
theorem dX9_isRoot_11 : decode cX9_isRoot 11 = .ok (.goto 4, 3) := by decide +kernel
theorem dX9_isRoot_14 : decode cX9_isRoot 14 = .ok (.iconst 0, 1) := by decide +kernel
theorem dX9_isRoot_15 : decode cX9_isRoot 15 = .ok (.ireturn, 1) := by decide +kernel
def f_X9_isRoot (a0 : Int32) : Int32 := (if a0 < 0 then (0 : Int32) else (if (6 : Int32) ≤ a0 then (0 : Int32) else (1 : Int32)))
set_option maxHeartbeats 4000000 in
set_option maxRecDepth 20000 in
theorem c_X9_isRoot (l : Launch) (E : xE) (b : Nat) (M : xm) (a0 : Int32) {r : Int32} (hf : f_X9_isRoot a0 = r) :
    xMet l E b NX yX9_isRoot cX9_isRoot 1 (some .boolean) (xR 1) [.int a0] (cX E b M) (some (.int r)) (xbo r = true) (cX E b M) := by
  refine xMet.ofW (own := RX9) (by decide) rfl (Nat.le_of_ble_eq_true rfl) ?_
  intro p e s m below meth c H locs ls C hm hl
  have hx := C.1.1
  have hb := C.1.2.1
  have hl : lv_has ls 1 [(0, .int a0)] := hl
  unfold f_X9_isRoot at hf
  refine lv_iload_n hx hb dX9_isRoot_0 rfl (lv_at hl 0 rfl) ?_
  refine lv_if_lt (tgt := 14) hx hb dX9_isRoot_1 (by decide) (fun hc1 => ?_) (fun hc1 => ?_)
  · have hf := xif_t hc1 hf
    refine lv_iconst (v := (0 : Int32)) hx hb dX9_isRoot_14 (by decide) ?_
    cases hf
    exact x_zret C hm (by decide) (by decide) dX9_isRoot_15
  have hf := xif_f hc1 hf
  refine lv_iload_n hx hb dX9_isRoot_4 rfl (lv_at hl 0 rfl) ?_
  refine lv_bipush (v := (6 : Int32)) hx hb dX9_isRoot_5 (by decide) ?_
  refine lv_icmp_ge (tgt := 14) hx hb dX9_isRoot_7 (by decide) (fun hc2 => ?_) (fun hc2 => ?_)
  · have hf := xif_t hc2 hf
    refine lv_iconst (v := (0 : Int32)) hx hb dX9_isRoot_14 (by decide) ?_
    cases hf
    exact x_zret C hm (by decide) (by decide) dX9_isRoot_15
  have hf := xif_f hc2 hf
  refine lv_iconst (v := (1 : Int32)) hx hb dX9_isRoot_10 (by decide) ?_
  refine lv_goto (tgt := 15) hx hb dX9_isRoot_11 (by decide) ?_
  cases hf
  exact x_zret C hm (by decide) (by decide) dX9_isRoot_15
/-! ColouredHeap$Heap.fieldWord(II)I -/
theorem dX1_fieldWord_0 : decode cX1_fieldWord 0 = .ok (.iload_n 1, 1) := by decide +kernel
theorem dX1_fieldWord_1 : decode cX1_fieldWord 1 = .ok (.invokestatic 98, 3) := by decide +kernel
theorem dX1_fieldWord_4 : decode cX1_fieldWord 4 = .ok (.ifCond .eq 16, 3) := by decide +kernel
theorem dX1_fieldWord_7 : decode cX1_fieldWord 7 = .ok (.aload_n 0, 1) := by decide +kernel
theorem dX1_fieldWord_8 : decode cX1_fieldWord 8 = .ok (.getfield 33, 3) := by decide +kernel
theorem dX1_fieldWord_11 : decode cX1_fieldWord 11 = .ok (.iload_n 1, 1) := by decide +kernel
theorem dX1_fieldWord_12 : decode cX1_fieldWord 12 = .ok (.iaload, 1) := by decide +kernel
theorem dX1_fieldWord_13 : decode cX1_fieldWord 13 = .ok (.ifCond .lt 7, 3) := by decide +kernel
theorem dX1_fieldWord_16 : decode cX1_fieldWord 16 = .ok (.iload_n 2, 1) := by decide +kernel
theorem dX1_fieldWord_17 : decode cX1_fieldWord 17 = .ok (.ifCond .ge 5, 3) := by decide +kernel
theorem dX1_fieldWord_20 : decode cX1_fieldWord 20 = .ok (.iconst (-1), 1) := by decide +kernel
theorem dX1_fieldWord_21 : decode cX1_fieldWord 21 = .ok (.ireturn, 1) := by decide +kernel
theorem dX1_fieldWord_22 : decode cX1_fieldWord 22 = .ok (.aload_n 0, 1) := by decide +kernel
theorem dX1_fieldWord_23 : decode cX1_fieldWord 23 = .ok (.getfield 33, 3) := by decide +kernel
theorem dX1_fieldWord_26 : decode cX1_fieldWord 26 = .ok (.iload_n 1, 1) := by decide +kernel
theorem dX1_fieldWord_27 : decode cX1_fieldWord 27 = .ok (.iaload, 1) := by decide +kernel
theorem dX1_fieldWord_28 : decode cX1_fieldWord 28 = .ok (.bipush 64, 2) := by decide +kernel
theorem dX1_fieldWord_30 : decode cX1_fieldWord 30 = .ok (.irem, 1) := by decide +kernel
theorem dX1_fieldWord_31 : decode cX1_fieldWord 31 = .ok (.istore_n 3, 1) := by decide +kernel
theorem dX1_fieldWord_32 : decode cX1_fieldWord 32 = .ok (.iload_n 3, 1) := by decide +kernel
theorem dX1_fieldWord_33 : decode cX1_fieldWord 33 = .ok (.iconst 1, 1) := by decide +kernel
theorem dX1_fieldWord_34 : decode cX1_fieldWord 34 = .ok (.iadd, 1) := by decide +kernel
theorem dX1_fieldWord_35 : decode cX1_fieldWord 35 = .ok (.iload_n 2, 1) := by decide +kernel
theorem dX1_fieldWord_36 : decode cX1_fieldWord 36 = .ok (.iadd, 1) := by decide +kernel
theorem dX1_fieldWord_37 : decode cX1_fieldWord 37 = .ok (.istore 4, 2) := by decide +kernel
theorem dX1_fieldWord_39 : decode cX1_fieldWord 39 = .ok (.iload_n 2, 1) := by decide +kernel
theorem dX1_fieldWord_40 : decode cX1_fieldWord 40 = .ok (.aload_n 0, 1) := by decide +kernel
theorem dX1_fieldWord_41 : decode cX1_fieldWord 41 = .ok (.iload_n 3, 1) := by decide +kernel
theorem dX1_fieldWord_42 : decode cX1_fieldWord 42 = .ok (.invokevirtual 94, 3) := by decide +kernel
theorem dX1_fieldWord_45 : decode cX1_fieldWord 45 = .ok (.iconst 1, 1) := by decide +kernel
theorem dX1_fieldWord_46 : decode cX1_fieldWord 46 = .ok (.isub, 1) := by decide +kernel
theorem dX1_fieldWord_47 : decode cX1_fieldWord 47 = .ok (.if_icmp .ge 15, 3) := by decide +kernel
theorem dX1_fieldWord_50 : decode cX1_fieldWord 50 = .ok (.iload 4, 2) := by decide +kernel
theorem dX1_fieldWord_52 : decode cX1_fieldWord 52 = .ok (.bipush 64, 2) := by decide +kernel
theorem dX1_fieldWord_54 : decode cX1_fieldWord 54 = .ok (.if_icmp .ge 8, 3) := by decide +kernel
theorem dX1_fieldWord_57 : decode cX1_fieldWord 57 = .ok (.iload 4, 2) := by decide +kernel
theorem dX1_fieldWord_59 : decode cX1_fieldWord 59 = .ok (.goto 4, 3) := by decide +kernel
theorem dX1_fieldWord_62 : decode cX1_fieldWord 62 = .ok (.iconst (-1), 1) := by decide +kernel
theorem dX1_fieldWord_63 : decode cX1_fieldWord 63 = .ok (.ireturn, 1) := by decide +kernel
def f_X1_fieldWord (u0 : Nat) (M : xm) (a1 : Int32) (a2 : Int32) : Option (Int32) := (if (f_X9_isRoot a1) = 0 then some (-1 : Int32) else if xin a1 6 = true then (if (M (u0 + 8) (Int32.toNatClampNeg a1)) < 0 then some (-1 : Int32) else (if 0 ≤ a2 then xlet (xrem (M (u0 + 8) (Int32.toNatClampNeg a1)) (64 : Int32)) (fun v6 => xlet ((v6 + (1 : Int32)) + a2) (fun v7 => xb1 (f_X1_sizeAt u0 M v6) (fun v9 => (if (v9 - (1 : Int32)) ≤ a2 then some (-1 : Int32) else (if (64 : Int32) ≤ v7 then some (-1 : Int32) else some v7))))) else some (-1 : Int32))) else none)
set_option maxHeartbeats 4000000 in
set_option maxRecDepth 20000 in
theorem c_X1_fieldWord (l : Launch) (E : xE) (b : Nat) {u0 : Nat} (L_u0 : lat u0 pHeap) (M : xm) (a1 : Int32) (a2 : Int32) {r : Int32} (hf : f_X1_fieldWord u0 M a1 a2 = some r) :
    xMet l E b NX yX1_fieldWord cX1_fieldWord 5 (some .int) (xR 3) [.ref (b + u0), .int a1, .int a2] (cX E b M) (some (.int r)) True (cX E b M) := by
  refine xMet.ofW (own := RX1) (by decide) rfl (Nat.le_of_ble_eq_true rfl) ?_
  intro p e s m below meth c H locs ls C hm hl
  have hx := C.1.1
  have hb := C.1.2.1
  have hl : lv_has ls 5 [(0, .ref (b + u0)), (1, .int a1), (2, .int a2)] := hl
  unfold f_X1_fieldWord at hf
  refine lv_iload_n hx hb dX1_fieldWord_0 rfl (lv_at hl 1 rfl) ?_
  refine x_callSNi (As := [.int a1]) (rest := []) C hm (c_X9_isRoot l E b M a1 rfl) tc_X9_isRoot (by decide +kernel : (RX1, 98, yX9_isRoot, "ColouredHeap") ∈ xNest) tz_X9_isRoot tn_RX9 td_X9_isRoot rfl rfl ⟨Nat.le_of_ble_eq_true rfl, Nat.le_of_ble_eq_true rfl⟩ rfl hl.1 rfl (Nat.le_of_ble_eq_true rfl) ⟨Nat.zero_le _, Nat.zero_le _⟩ dX1_fieldWord_1 (fun H locs hP1 hm => ?_)
  refine lv_if_eq (tgt := 20) hx hb dX1_fieldWord_4 (by decide) (fun hc2 => ?_) (fun hc2 => ?_)
  · have hf := xif_t hc2 hf
    refine lv_iconst (v := (-1 : Int32)) hx hb dX1_fieldWord_20 (by decide) ?_
    cases hf
    exact x_iret C hm trivial dX1_fieldWord_21
  have hf := xif_f hc2 hf
  refine lv_aload_n hx hb dX1_fieldWord_7 rfl (lv_at hl 0 rfl) ?_
  refine x_get C hm inX1 rfl 7 (by decide) tf_RX1_33 (cx_Heap (L_u0 0 _ rfl)) rfl dX1_fieldWord_8 ?_
  refine lv_iload_n hx hb dX1_fieldWord_11 rfl (lv_at hl 1 rfl) ?_
  obtain ⟨hi3, hf⟩ := xif_s hf
  refine x_iald (j := (Int32.toNatClampNeg a1)) C hm (cx_I (L_u0 8 _ rfl)) hi3 dX1_fieldWord_12 rfl ?_
  refine lv_if_lt (tgt := 20) hx hb dX1_fieldWord_13 (by decide) (fun hc4 => ?_) (fun hc4 => ?_)
  · have hf := xif_t hc4 hf
    refine lv_iconst (v := (-1 : Int32)) hx hb dX1_fieldWord_20 (by decide) ?_
    cases hf
    exact x_iret C hm trivial dX1_fieldWord_21
  have hf := xif_f hc4 hf
  refine lv_iload_n hx hb dX1_fieldWord_16 rfl (lv_at hl 2 rfl) ?_
  refine lv_if_ge (tgt := 22) hx hb dX1_fieldWord_17 (by decide) (fun hc5 => ?_) (fun hc5 => ?_)
  rotate_left
  · have hf := xif_f hc5 hf
    refine lv_iconst (v := (-1 : Int32)) hx hb dX1_fieldWord_20 (by decide) ?_
    cases hf
    exact x_iret C hm trivial dX1_fieldWord_21
  have hf := xif_t hc5 hf
  refine lv_aload_n hx hb dX1_fieldWord_22 rfl (lv_at hl 0 rfl) ?_
  refine x_get C hm inX1 rfl 7 (by decide) tf_RX1_33 (cx_Heap (L_u0 0 _ rfl)) rfl dX1_fieldWord_23 ?_
  refine lv_iload_n hx hb dX1_fieldWord_26 rfl (lv_at hl 1 rfl) ?_
  refine x_iald (j := (Int32.toNatClampNeg a1)) C hm (cx_I (L_u0 8 _ rfl)) hi3 dX1_fieldWord_27 rfl ?_
  refine lv_bipush (v := (64 : Int32)) hx hb dX1_fieldWord_28 (by decide) ?_
  refine lv_irem hx hb dX1_fieldWord_30 (by decide) ?_
  refine lv_topi (fun v6 ev6 => ?_)
  have hf := xlet_e ev6 hf
  refine lv_istore_n (lv' := [(3, .int v6), (0, .ref (b + u0)), (1, .int a1), (2, .int a2)]) hx hb dX1_fieldWord_31 rfl hl (by decide) rfl (fun ls hl => ?_)
  refine lv_iload_n hx hb dX1_fieldWord_32 rfl (lv_at hl 0 rfl) ?_
  refine lv_iconst (v := (1 : Int32)) hx hb dX1_fieldWord_33 (by decide) ?_
  refine lv_iadd hx hb dX1_fieldWord_34 ?_
  refine lv_iload_n hx hb dX1_fieldWord_35 rfl (lv_at hl 3 rfl) ?_
  refine lv_iadd hx hb dX1_fieldWord_36 ?_
  refine lv_topi (fun v7 ev7 => ?_)
  have hf := xlet_e ev7 hf
  refine lv_istore (lv' := [(4, .int v7), (3, .int v6), (0, .ref (b + u0)), (1, .int a1), (2, .int a2)]) hx hb dX1_fieldWord_37 hl (by decide) rfl (fun ls hl => ?_)
  refine lv_iload_n hx hb dX1_fieldWord_39 rfl (lv_at hl 4 rfl) ?_
  refine lv_aload_n hx hb dX1_fieldWord_40 rfl (lv_at hl 2 rfl) ?_
  refine lv_iload_n hx hb dX1_fieldWord_41 rfl (lv_at hl 1 rfl) ?_
  obtain ⟨v9, hq8, hf⟩ := xb1_e hf
  refine x_callVi (As := [.int v6]) (rest := [.int a2]) C hm (c_X1_sizeAt l E b L_u0 M v6 hq8) rfl (cx_Heap (L_u0 0 _ rfl)) tc_X1_sizeAt tm_RX1_94 ti_X1_sizeAt ts_X1_sizeAt tn_RX1 td_X1_sizeAt rfl rfl ⟨Nat.le_of_ble_eq_true rfl, Nat.le_of_ble_eq_true rfl⟩ rfl hl.1 rfl (Nat.le_of_ble_eq_true rfl) ⟨Nat.zero_le _, Nat.zero_le _⟩ dX1_fieldWord_42 (fun H locs hP10 hm => ?_)
  refine lv_iconst (v := (1 : Int32)) hx hb dX1_fieldWord_45 (by decide) ?_
  refine lv_isub hx hb dX1_fieldWord_46 ?_
  refine lv_icmp_ge (tgt := 62) hx hb dX1_fieldWord_47 (by decide) (fun hc11 => ?_) (fun hc11 => ?_)
  · have hf := xif_t hc11 hf
    refine lv_iconst (v := (-1 : Int32)) hx hb dX1_fieldWord_62 (by decide) ?_
    cases hf
    exact x_iret C hm trivial dX1_fieldWord_63
  have hf := xif_f hc11 hf
  refine lv_iload hx hb dX1_fieldWord_50 (lv_at hl 0 rfl) ?_
  refine lv_bipush (v := (64 : Int32)) hx hb dX1_fieldWord_52 (by decide) ?_
  refine lv_icmp_ge (tgt := 62) hx hb dX1_fieldWord_54 (by decide) (fun hc12 => ?_) (fun hc12 => ?_)
  · have hf := xif_t hc12 hf
    refine lv_iconst (v := (-1 : Int32)) hx hb dX1_fieldWord_62 (by decide) ?_
    cases hf
    exact x_iret C hm trivial dX1_fieldWord_63
  have hf := xif_f hc12 hf
  refine lv_iload hx hb dX1_fieldWord_57 (lv_at hl 0 rfl) ?_
  refine lv_goto (tgt := 63) hx hb dX1_fieldWord_59 (by decide) ?_
  cases hf
  exact x_iret C hm trivial dX1_fieldWord_63
/-! ColouredHeap.isPage(I)Z -/
theorem dX9_isPage_0 : decode cX9_isPage 0 = .ok (.iload_n 0, 1) := by decide +kernel
theorem dX9_isPage_1 : decode cX9_isPage 1 = .ok (.ifCond .lt 13, 3) := by decide +kernel
theorem dX9_isPage_4 : decode cX9_isPage 4 = .ok (.iload_n 0, 1) := by decide +kernel
theorem dX9_isPage_5 : decode cX9_isPage 5 = .ok (.bipush 8, 2) := by decide +kernel
theorem dX9_isPage_7 : decode cX9_isPage 7 = .ok (.if_icmp .ge 7, 3) := by decide +kernel
theorem dX9_isPage_10 : decode cX9_isPage 10 = .ok (.iconst 1, 1) := by decide +kernel
theorem dX9_isPage_11 : decode cX9_isPage 11 = .ok (.goto 4, 3) := by decide +kernel
theorem dX9_isPage_14 : decode cX9_isPage 14 = .ok (.iconst 0, 1) := by decide +kernel
theorem dX9_isPage_15 : decode cX9_isPage 15 = .ok (.ireturn, 1) := by decide +kernel
def f_X9_isPage (a0 : Int32) : Int32 := (if a0 < 0 then (0 : Int32) else (if (8 : Int32) ≤ a0 then (0 : Int32) else (1 : Int32)))
set_option maxHeartbeats 4000000 in
set_option maxRecDepth 20000 in
theorem c_X9_isPage (l : Launch) (E : xE) (b : Nat) (M : xm) (a0 : Int32) {r : Int32} (hf : f_X9_isPage a0 = r) :
    xMet l E b NX yX9_isPage cX9_isPage 1 (some .boolean) (xR 1) [.int a0] (cX E b M) (some (.int r)) (xbo r = true) (cX E b M) := by
  refine xMet.ofW (own := RX9) (by decide) rfl (Nat.le_of_ble_eq_true rfl) ?_
  intro p e s m below meth c H locs ls C hm hl
  have hx := C.1.1
  have hb := C.1.2.1
  have hl : lv_has ls 1 [(0, .int a0)] := hl
  unfold f_X9_isPage at hf
  refine lv_iload_n hx hb dX9_isPage_0 rfl (lv_at hl 0 rfl) ?_
  refine lv_if_lt (tgt := 14) hx hb dX9_isPage_1 (by decide) (fun hc1 => ?_) (fun hc1 => ?_)
  · have hf := xif_t hc1 hf
    refine lv_iconst (v := (0 : Int32)) hx hb dX9_isPage_14 (by decide) ?_
    cases hf
    exact x_zret C hm (by decide) (by decide) dX9_isPage_15
  have hf := xif_f hc1 hf
  refine lv_iload_n hx hb dX9_isPage_4 rfl (lv_at hl 0 rfl) ?_
  refine lv_bipush (v := (8 : Int32)) hx hb dX9_isPage_5 (by decide) ?_
  refine lv_icmp_ge (tgt := 14) hx hb dX9_isPage_7 (by decide) (fun hc2 => ?_) (fun hc2 => ?_)
  · have hf := xif_t hc2 hf
    refine lv_iconst (v := (0 : Int32)) hx hb dX9_isPage_14 (by decide) ?_
    cases hf
    exact x_zret C hm (by decide) (by decide) dX9_isPage_15
  have hf := xif_f hc2 hf
  refine lv_iconst (v := (1 : Int32)) hx hb dX9_isPage_10 (by decide) ?_
  refine lv_goto (tgt := 15) hx hb dX9_isPage_11 (by decide) ?_
  cases hf
  exact x_zret C hm (by decide) (by decide) dX9_isPage_15
/-! ColouredHeap$Heap.giveOut(II)I -/
theorem dX1_giveOut_0 : decode cX1_giveOut 0 = .ok (.aload_n 0, 1) := by decide +kernel
theorem dX1_giveOut_1 : decode cX1_giveOut 1 = .ok (.getfield 36, 3) := by decide +kernel
theorem dX1_giveOut_4 : decode cX1_giveOut 4 = .ok (.iload_n 1, 1) := by decide +kernel
theorem dX1_giveOut_5 : decode cX1_giveOut 5 = .ok (.iaload, 1) := by decide +kernel
theorem dX1_giveOut_6 : decode cX1_giveOut 6 = .ok (.istore_n 3, 1) := by decide +kernel
theorem dX1_giveOut_7 : decode cX1_giveOut 7 = .ok (.iload_n 3, 1) := by decide +kernel
theorem dX1_giveOut_8 : decode cX1_giveOut 8 = .ok (.invokestatic 108, 3) := by decide +kernel
theorem dX1_giveOut_11 : decode cX1_giveOut 11 = .ok (.ifCond .eq 16, 3) := by decide +kernel
theorem dX1_giveOut_14 : decode cX1_giveOut 14 = .ok (.aload_n 0, 1) := by decide +kernel
theorem dX1_giveOut_15 : decode cX1_giveOut 15 = .ok (.getfield 27, 3) := by decide +kernel
theorem dX1_giveOut_18 : decode cX1_giveOut 18 = .ok (.iload_n 3, 1) := by decide +kernel
theorem dX1_giveOut_19 : decode cX1_giveOut 19 = .ok (.iaload, 1) := by decide +kernel
theorem dX1_giveOut_20 : decode cX1_giveOut 20 = .ok (.iload_n 2, 1) := by decide +kernel
theorem dX1_giveOut_21 : decode cX1_giveOut 21 = .ok (.iadd, 1) := by decide +kernel
theorem dX1_giveOut_22 : decode cX1_giveOut 22 = .ok (.bipush 8, 2) := by decide +kernel
theorem dX1_giveOut_24 : decode cX1_giveOut 24 = .ok (.if_icmp .le 54, 3) := by decide +kernel
theorem dX1_giveOut_27 : decode cX1_giveOut 27 = .ok (.iconst 0, 1) := by decide +kernel
theorem dX1_giveOut_28 : decode cX1_giveOut 28 = .ok (.istore_n 3, 1) := by decide +kernel
theorem dX1_giveOut_29 : decode cX1_giveOut 29 = .ok (.iload_n 3, 1) := by decide +kernel
theorem dX1_giveOut_30 : decode cX1_giveOut 30 = .ok (.bipush 8, 2) := by decide +kernel
theorem dX1_giveOut_32 : decode cX1_giveOut 32 = .ok (.if_icmp .ge 18, 3) := by decide +kernel
theorem dX1_giveOut_35 : decode cX1_giveOut 35 = .ok (.aload_n 0, 1) := by decide +kernel
theorem dX1_giveOut_36 : decode cX1_giveOut 36 = .ok (.getfield 30, 3) := by decide +kernel
theorem dX1_giveOut_39 : decode cX1_giveOut 39 = .ok (.iload_n 3, 1) := by decide +kernel
theorem dX1_giveOut_40 : decode cX1_giveOut 40 = .ok (.iaload, 1) := by decide +kernel
theorem dX1_giveOut_41 : decode cX1_giveOut 41 = .ok (.ifCond .eq 9, 3) := by decide +kernel
theorem dX1_giveOut_44 : decode cX1_giveOut 44 = .ok (.iinc 3 1, 3) := by decide +kernel
theorem dX1_giveOut_47 : decode cX1_giveOut 47 = .ok (.goto (-18), 3) := by decide +kernel
theorem dX1_giveOut_50 : decode cX1_giveOut 50 = .ok (.iload_n 3, 1) := by decide +kernel
theorem dX1_giveOut_51 : decode cX1_giveOut 51 = .ok (.bipush 8, 2) := by decide +kernel
theorem dX1_giveOut_53 : decode cX1_giveOut 53 = .ok (.if_icmp .ge 9, 3) := by decide +kernel
theorem dX1_giveOut_56 : decode cX1_giveOut 56 = .ok (.iload_n 2, 1) := by decide +kernel
theorem dX1_giveOut_57 : decode cX1_giveOut 57 = .ok (.bipush 8, 2) := by decide +kernel
theorem dX1_giveOut_59 : decode cX1_giveOut 59 = .ok (.if_icmp .le 5, 3) := by decide +kernel
theorem dX1_giveOut_62 : decode cX1_giveOut 62 = .ok (.iconst (-1), 1) := by decide +kernel
theorem dX1_giveOut_63 : decode cX1_giveOut 63 = .ok (.ireturn, 1) := by decide +kernel
theorem dX1_giveOut_64 : decode cX1_giveOut 64 = .ok (.aload_n 0, 1) := by decide +kernel
theorem dX1_giveOut_65 : decode cX1_giveOut 65 = .ok (.getfield 30, 3) := by decide +kernel
theorem dX1_giveOut_68 : decode cX1_giveOut 68 = .ok (.iload_n 3, 1) := by decide +kernel
theorem dX1_giveOut_69 : decode cX1_giveOut 69 = .ok (.iconst 1, 1) := by decide +kernel
theorem dX1_giveOut_70 : decode cX1_giveOut 70 = .ok (.iastore, 1) := by decide +kernel
theorem dX1_giveOut_71 : decode cX1_giveOut 71 = .ok (.aload_n 0, 1) := by decide +kernel
theorem dX1_giveOut_72 : decode cX1_giveOut 72 = .ok (.getfield 36, 3) := by decide +kernel
theorem dX1_giveOut_75 : decode cX1_giveOut 75 = .ok (.iload_n 1, 1) := by decide +kernel
theorem dX1_giveOut_76 : decode cX1_giveOut 76 = .ok (.iload_n 3, 1) := by decide +kernel
theorem dX1_giveOut_77 : decode cX1_giveOut 77 = .ok (.iastore, 1) := by decide +kernel
theorem dX1_giveOut_78 : decode cX1_giveOut 78 = .ok (.iload_n 3, 1) := by decide +kernel
theorem dX1_giveOut_79 : decode cX1_giveOut 79 = .ok (.bipush 8, 2) := by decide +kernel
theorem dX1_giveOut_81 : decode cX1_giveOut 81 = .ok (.imul, 1) := by decide +kernel
theorem dX1_giveOut_82 : decode cX1_giveOut 82 = .ok (.aload_n 0, 1) := by decide +kernel
theorem dX1_giveOut_83 : decode cX1_giveOut 83 = .ok (.getfield 27, 3) := by decide +kernel
theorem dX1_giveOut_86 : decode cX1_giveOut 86 = .ok (.iload_n 3, 1) := by decide +kernel
theorem dX1_giveOut_87 : decode cX1_giveOut 87 = .ok (.iaload, 1) := by decide +kernel
theorem dX1_giveOut_88 : decode cX1_giveOut 88 = .ok (.iadd, 1) := by decide +kernel
theorem dX1_giveOut_89 : decode cX1_giveOut 89 = .ok (.istore 4, 2) := by decide +kernel
theorem dX1_giveOut_91 : decode cX1_giveOut 91 = .ok (.aload_n 0, 1) := by decide +kernel
theorem dX1_giveOut_92 : decode cX1_giveOut 92 = .ok (.getfield 27, 3) := by decide +kernel
theorem dX1_giveOut_95 : decode cX1_giveOut 95 = .ok (.iload_n 3, 1) := by decide +kernel
theorem dX1_giveOut_96 : decode cX1_giveOut 96 = .ok (.dup2, 1) := by decide +kernel
theorem dX1_giveOut_97 : decode cX1_giveOut 97 = .ok (.iaload, 1) := by decide +kernel
theorem dX1_giveOut_98 : decode cX1_giveOut 98 = .ok (.iload_n 2, 1) := by decide +kernel
theorem dX1_giveOut_99 : decode cX1_giveOut 99 = .ok (.iadd, 1) := by decide +kernel
theorem dX1_giveOut_100 : decode cX1_giveOut 100 = .ok (.iastore, 1) := by decide +kernel
theorem dX1_giveOut_101 : decode cX1_giveOut 101 = .ok (.iload 4, 2) := by decide +kernel
theorem dX1_giveOut_103 : decode cX1_giveOut 103 = .ok (.ireturn, 1) := by decide +kernel
def g_X1_giveOut_29 (o11 : Nat) (M : xm) (x12 : Int32) (x13 : Int32) : Nat → Int32 → Option ((Int32))
  | 0, _ => none
  | n + 1, x14 => (if (8 : Int32) ≤ x14 then some (x14) else if xin x14 8 = true then (if (M (o11 + 7) (Int32.toNatClampNeg x14)) = 0 then some (x14) else xlet (x14 + (1 : Int32)) (fun v19 => g_X1_giveOut_29 o11 M x12 x13 n v19)) else none)
def f_X1_giveOut (u0 : Nat) (M : xm) (a1 : Int32) (a2 : Int32) : Option (Int32 × xm) := if xin a1 2 = true then xlet (M (u0 + 9) (Int32.toNatClampNeg a1)) (fun v2 => xlet (fun (w4 : Int32) (M5 : xm) => if xin w4 8 = true then xlet ((w4 * (8 : Int32)) + (M5 (u0 + 6) (Int32.toNatClampNeg w4))) (fun v8 => xlet (up2 M5 (u0 + 6) (Int32.toNatClampNeg w4) ((M5 (u0 + 6) (Int32.toNatClampNeg w4)) + a2)) (fun M9 => some (v8, M9))) else none) (fun k6 => xlet (xb1 (g_X1_giveOut_29 u0 M a1 a2 xfuel (0 : Int32)) (fun v20 => (if (8 : Int32) ≤ v20 then some ((-1 : Int32), M) else (if a2 ≤ (8 : Int32) then if xin v20 8 = true then xlet (up2 M (u0 + 7) (Int32.toNatClampNeg v20) (1 : Int32)) (fun M24 => xlet (up2 M24 (u0 + 9) (Int32.toNatClampNeg a1) v20) (fun M25 => (k6 v20 M25))) else none else some ((-1 : Int32), M))))) (fun k10 => (if (f_X9_isPage v2) = 0 then k10 else if xin v2 8 = true then (if ((M (u0 + 6) (Int32.toNatClampNeg v2)) + a2) ≤ (8 : Int32) then (k6 v2 M) else k10) else none)))) else none
set_option maxHeartbeats 4000000 in
set_option maxRecDepth 20000 in
theorem j_X1_giveOut_29 {p : Program} {l : Launch} {e : Env} {s : State} {m : MethodId} {args : Array Value} {below : List Frame} {meth : Method} {c : Code} {Q : State → Prop} {E : xE} {b : Nat} (C : xC p s m args meth c cX1_giveOut 5 RX1 (some .int) E b) {o11 : Nat} (L_o11 : lat o11 pHeap) (M : xm) (x12 : Int32) (x13 : Int32) {y15 : Int32}
    (kx0 : ∀ (H : Heap) (locs : List Loc) (ls : Array Slot), xM E b NX (cX E b M) s.heap H locs → lv_has ls 5 [(0, .ref (b + o11)), (1, .int x12), (2, .int x13), (3, .int y15)] → W p l e (xR 2) s m args below meth c H locs 0 0 Q (F0 m 50 ls [])) :
    ∀ (n : Nat) (x14 : Int32) (H : Heap) (locs : List Loc) (ls : Array Slot), g_X1_giveOut_29 o11 M x12 x13 n x14 = some y15 → xM E b NX (cX E b M) s.heap H locs → lv_has ls 5 [(0, .ref (b + o11)), (1, .int x12), (2, .int x13), (3, .int x14)] → W p l e (xR 2) s m args below meth c H locs 0 0 Q (F0 m 29 ls []) := by
  have hx := C.1.1
  have hb := C.1.2.1
  intro n
  induction n with
  | zero =>
    intro x14 H locs ls hf hm hl
    rw [g_X1_giveOut_29] at hf
    cases hf
  | succ n ih =>
    intro x14 H locs ls hf hm hl
    rw [g_X1_giveOut_29] at hf
    refine lv_iload_n hx hb dX1_giveOut_29 rfl (lv_at hl 3 rfl) ?_
    refine lv_bipush (v := (8 : Int32)) hx hb dX1_giveOut_30 (by decide) ?_
    refine lv_icmp_ge (tgt := 50) hx hb dX1_giveOut_32 (by decide) (fun hc16 => ?_) (fun hc16 => ?_)
    · have hf := xif_t hc16 hf
      cases hf
      exact kx0 H locs ls hm (lv_sub hl [0, 1, 2, 3] rfl)
    have hf := xif_f hc16 hf
    refine lv_aload_n hx hb dX1_giveOut_35 rfl (lv_at hl 0 rfl) ?_
    refine x_get C hm inX1 rfl 6 (by decide) tf_RX1_30 (cx_Heap (L_o11 0 _ rfl)) rfl dX1_giveOut_36 ?_
    refine lv_iload_n hx hb dX1_giveOut_39 rfl (lv_at hl 3 rfl) ?_
    obtain ⟨hi17, hf⟩ := xif_s hf
    refine x_iald (j := (Int32.toNatClampNeg x14)) C hm (cx_I (L_o11 7 _ rfl)) hi17 dX1_giveOut_40 rfl ?_
    refine lv_if_eq (tgt := 50) hx hb dX1_giveOut_41 (by decide) (fun hc18 => ?_) (fun hc18 => ?_)
    · have hf := xif_t hc18 hf
      cases hf
      exact kx0 H locs ls hm (lv_sub hl [0, 1, 2, 3] rfl)
    have hf := xif_f hc18 hf
    obtain ⟨v19, ev19, hf⟩ := xlet_x hf
    refine lv_iinc (v := v19) (lv' := [(3, .int v19), (0, .ref (b + o11)), (1, .int x12), (2, .int x13)]) hx hb dX1_giveOut_44 hl (k := 3) rfl (by rw [ev19]; rfl) (by decide) rfl (fun ls hl => ?_)
    refine lv_goto (tgt := 29) hx hb dX1_giveOut_47 (by decide) ?_
    exact ih v19 H locs ls hf hm (lv_sub hl [1, 2, 3, 0] rfl)
set_option maxHeartbeats 4000000 in
set_option maxRecDepth 20000 in
theorem c_X1_giveOut (l : Launch) (E : xE) (b : Nat) {u0 : Nat} (L_u0 : lat u0 pHeap) (M : xm) (a1 : Int32) (a2 : Int32) {r : Int32} {M' : xm} (hf : f_X1_giveOut u0 M a1 a2 = some (r, M')) :
    xMet l E b NX yX1_giveOut cX1_giveOut 5 (some .int) (xR 2) [.ref (b + u0), .int a1, .int a2] (cX E b M) (some (.int r)) True (cX E b M') := by
  refine xMet.ofW (own := RX1) (by decide) rfl (Nat.le_of_ble_eq_true rfl) ?_
  intro p e s m below meth c H locs ls C hm hl
  have hx := C.1.1
  have hb := C.1.2.1
  have hl : lv_has ls 5 [(0, .ref (b + u0)), (1, .int a1), (2, .int a2)] := hl
  unfold f_X1_giveOut at hf
  refine lv_aload_n hx hb dX1_giveOut_0 rfl (lv_at hl 0 rfl) ?_
  refine x_get C hm inX1 rfl 8 (by decide) tf_RX1_36 (cx_Heap (L_u0 0 _ rfl)) rfl dX1_giveOut_1 ?_
  refine lv_iload_n hx hb dX1_giveOut_4 rfl (lv_at hl 1 rfl) ?_
  obtain ⟨hi1, hf⟩ := xif_s hf
  refine x_iald (j := (Int32.toNatClampNeg a1)) C hm (cx_I (L_u0 9 _ rfl)) hi1 dX1_giveOut_5 rfl ?_
  refine lv_topi (fun v2 ev2 => ?_)
  have hf := xlet_e ev2 hf
  refine lv_istore_n (lv' := [(3, .int v2), (0, .ref (b + u0)), (1, .int a1), (2, .int a2)]) hx hb dX1_giveOut_6 rfl hl (by decide) rfl (fun ls hl => ?_)
  refine lv_iload_n hx hb dX1_giveOut_7 rfl (lv_at hl 0 rfl) ?_
  refine x_callSNi (As := [.int v2]) (rest := []) C hm (c_X9_isPage l E b M v2 rfl) tc_X9_isPage (by decide +kernel : (RX1, 108, yX9_isPage, "ColouredHeap") ∈ xNest) tz_X9_isPage tn_RX9 td_X9_isPage rfl rfl ⟨Nat.le_of_ble_eq_true rfl, Nat.le_of_ble_eq_true rfl⟩ rfl hl.1 rfl (Nat.le_of_ble_eq_true rfl) ⟨Nat.zero_le _, Nat.zero_le _⟩ dX1_giveOut_8 (fun H locs hP3 hm => ?_)
  obtain ⟨k6, ek6, hf⟩ := xlet_x hf
  have jk6 : ∀ (w4 : Int32) (M5 : xm) (H : Heap) (locs : List Loc) (ls : Array Slot), k6 w4 M5 = some (r, M') → xM E b NX (cX E b M5) s.heap H locs → lv_has ls 5 [(0, .ref (b + u0)), (2, .int a2), (3, .int w4)] → W p l e (xR 2) s m ([.ref (b + u0), .int a1, .int a2] : List Value).toArray below meth c H locs 0 0 (MQ below (xQ E b NX (some (.int r)) True (cX E b M')) ([.ref (b + u0), .int a1, .int a2] : List Value).toArray s 0 0 (xA b NX)) (F0 m 78 ls []) := by
    intro w4 M5 H locs ls hf hm hl
    have hf := xap2 ek6 hf
    refine lv_iload_n hx hb dX1_giveOut_78 rfl (lv_at hl 2 rfl) ?_
    refine lv_bipush (v := (8 : Int32)) hx hb dX1_giveOut_79 (by decide) ?_
    refine lv_imul hx hb dX1_giveOut_81 ?_
    refine lv_aload_n hx hb dX1_giveOut_82 rfl (lv_at hl 0 rfl) ?_
    refine x_get C hm inX1 rfl 5 (by decide) tf_RX1_27 (cx_Heap (L_u0 0 _ rfl)) rfl dX1_giveOut_83 ?_
    refine lv_iload_n hx hb dX1_giveOut_86 rfl (lv_at hl 2 rfl) ?_
    obtain ⟨hi7, hf⟩ := xif_s hf
    refine x_iald (j := (Int32.toNatClampNeg w4)) C hm (cx_I (L_u0 6 _ rfl)) hi7 dX1_giveOut_87 rfl ?_
    refine lv_iadd hx hb dX1_giveOut_88 ?_
    refine lv_topi (fun v8 ev8 => ?_)
    have hf := xlet_e ev8 hf
    refine lv_istore (lv' := [(4, .int v8), (0, .ref (b + u0)), (2, .int a2), (3, .int w4)]) hx hb dX1_giveOut_89 hl (by decide) rfl (fun ls hl => ?_)
    refine lv_aload_n hx hb dX1_giveOut_91 rfl (lv_at hl 1 rfl) ?_
    refine x_get C hm inX1 rfl 5 (by decide) tf_RX1_27 (cx_Heap (L_u0 0 _ rfl)) rfl dX1_giveOut_92 ?_
    refine lv_iload_n hx hb dX1_giveOut_95 rfl (lv_at hl 3 rfl) ?_
    refine lv_dup2_11 hx hb dX1_giveOut_96 rfl rfl ?_
    refine x_iald (j := (Int32.toNatClampNeg w4)) C hm (cx_I (L_u0 6 _ rfl)) hi7 dX1_giveOut_97 rfl ?_
    refine lv_iload_n hx hb dX1_giveOut_98 rfl (lv_at hl 2 rfl) ?_
    refine lv_iadd hx hb dX1_giveOut_99 ?_
    obtain ⟨M9, eM9, hf⟩ := xlet_x hf
    refine x_iast (j := (Int32.toNatClampNeg w4)) (cf' := cX E b M9) C hm (cx_I (L_u0 6 _ rfl)) hi7 dX1_giveOut_100 rfl (by rw [eM9]; exact cu_I (L_u0 6 _ rfl)) (by rw [eM9]; exact cX_o) (fun H locs hm => ?_)
    refine lv_iload hx hb dX1_giveOut_101 (lv_at hl 0 rfl) ?_
    cases hf
    exact x_iret C hm trivial dX1_giveOut_103
  obtain ⟨k10, ek10, hf⟩ := xlet_x hf
  have jk10 : ∀  (H : Heap) (locs : List Loc) (ls : Array Slot), k10 = some (r, M') → xM E b NX (cX E b M) s.heap H locs → lv_has ls 5 [(0, .ref (b + u0)), (1, .int a1), (2, .int a2)] → W p l e (xR 2) s m ([.ref (b + u0), .int a1, .int a2] : List Value).toArray below meth c H locs 0 0 (MQ below (xQ E b NX (some (.int r)) True (cX E b M')) ([.ref (b + u0), .int a1, .int a2] : List Value).toArray s 0 0 (xA b NX)) (F0 m 27 ls []) := by
    intro  H locs ls hf hm hl
    have hf := xap0 ek10 hf
    refine lv_iconst (v := (0 : Int32)) hx hb dX1_giveOut_27 (by decide) ?_
    refine lv_istore_n (lv' := [(3, .int (0 : Int32)), (0, .ref (b + u0)), (1, .int a1), (2, .int a2)]) hx hb dX1_giveOut_28 rfl hl (by decide) rfl (fun ls hl => ?_)
    obtain ⟨v20, hq, hf⟩ := xb1_e hf
    refine j_X1_giveOut_29 C L_u0 M a1 a2 (fun H locs ls hm hl => ?_) xfuel (0 : Int32) H locs ls hq hm (lv_sub hl [1, 2, 3, 0] rfl)
    refine lv_iload_n hx hb dX1_giveOut_50 rfl (lv_at hl 3 rfl) ?_
    refine lv_bipush (v := (8 : Int32)) hx hb dX1_giveOut_51 (by decide) ?_
    refine lv_icmp_ge (tgt := 62) hx hb dX1_giveOut_53 (by decide) (fun hc21 => ?_) (fun hc21 => ?_)
    · have hf := xif_t hc21 hf
      refine lv_iconst (v := (-1 : Int32)) hx hb dX1_giveOut_62 (by decide) ?_
      cases hf
      exact x_iret C hm trivial dX1_giveOut_63
    have hf := xif_f hc21 hf
    refine lv_iload_n hx hb dX1_giveOut_56 rfl (lv_at hl 2 rfl) ?_
    refine lv_bipush (v := (8 : Int32)) hx hb dX1_giveOut_57 (by decide) ?_
    refine lv_icmp_le (tgt := 64) hx hb dX1_giveOut_59 (by decide) (fun hc22 => ?_) (fun hc22 => ?_)
    rotate_left
    · have hf := xif_f hc22 hf
      refine lv_iconst (v := (-1 : Int32)) hx hb dX1_giveOut_62 (by decide) ?_
      cases hf
      exact x_iret C hm trivial dX1_giveOut_63
    have hf := xif_t hc22 hf
    refine lv_aload_n hx hb dX1_giveOut_64 rfl (lv_at hl 0 rfl) ?_
    refine x_get C hm inX1 rfl 6 (by decide) tf_RX1_30 (cx_Heap (L_u0 0 _ rfl)) rfl dX1_giveOut_65 ?_
    refine lv_iload_n hx hb dX1_giveOut_68 rfl (lv_at hl 3 rfl) ?_
    refine lv_iconst (v := (1 : Int32)) hx hb dX1_giveOut_69 (by decide) ?_
    obtain ⟨hi23, hf⟩ := xif_s hf
    obtain ⟨M24, eM24, hf⟩ := xlet_x hf
    refine x_iast (j := (Int32.toNatClampNeg v20)) (cf' := cX E b M24) C hm (cx_I (L_u0 7 _ rfl)) hi23 dX1_giveOut_70 rfl (by rw [eM24]; exact cu_I (L_u0 7 _ rfl)) (by rw [eM24]; exact cX_o) (fun H locs hm => ?_)
    refine lv_aload_n hx hb dX1_giveOut_71 rfl (lv_at hl 0 rfl) ?_
    refine x_get C hm inX1 rfl 8 (by decide) tf_RX1_36 (cx_Heap (L_u0 0 _ rfl)) rfl dX1_giveOut_72 ?_
    refine lv_iload_n hx hb dX1_giveOut_75 rfl (lv_at hl 1 rfl) ?_
    refine lv_iload_n hx hb dX1_giveOut_76 rfl (lv_at hl 3 rfl) ?_
    obtain ⟨M25, eM25, hf⟩ := xlet_x hf
    refine x_iast (j := (Int32.toNatClampNeg a1)) (cf' := cX E b M25) C hm (cx_I (L_u0 9 _ rfl)) hi1 dX1_giveOut_77 rfl (by rw [eM25]; exact cu_I (L_u0 9 _ rfl)) (by rw [eM25]; exact cX_o) (fun H locs hm => ?_)
    exact jk6 v20 M25 H locs ls  hf hm (lv_sub hl [0, 2, 3] rfl)
  refine lv_if_eq (tgt := 27) hx hb dX1_giveOut_11 (by decide) (fun hc26 => ?_) (fun hc26 => ?_)
  · have hf := xif_t hc26 hf
    exact jk10  H locs ls  hf hm (lv_sub hl [1, 2, 3] rfl)
  have hf := xif_f hc26 hf
  refine lv_aload_n hx hb dX1_giveOut_14 rfl (lv_at hl 1 rfl) ?_
  refine x_get C hm inX1 rfl 5 (by decide) tf_RX1_27 (cx_Heap (L_u0 0 _ rfl)) rfl dX1_giveOut_15 ?_
  refine lv_iload_n hx hb dX1_giveOut_18 rfl (lv_at hl 0 rfl) ?_
  obtain ⟨hi27, hf⟩ := xif_s hf
  refine x_iald (j := (Int32.toNatClampNeg v2)) C hm (cx_I (L_u0 6 _ rfl)) hi27 dX1_giveOut_19 rfl ?_
  refine lv_iload_n hx hb dX1_giveOut_20 rfl (lv_at hl 3 rfl) ?_
  refine lv_iadd hx hb dX1_giveOut_21 ?_
  refine lv_bipush (v := (8 : Int32)) hx hb dX1_giveOut_22 (by decide) ?_
  refine lv_icmp_le (tgt := 78) hx hb dX1_giveOut_24 (by decide) (fun hc28 => ?_) (fun hc28 => ?_)
  · have hf := xif_t hc28 hf
    exact jk6 v2 M H locs ls  hf hm (lv_sub hl [1, 3, 0] rfl)
  have hf := xif_f hc28 hf
  exact jk10  H locs ls  hf hm (lv_sub hl [1, 2, 3] rfl)
/-! ColouredHeap$Heap.hasBegun(I)Z -/
theorem dX1_hasBegun_0 : decode cX1_hasBegun 0 = .ok (.iload_n 1, 1) := by decide +kernel
theorem dX1_hasBegun_1 : decode cX1_hasBegun 1 = .ok (.ifCond .lt 22, 3) := by decide +kernel
theorem dX1_hasBegun_4 : decode cX1_hasBegun 4 = .ok (.iload_n 1, 1) := by decide +kernel
theorem dX1_hasBegun_5 : decode cX1_hasBegun 5 = .ok (.iconst 2, 1) := by decide +kernel
theorem dX1_hasBegun_6 : decode cX1_hasBegun 6 = .ok (.if_icmp .ge 17, 3) := by decide +kernel
theorem dX1_hasBegun_9 : decode cX1_hasBegun 9 = .ok (.aload_n 0, 1) := by decide +kernel
theorem dX1_hasBegun_10 : decode cX1_hasBegun 10 = .ok (.getfield 39, 3) := by decide +kernel
theorem dX1_hasBegun_13 : decode cX1_hasBegun 13 = .ok (.iload_n 1, 1) := by decide +kernel
theorem dX1_hasBegun_14 : decode cX1_hasBegun 14 = .ok (.iaload, 1) := by decide +kernel
theorem dX1_hasBegun_15 : decode cX1_hasBegun 15 = .ok (.iconst (-1), 1) := by decide +kernel
theorem dX1_hasBegun_16 : decode cX1_hasBegun 16 = .ok (.if_icmp .eq 7, 3) := by decide +kernel
theorem dX1_hasBegun_19 : decode cX1_hasBegun 19 = .ok (.iconst 1, 1) := by decide +kernel
theorem dX1_hasBegun_20 : decode cX1_hasBegun 20 = .ok (.goto 4, 3) := by decide +kernel
theorem dX1_hasBegun_23 : decode cX1_hasBegun 23 = .ok (.iconst 0, 1) := by decide +kernel
theorem dX1_hasBegun_24 : decode cX1_hasBegun 24 = .ok (.ireturn, 1) := by decide +kernel
def f_X1_hasBegun (u0 : Nat) (M : xm) (a1 : Int32) : Option (Int32) := (if a1 < 0 then some (0 : Int32) else (if (2 : Int32) ≤ a1 then some (0 : Int32) else if xin a1 2 = true then (if (M (u0 + 10) (Int32.toNatClampNeg a1)) = (-1 : Int32) then some (0 : Int32) else some (1 : Int32)) else none))
set_option maxHeartbeats 4000000 in
set_option maxRecDepth 20000 in
theorem c_X1_hasBegun (l : Launch) (E : xE) (b : Nat) {u0 : Nat} (L_u0 : lat u0 pHeap) (M : xm) (a1 : Int32) {r : Int32} (hf : f_X1_hasBegun u0 M a1 = some r) :
    xMet l E b NX yX1_hasBegun cX1_hasBegun 2 (some .boolean) (xR 1) [.ref (b + u0), .int a1] (cX E b M) (some (.int r)) (xbo r = true) (cX E b M) := by
  refine xMet.ofW (own := RX1) (by decide) rfl (Nat.le_of_ble_eq_true rfl) ?_
  intro p e s m below meth c H locs ls C hm hl
  have hx := C.1.1
  have hb := C.1.2.1
  have hl : lv_has ls 2 [(0, .ref (b + u0)), (1, .int a1)] := hl
  unfold f_X1_hasBegun at hf
  refine lv_iload_n hx hb dX1_hasBegun_0 rfl (lv_at hl 1 rfl) ?_
  refine lv_if_lt (tgt := 23) hx hb dX1_hasBegun_1 (by decide) (fun hc1 => ?_) (fun hc1 => ?_)
  · have hf := xif_t hc1 hf
    refine lv_iconst (v := (0 : Int32)) hx hb dX1_hasBegun_23 (by decide) ?_
    cases hf
    exact x_zret C hm (by decide) (by decide) dX1_hasBegun_24
  have hf := xif_f hc1 hf
  refine lv_iload_n hx hb dX1_hasBegun_4 rfl (lv_at hl 1 rfl) ?_
  refine lv_iconst (v := (2 : Int32)) hx hb dX1_hasBegun_5 (by decide) ?_
  refine lv_icmp_ge (tgt := 23) hx hb dX1_hasBegun_6 (by decide) (fun hc2 => ?_) (fun hc2 => ?_)
  · have hf := xif_t hc2 hf
    refine lv_iconst (v := (0 : Int32)) hx hb dX1_hasBegun_23 (by decide) ?_
    cases hf
    exact x_zret C hm (by decide) (by decide) dX1_hasBegun_24
  have hf := xif_f hc2 hf
  refine lv_aload_n hx hb dX1_hasBegun_9 rfl (lv_at hl 0 rfl) ?_
  refine x_get C hm inX1 rfl 9 (by decide) tf_RX1_39 (cx_Heap (L_u0 0 _ rfl)) rfl dX1_hasBegun_10 ?_
  refine lv_iload_n hx hb dX1_hasBegun_13 rfl (lv_at hl 1 rfl) ?_
  obtain ⟨hi3, hf⟩ := xif_s hf
  refine x_iald (j := (Int32.toNatClampNeg a1)) C hm (cx_I (L_u0 10 _ rfl)) hi3 dX1_hasBegun_14 rfl ?_
  refine lv_iconst (v := (-1 : Int32)) hx hb dX1_hasBegun_15 (by decide) ?_
  refine lv_icmp_eq (tgt := 23) hx hb dX1_hasBegun_16 (by decide) (fun hc4 => ?_) (fun hc4 => ?_)
  · have hf := xif_t hc4 hf
    refine lv_iconst (v := (0 : Int32)) hx hb dX1_hasBegun_23 (by decide) ?_
    cases hf
    exact x_zret C hm (by decide) (by decide) dX1_hasBegun_24
  have hf := xif_f hc4 hf
  refine lv_iconst (v := (1 : Int32)) hx hb dX1_hasBegun_19 (by decide) ?_
  refine lv_goto (tgt := 24) hx hb dX1_hasBegun_20 (by decide) ?_
  cases hf
  exact x_zret C hm (by decide) (by decide) dX1_hasBegun_24
/-! ColouredHeap$Heap.leadsTo(I)I -/
theorem dX1_leadsTo_0 : decode cX1_leadsTo 0 = .ok (.iload_n 1, 1) := by decide +kernel
theorem dX1_leadsTo_1 : decode cX1_leadsTo 1 = .ok (.ifCond .lt 10, 3) := by decide +kernel
theorem dX1_leadsTo_4 : decode cX1_leadsTo 4 = .ok (.iload_n 1, 1) := by decide +kernel
theorem dX1_leadsTo_5 : decode cX1_leadsTo 5 = .ok (.sipush 192, 3) := by decide +kernel
theorem dX1_leadsTo_8 : decode cX1_leadsTo 8 = .ok (.if_icmp .lt 5, 3) := by decide +kernel
theorem dX1_leadsTo_11 : decode cX1_leadsTo 11 = .ok (.iconst (-1), 1) := by decide +kernel
theorem dX1_leadsTo_12 : decode cX1_leadsTo 12 = .ok (.ireturn, 1) := by decide +kernel
theorem dX1_leadsTo_13 : decode cX1_leadsTo 13 = .ok (.iload_n 1, 1) := by decide +kernel
theorem dX1_leadsTo_14 : decode cX1_leadsTo 14 = .ok (.bipush 64, 2) := by decide +kernel
theorem dX1_leadsTo_16 : decode cX1_leadsTo 16 = .ok (.idiv, 1) := by decide +kernel
theorem dX1_leadsTo_17 : decode cX1_leadsTo 17 = .ok (.istore_n 2, 1) := by decide +kernel
theorem dX1_leadsTo_18 : decode cX1_leadsTo 18 = .ok (.iload_n 1, 1) := by decide +kernel
theorem dX1_leadsTo_19 : decode cX1_leadsTo 19 = .ok (.bipush 64, 2) := by decide +kernel
theorem dX1_leadsTo_21 : decode cX1_leadsTo 21 = .ok (.irem, 1) := by decide +kernel
theorem dX1_leadsTo_22 : decode cX1_leadsTo 22 = .ok (.istore_n 3, 1) := by decide +kernel
theorem dX1_leadsTo_23 : decode cX1_leadsTo 23 = .ok (.iload_n 2, 1) := by decide +kernel
theorem dX1_leadsTo_24 : decode cX1_leadsTo 24 = .ok (.aload_n 0, 1) := by decide +kernel
theorem dX1_leadsTo_25 : decode cX1_leadsTo 25 = .ok (.getfield 62, 3) := by decide +kernel
theorem dX1_leadsTo_28 : decode cX1_leadsTo 28 = .ok (.if_icmp .eq 18, 3) := by decide +kernel
theorem dX1_leadsTo_31 : decode cX1_leadsTo 31 = .ok (.iload_n 2, 1) := by decide +kernel
theorem dX1_leadsTo_32 : decode cX1_leadsTo 32 = .ok (.iconst 2, 1) := by decide +kernel
theorem dX1_leadsTo_33 : decode cX1_leadsTo 33 = .ok (.if_icmp .eq 13, 3) := by decide +kernel
theorem dX1_leadsTo_36 : decode cX1_leadsTo 36 = .ok (.aload_n 0, 1) := by decide +kernel
theorem dX1_leadsTo_37 : decode cX1_leadsTo 37 = .ok (.getfield 15, 3) := by decide +kernel
theorem dX1_leadsTo_40 : decode cX1_leadsTo 40 = .ok (.iload_n 3, 1) := by decide +kernel
theorem dX1_leadsTo_41 : decode cX1_leadsTo 41 = .ok (.iaload, 1) := by decide +kernel
theorem dX1_leadsTo_42 : decode cX1_leadsTo 42 = .ok (.iconst (-1), 1) := by decide +kernel
theorem dX1_leadsTo_43 : decode cX1_leadsTo 43 = .ok (.if_icmp .ne 7, 3) := by decide +kernel
theorem dX1_leadsTo_46 : decode cX1_leadsTo 46 = .ok (.iconst 1, 1) := by decide +kernel
theorem dX1_leadsTo_47 : decode cX1_leadsTo 47 = .ok (.goto 4, 3) := by decide +kernel
theorem dX1_leadsTo_50 : decode cX1_leadsTo 50 = .ok (.iconst 0, 1) := by decide +kernel
theorem dX1_leadsTo_51 : decode cX1_leadsTo 51 = .ok (.istore 4, 2) := by decide +kernel
theorem dX1_leadsTo_53 : decode cX1_leadsTo 53 = .ok (.iload 4, 2) := by decide +kernel
theorem dX1_leadsTo_55 : decode cX1_leadsTo 55 = .ok (.ifCond .eq 7, 3) := by decide +kernel
theorem dX1_leadsTo_58 : decode cX1_leadsTo 58 = .ok (.iload_n 3, 1) := by decide +kernel
theorem dX1_leadsTo_59 : decode cX1_leadsTo 59 = .ok (.goto 9, 3) := by decide +kernel
theorem dX1_leadsTo_62 : decode cX1_leadsTo 62 = .ok (.aload_n 0, 1) := by decide +kernel
theorem dX1_leadsTo_63 : decode cX1_leadsTo 63 = .ok (.getfield 15, 3) := by decide +kernel
theorem dX1_leadsTo_66 : decode cX1_leadsTo 66 = .ok (.iload_n 3, 1) := by decide +kernel
theorem dX1_leadsTo_67 : decode cX1_leadsTo 67 = .ok (.iaload, 1) := by decide +kernel
theorem dX1_leadsTo_68 : decode cX1_leadsTo 68 = .ok (.ireturn, 1) := by decide +kernel
def f_X1_leadsTo (u0 : Nat) (M : xm) (a1 : Int32) : Option (Int32) := (if a1 < 0 then some (-1 : Int32) else (if a1 < (192 : Int32) then xlet (a1 / (64 : Int32)) (fun v3 => xlet (xrem a1 (64 : Int32)) (fun v4 => xlet (fun (w5 : Int32) => (if w5 = 0 then if xin v4 64 = true then some (M (u0 + 2) (Int32.toNatClampNeg v4)) else none else some v4)) (fun k6 => xlet ((k6 (1 : Int32))) (fun k9 => (if v3 = (M u0 15) then k9 else (if v3 = (2 : Int32) then k9 else if xin v4 64 = true then (if (M (u0 + 2) (Int32.toNatClampNeg v4)) = (-1 : Int32) then k9 else (k6 (0 : Int32))) else none)))))) else some (-1 : Int32)))
set_option maxHeartbeats 4000000 in
set_option maxRecDepth 20000 in
theorem c_X1_leadsTo (l : Launch) (E : xE) (b : Nat) {u0 : Nat} (L_u0 : lat u0 pHeap) (M : xm) (a1 : Int32) {r : Int32} (hf : f_X1_leadsTo u0 M a1 = some r) :
    xMet l E b NX yX1_leadsTo cX1_leadsTo 5 (some .int) (xR 1) [.ref (b + u0), .int a1] (cX E b M) (some (.int r)) True (cX E b M) := by
  refine xMet.ofW (own := RX1) (by decide) rfl (Nat.le_of_ble_eq_true rfl) ?_
  intro p e s m below meth c H locs ls C hm hl
  have hx := C.1.1
  have hb := C.1.2.1
  have hl : lv_has ls 5 [(0, .ref (b + u0)), (1, .int a1)] := hl
  unfold f_X1_leadsTo at hf
  refine lv_iload_n hx hb dX1_leadsTo_0 rfl (lv_at hl 1 rfl) ?_
  refine lv_if_lt (tgt := 11) hx hb dX1_leadsTo_1 (by decide) (fun hc1 => ?_) (fun hc1 => ?_)
  · have hf := xif_t hc1 hf
    refine lv_iconst (v := (-1 : Int32)) hx hb dX1_leadsTo_11 (by decide) ?_
    cases hf
    exact x_iret C hm trivial dX1_leadsTo_12
  have hf := xif_f hc1 hf
  refine lv_iload_n hx hb dX1_leadsTo_4 rfl (lv_at hl 1 rfl) ?_
  refine lv_sipush (v := (192 : Int32)) hx hb dX1_leadsTo_5 (by decide) ?_
  refine lv_icmp_lt (tgt := 13) hx hb dX1_leadsTo_8 (by decide) (fun hc2 => ?_) (fun hc2 => ?_)
  rotate_left
  · have hf := xif_f hc2 hf
    refine lv_iconst (v := (-1 : Int32)) hx hb dX1_leadsTo_11 (by decide) ?_
    cases hf
    exact x_iret C hm trivial dX1_leadsTo_12
  have hf := xif_t hc2 hf
  refine lv_iload_n hx hb dX1_leadsTo_13 rfl (lv_at hl 1 rfl) ?_
  refine lv_bipush (v := (64 : Int32)) hx hb dX1_leadsTo_14 (by decide) ?_
  refine lv_idiv hx hb dX1_leadsTo_16 (by decide) ?_
  refine lv_topi (fun v3 ev3 => ?_)
  have hf := xlet_e ev3 hf
  refine lv_istore_n (lv' := [(2, .int v3), (0, .ref (b + u0)), (1, .int a1)]) hx hb dX1_leadsTo_17 rfl hl (by decide) rfl (fun ls hl => ?_)
  refine lv_iload_n hx hb dX1_leadsTo_18 rfl (lv_at hl 2 rfl) ?_
  refine lv_bipush (v := (64 : Int32)) hx hb dX1_leadsTo_19 (by decide) ?_
  refine lv_irem hx hb dX1_leadsTo_21 (by decide) ?_
  refine lv_topi (fun v4 ev4 => ?_)
  have hf := xlet_e ev4 hf
  refine lv_istore_n (lv' := [(3, .int v4), (2, .int v3), (0, .ref (b + u0)), (1, .int a1)]) hx hb dX1_leadsTo_22 rfl hl (by decide) rfl (fun ls hl => ?_)
  refine lv_iload_n hx hb dX1_leadsTo_23 rfl (lv_at hl 1 rfl) ?_
  refine lv_aload_n hx hb dX1_leadsTo_24 rfl (lv_at hl 2 rfl) ?_
  refine x_get C hm inX1 rfl 15 (by decide) tf_RX1_62 (cx_Heap (L_u0 0 _ rfl)) rfl dX1_leadsTo_25 ?_
  obtain ⟨k6, ek6, hf⟩ := xlet_x hf
  have jk6 : ∀ (w5 : Int32) (H : Heap) (locs : List Loc) (ls : Array Slot), k6 w5 = some r → xM E b NX (cX E b M) s.heap H locs → lv_has ls 5 [(0, .ref (b + u0)), (3, .int v4)] → W p l e (xR 1) s m ([.ref (b + u0), .int a1] : List Value).toArray below meth c H locs 0 0 (MQ below (xQ E b NX (some (.int r)) True (cX E b M)) ([.ref (b + u0), .int a1] : List Value).toArray s 0 0 (xA b NX)) (F0 m 51 ls [.int w5]) := by
    intro w5 H locs ls hf hm hl
    have hf := xap1 ek6 hf
    refine lv_istore (lv' := [(4, .int w5), (0, .ref (b + u0)), (3, .int v4)]) hx hb dX1_leadsTo_51 hl (by decide) rfl (fun ls hl => ?_)
    refine lv_iload hx hb dX1_leadsTo_53 (lv_at hl 0 rfl) ?_
    refine lv_if_eq (tgt := 62) hx hb dX1_leadsTo_55 (by decide) (fun hc7 => ?_) (fun hc7 => ?_)
    rotate_left
    · have hf := xif_f hc7 hf
      refine lv_iload_n hx hb dX1_leadsTo_58 rfl (lv_at hl 2 rfl) ?_
      refine lv_goto (tgt := 68) hx hb dX1_leadsTo_59 (by decide) ?_
      cases hf
      exact x_iret C hm trivial dX1_leadsTo_68
    have hf := xif_t hc7 hf
    refine lv_aload_n hx hb dX1_leadsTo_62 rfl (lv_at hl 1 rfl) ?_
    refine x_get C hm inX1 rfl 1 (by decide) tf_RX1_15 (cx_Heap (L_u0 0 _ rfl)) rfl dX1_leadsTo_63 ?_
    refine lv_iload_n hx hb dX1_leadsTo_66 rfl (lv_at hl 2 rfl) ?_
    obtain ⟨hi8, hf⟩ := xif_s hf
    refine x_iald (j := (Int32.toNatClampNeg v4)) C hm (cx_I (L_u0 2 _ rfl)) hi8 dX1_leadsTo_67 rfl ?_
    cases hf
    exact x_iret C hm trivial dX1_leadsTo_68
  obtain ⟨k9, ek9, hf⟩ := xlet_x hf
  have jk9 : ∀  (H : Heap) (locs : List Loc) (ls : Array Slot), k9 = some r → xM E b NX (cX E b M) s.heap H locs → lv_has ls 5 [(0, .ref (b + u0)), (3, .int v4)] → W p l e (xR 1) s m ([.ref (b + u0), .int a1] : List Value).toArray below meth c H locs 0 0 (MQ below (xQ E b NX (some (.int r)) True (cX E b M)) ([.ref (b + u0), .int a1] : List Value).toArray s 0 0 (xA b NX)) (F0 m 46 ls []) := by
    intro  H locs ls hf hm hl
    have hf := xap0 ek9 hf
    refine lv_iconst (v := (1 : Int32)) hx hb dX1_leadsTo_46 (by decide) ?_
    refine lv_goto (tgt := 51) hx hb dX1_leadsTo_47 (by decide) ?_
    exact jk6 (1 : Int32) H locs ls  hf hm (lv_sub hl [0, 1] rfl)
  refine lv_icmp_eq (tgt := 46) hx hb dX1_leadsTo_28 (by decide) (fun hc10 => ?_) (fun hc10 => ?_)
  · have hf := xif_t hc10 hf
    exact jk9  H locs ls  hf hm (lv_sub hl [2, 0] rfl)
  have hf := xif_f hc10 hf
  refine lv_iload_n hx hb dX1_leadsTo_31 rfl (lv_at hl 1 rfl) ?_
  refine lv_iconst (v := (2 : Int32)) hx hb dX1_leadsTo_32 (by decide) ?_
  refine lv_icmp_eq (tgt := 46) hx hb dX1_leadsTo_33 (by decide) (fun hc11 => ?_) (fun hc11 => ?_)
  · have hf := xif_t hc11 hf
    exact jk9  H locs ls  hf hm (lv_sub hl [2, 0] rfl)
  have hf := xif_f hc11 hf
  refine lv_aload_n hx hb dX1_leadsTo_36 rfl (lv_at hl 2 rfl) ?_
  refine x_get C hm inX1 rfl 1 (by decide) tf_RX1_15 (cx_Heap (L_u0 0 _ rfl)) rfl dX1_leadsTo_37 ?_
  refine lv_iload_n hx hb dX1_leadsTo_40 rfl (lv_at hl 0 rfl) ?_
  obtain ⟨hi12, hf⟩ := xif_s hf
  refine x_iald (j := (Int32.toNatClampNeg v4)) C hm (cx_I (L_u0 2 _ rfl)) hi12 dX1_leadsTo_41 rfl ?_
  refine lv_iconst (v := (-1 : Int32)) hx hb dX1_leadsTo_42 (by decide) ?_
  refine lv_icmp_ne (tgt := 50) hx hb dX1_leadsTo_43 (by decide) (fun hc13 => ?_) (fun hc13 => ?_)
  rotate_left
  · have hf := xif_t hc13 hf
    exact jk9  H locs ls  hf hm (lv_sub hl [2, 0] rfl)
  have hf := xif_f hc13 hf
  refine lv_iconst (v := (0 : Int32)) hx hb dX1_leadsTo_50 (by decide) ?_
  exact jk6 (0 : Int32) H locs ls  hf hm (lv_sub hl [2, 0] rfl)
/-! ColouredHeap$Heap.mustMove(I)Z -/
theorem dX1_mustMove_0 : decode cX1_mustMove 0 = .ok (.aload_n 0, 1) := by decide +kernel
theorem dX1_mustMove_1 : decode cX1_mustMove 1 = .ok (.getfield 59, 3) := by decide +kernel
theorem dX1_mustMove_4 : decode cX1_mustMove 4 = .ok (.iconst 2, 1) := by decide +kernel
theorem dX1_mustMove_5 : decode cX1_mustMove 5 = .ok (.if_icmp .ne 37, 3) := by decide +kernel
theorem dX1_mustMove_8 : decode cX1_mustMove 8 = .ok (.iload_n 1, 1) := by decide +kernel
theorem dX1_mustMove_9 : decode cX1_mustMove 9 = .ok (.invokestatic 90, 3) := by decide +kernel
theorem dX1_mustMove_12 : decode cX1_mustMove 12 = .ok (.ifCond .eq 30, 3) := by decide +kernel
theorem dX1_mustMove_15 : decode cX1_mustMove 15 = .ok (.aload_n 0, 1) := by decide +kernel
theorem dX1_mustMove_16 : decode cX1_mustMove 16 = .ok (.getfield 30, 3) := by decide +kernel
theorem dX1_mustMove_19 : decode cX1_mustMove 19 = .ok (.iload_n 1, 1) := by decide +kernel
theorem dX1_mustMove_20 : decode cX1_mustMove 20 = .ok (.bipush 8, 2) := by decide +kernel
theorem dX1_mustMove_22 : decode cX1_mustMove 22 = .ok (.idiv, 1) := by decide +kernel
theorem dX1_mustMove_23 : decode cX1_mustMove 23 = .ok (.iaload, 1) := by decide +kernel
theorem dX1_mustMove_24 : decode cX1_mustMove 24 = .ok (.iconst 2, 1) := by decide +kernel
theorem dX1_mustMove_25 : decode cX1_mustMove 25 = .ok (.if_icmp .ne 17, 3) := by decide +kernel
theorem dX1_mustMove_28 : decode cX1_mustMove 28 = .ok (.aload_n 0, 1) := by decide +kernel
theorem dX1_mustMove_29 : decode cX1_mustMove 29 = .ok (.getfield 15, 3) := by decide +kernel
theorem dX1_mustMove_32 : decode cX1_mustMove 32 = .ok (.iload_n 1, 1) := by decide +kernel
theorem dX1_mustMove_33 : decode cX1_mustMove 33 = .ok (.iaload, 1) := by decide +kernel
theorem dX1_mustMove_34 : decode cX1_mustMove 34 = .ok (.iconst (-1), 1) := by decide +kernel
theorem dX1_mustMove_35 : decode cX1_mustMove 35 = .ok (.if_icmp .ne 7, 3) := by decide +kernel
theorem dX1_mustMove_38 : decode cX1_mustMove 38 = .ok (.iconst 1, 1) := by decide +kernel
theorem dX1_mustMove_39 : decode cX1_mustMove 39 = .ok (.goto 4, 3) := by decide +kernel
theorem dX1_mustMove_42 : decode cX1_mustMove 42 = .ok (.iconst 0, 1) := by decide +kernel
theorem dX1_mustMove_43 : decode cX1_mustMove 43 = .ok (.ireturn, 1) := by decide +kernel
def f_X1_mustMove (u0 : Nat) (M : xm) (a1 : Int32) : Option (Int32) := (if (M u0 14) = (2 : Int32) then (if (f_X9_isAddress a1) = 0 then some (0 : Int32) else if xin (a1 / (8 : Int32)) 8 = true then (if (M (u0 + 7) (Int32.toNatClampNeg (a1 / (8 : Int32)))) = (2 : Int32) then if xin a1 64 = true then (if (M (u0 + 2) (Int32.toNatClampNeg a1)) = (-1 : Int32) then some (1 : Int32) else some (0 : Int32)) else none else some (0 : Int32)) else none) else some (0 : Int32))
set_option maxHeartbeats 4000000 in
set_option maxRecDepth 20000 in
theorem c_X1_mustMove (l : Launch) (E : xE) (b : Nat) {u0 : Nat} (L_u0 : lat u0 pHeap) (M : xm) (a1 : Int32) {r : Int32} (hf : f_X1_mustMove u0 M a1 = some r) :
    xMet l E b NX yX1_mustMove cX1_mustMove 2 (some .boolean) (xR 2) [.ref (b + u0), .int a1] (cX E b M) (some (.int r)) (xbo r = true) (cX E b M) := by
  refine xMet.ofW (own := RX1) (by decide) rfl (Nat.le_of_ble_eq_true rfl) ?_
  intro p e s m below meth c H locs ls C hm hl
  have hx := C.1.1
  have hb := C.1.2.1
  have hl : lv_has ls 2 [(0, .ref (b + u0)), (1, .int a1)] := hl
  unfold f_X1_mustMove at hf
  refine lv_aload_n hx hb dX1_mustMove_0 rfl (lv_at hl 0 rfl) ?_
  refine x_get C hm inX1 rfl 14 (by decide) tf_RX1_59 (cx_Heap (L_u0 0 _ rfl)) rfl dX1_mustMove_1 ?_
  refine lv_iconst (v := (2 : Int32)) hx hb dX1_mustMove_4 (by decide) ?_
  refine lv_icmp_ne (tgt := 42) hx hb dX1_mustMove_5 (by decide) (fun hc1 => ?_) (fun hc1 => ?_)
  · have hf := xif_f hc1 hf
    refine lv_iconst (v := (0 : Int32)) hx hb dX1_mustMove_42 (by decide) ?_
    cases hf
    exact x_zret C hm (by decide) (by decide) dX1_mustMove_43
  have hf := xif_t hc1 hf
  refine lv_iload_n hx hb dX1_mustMove_8 rfl (lv_at hl 1 rfl) ?_
  refine x_callSNi (As := [.int a1]) (rest := []) C hm (c_X9_isAddress l E b M a1 rfl) tc_X9_isAddress (by decide +kernel : (RX1, 90, yX9_isAddress, "ColouredHeap") ∈ xNest) tz_X9_isAddress tn_RX9 td_X9_isAddress rfl rfl ⟨Nat.le_of_ble_eq_true rfl, Nat.le_of_ble_eq_true rfl⟩ rfl hl.1 rfl (Nat.le_of_ble_eq_true rfl) ⟨Nat.zero_le _, Nat.zero_le _⟩ dX1_mustMove_9 (fun H locs hP2 hm => ?_)
  refine lv_if_eq (tgt := 42) hx hb dX1_mustMove_12 (by decide) (fun hc3 => ?_) (fun hc3 => ?_)
  · have hf := xif_t hc3 hf
    refine lv_iconst (v := (0 : Int32)) hx hb dX1_mustMove_42 (by decide) ?_
    cases hf
    exact x_zret C hm (by decide) (by decide) dX1_mustMove_43
  have hf := xif_f hc3 hf
  refine lv_aload_n hx hb dX1_mustMove_15 rfl (lv_at hl 0 rfl) ?_
  refine x_get C hm inX1 rfl 6 (by decide) tf_RX1_30 (cx_Heap (L_u0 0 _ rfl)) rfl dX1_mustMove_16 ?_
  refine lv_iload_n hx hb dX1_mustMove_19 rfl (lv_at hl 1 rfl) ?_
  refine lv_bipush (v := (8 : Int32)) hx hb dX1_mustMove_20 (by decide) ?_
  refine lv_idiv hx hb dX1_mustMove_22 (by decide) ?_
  obtain ⟨hi4, hf⟩ := xif_s hf
  refine x_iald (j := (Int32.toNatClampNeg (a1 / (8 : Int32)))) C hm (cx_I (L_u0 7 _ rfl)) hi4 dX1_mustMove_23 rfl ?_
  refine lv_iconst (v := (2 : Int32)) hx hb dX1_mustMove_24 (by decide) ?_
  refine lv_icmp_ne (tgt := 42) hx hb dX1_mustMove_25 (by decide) (fun hc5 => ?_) (fun hc5 => ?_)
  · have hf := xif_f hc5 hf
    refine lv_iconst (v := (0 : Int32)) hx hb dX1_mustMove_42 (by decide) ?_
    cases hf
    exact x_zret C hm (by decide) (by decide) dX1_mustMove_43
  have hf := xif_t hc5 hf
  refine lv_aload_n hx hb dX1_mustMove_28 rfl (lv_at hl 0 rfl) ?_
  refine x_get C hm inX1 rfl 1 (by decide) tf_RX1_15 (cx_Heap (L_u0 0 _ rfl)) rfl dX1_mustMove_29 ?_
  refine lv_iload_n hx hb dX1_mustMove_32 rfl (lv_at hl 1 rfl) ?_
  obtain ⟨hi6, hf⟩ := xif_s hf
  refine x_iald (j := (Int32.toNatClampNeg a1)) C hm (cx_I (L_u0 2 _ rfl)) hi6 dX1_mustMove_33 rfl ?_
  refine lv_iconst (v := (-1 : Int32)) hx hb dX1_mustMove_34 (by decide) ?_
  refine lv_icmp_ne (tgt := 42) hx hb dX1_mustMove_35 (by decide) (fun hc7 => ?_) (fun hc7 => ?_)
  · have hf := xif_f hc7 hf
    refine lv_iconst (v := (0 : Int32)) hx hb dX1_mustMove_42 (by decide) ?_
    cases hf
    exact x_zret C hm (by decide) (by decide) dX1_mustMove_43
  have hf := xif_t hc7 hf
  refine lv_iconst (v := (1 : Int32)) hx hb dX1_mustMove_38 (by decide) ?_
  refine lv_goto (tgt := 43) hx hb dX1_mustMove_39 (by decide) ?_
  cases hf
  exact x_zret C hm (by decide) (by decide) dX1_mustMove_43
/-! ColouredHeap$Heap.beginRead(III)I -/
theorem dX1_beginRead_0 : decode cX1_beginRead 0 = .ok (.aload_n 0, 1) := by decide +kernel
theorem dX1_beginRead_1 : decode cX1_beginRead 1 = .ok (.iload_n 2, 1) := by decide +kernel
theorem dX1_beginRead_2 : decode cX1_beginRead 2 = .ok (.iload_n 3, 1) := by decide +kernel
theorem dX1_beginRead_3 : decode cX1_beginRead 3 = .ok (.invokevirtual 150, 3) := by decide +kernel
theorem dX1_beginRead_6 : decode cX1_beginRead 6 = .ok (.istore 4, 2) := by decide +kernel
theorem dX1_beginRead_8 : decode cX1_beginRead 8 = .ok (.iload_n 1, 1) := by decide +kernel
theorem dX1_beginRead_9 : decode cX1_beginRead 9 = .ok (.ifCond .lt 24, 3) := by decide +kernel
theorem dX1_beginRead_12 : decode cX1_beginRead 12 = .ok (.iload_n 1, 1) := by decide +kernel
theorem dX1_beginRead_13 : decode cX1_beginRead 13 = .ok (.iconst 2, 1) := by decide +kernel
theorem dX1_beginRead_14 : decode cX1_beginRead 14 = .ok (.if_icmp .ge 19, 3) := by decide +kernel
theorem dX1_beginRead_17 : decode cX1_beginRead 17 = .ok (.aload_n 0, 1) := by decide +kernel
theorem dX1_beginRead_18 : decode cX1_beginRead 18 = .ok (.iload_n 1, 1) := by decide +kernel
theorem dX1_beginRead_19 : decode cX1_beginRead 19 = .ok (.invokevirtual 101, 3) := by decide +kernel
theorem dX1_beginRead_22 : decode cX1_beginRead 22 = .ok (.ifCond .ne 11, 3) := by decide +kernel
theorem dX1_beginRead_25 : decode cX1_beginRead 25 = .ok (.iload 4, 2) := by decide +kernel
theorem dX1_beginRead_27 : decode cX1_beginRead 27 = .ok (.invokestatic 90, 3) := by decide +kernel
theorem dX1_beginRead_30 : decode cX1_beginRead 30 = .ok (.ifCond .ne 5, 3) := by decide +kernel
theorem dX1_beginRead_33 : decode cX1_beginRead 33 = .ok (.iconst (-1), 1) := by decide +kernel
theorem dX1_beginRead_34 : decode cX1_beginRead 34 = .ok (.ireturn, 1) := by decide +kernel
theorem dX1_beginRead_35 : decode cX1_beginRead 35 = .ok (.aload_n 0, 1) := by decide +kernel
theorem dX1_beginRead_36 : decode cX1_beginRead 36 = .ok (.getfield 9, 3) := by decide +kernel
theorem dX1_beginRead_39 : decode cX1_beginRead 39 = .ok (.iload 4, 2) := by decide +kernel
theorem dX1_beginRead_41 : decode cX1_beginRead 41 = .ok (.iaload, 1) := by decide +kernel
theorem dX1_beginRead_42 : decode cX1_beginRead 42 = .ok (.istore 5, 2) := by decide +kernel
theorem dX1_beginRead_44 : decode cX1_beginRead 44 = .ok (.aload_n 0, 1) := by decide +kernel
theorem dX1_beginRead_45 : decode cX1_beginRead 45 = .ok (.iload 5, 2) := by decide +kernel
theorem dX1_beginRead_47 : decode cX1_beginRead 47 = .ok (.invokevirtual 135, 3) := by decide +kernel
theorem dX1_beginRead_50 : decode cX1_beginRead 50 = .ok (.istore 6, 2) := by decide +kernel
theorem dX1_beginRead_52 : decode cX1_beginRead 52 = .ok (.iconst (-1), 1) := by decide +kernel
theorem dX1_beginRead_53 : decode cX1_beginRead 53 = .ok (.istore 7, 2) := by decide +kernel
theorem dX1_beginRead_55 : decode cX1_beginRead 55 = .ok (.iload 5, 2) := by decide +kernel
theorem dX1_beginRead_57 : decode cX1_beginRead 57 = .ok (.ifCond .lt 59, 3) := by decide +kernel
theorem dX1_beginRead_60 : decode cX1_beginRead 60 = .ok (.iload 5, 2) := by decide +kernel
theorem dX1_beginRead_62 : decode cX1_beginRead 62 = .ok (.bipush 64, 2) := by decide +kernel
theorem dX1_beginRead_64 : decode cX1_beginRead 64 = .ok (.idiv, 1) := by decide +kernel
theorem dX1_beginRead_65 : decode cX1_beginRead 65 = .ok (.aload_n 0, 1) := by decide +kernel
theorem dX1_beginRead_66 : decode cX1_beginRead 66 = .ok (.getfield 62, 3) := by decide +kernel
theorem dX1_beginRead_69 : decode cX1_beginRead 69 = .ok (.if_icmp .eq 47, 3) := by decide +kernel
theorem dX1_beginRead_72 : decode cX1_beginRead 72 = .ok (.aload_n 0, 1) := by decide +kernel
theorem dX1_beginRead_73 : decode cX1_beginRead 73 = .ok (.iload 6, 2) := by decide +kernel
theorem dX1_beginRead_75 : decode cX1_beginRead 75 = .ok (.invokevirtual 141, 3) := by decide +kernel
theorem dX1_beginRead_78 : decode cX1_beginRead 78 = .ok (.ifCond .eq 38, 3) := by decide +kernel
theorem dX1_beginRead_81 : decode cX1_beginRead 81 = .ok (.aload_n 0, 1) := by decide +kernel
theorem dX1_beginRead_82 : decode cX1_beginRead 82 = .ok (.iconst 1, 1) := by decide +kernel
theorem dX1_beginRead_83 : decode cX1_beginRead 83 = .ok (.aload_n 0, 1) := by decide +kernel
theorem dX1_beginRead_84 : decode cX1_beginRead 84 = .ok (.iload 6, 2) := by decide +kernel
theorem dX1_beginRead_86 : decode cX1_beginRead 86 = .ok (.invokevirtual 94, 3) := by decide +kernel
theorem dX1_beginRead_89 : decode cX1_beginRead 89 = .ok (.invokevirtual 125, 3) := by decide +kernel
theorem dX1_beginRead_92 : decode cX1_beginRead 92 = .ok (.istore 7, 2) := by decide +kernel
theorem dX1_beginRead_94 : decode cX1_beginRead 94 = .ok (.iload 7, 2) := by decide +kernel
theorem dX1_beginRead_96 : decode cX1_beginRead 96 = .ok (.iconst (-1), 1) := by decide +kernel
theorem dX1_beginRead_97 : decode cX1_beginRead 97 = .ok (.if_icmp .ne 5, 3) := by decide +kernel
theorem dX1_beginRead_100 : decode cX1_beginRead 100 = .ok (.iconst (-1), 1) := by decide +kernel
theorem dX1_beginRead_101 : decode cX1_beginRead 101 = .ok (.ireturn, 1) := by decide +kernel
theorem dX1_beginRead_102 : decode cX1_beginRead 102 = .ok (.aload_n 0, 1) := by decide +kernel
theorem dX1_beginRead_103 : decode cX1_beginRead 103 = .ok (.iload 6, 2) := by decide +kernel
theorem dX1_beginRead_105 : decode cX1_beginRead 105 = .ok (.iload 7, 2) := by decide +kernel
theorem dX1_beginRead_107 : decode cX1_beginRead 107 = .ok (.aload_n 0, 1) := by decide +kernel
theorem dX1_beginRead_108 : decode cX1_beginRead 108 = .ok (.iload 6, 2) := by decide +kernel
theorem dX1_beginRead_110 : decode cX1_beginRead 110 = .ok (.invokevirtual 94, 3) := by decide +kernel
theorem dX1_beginRead_113 : decode cX1_beginRead 113 = .ok (.invokevirtual 128, 3) := by decide +kernel
theorem dX1_beginRead_116 : decode cX1_beginRead 116 = .ok (.aload_n 0, 1) := by decide +kernel
theorem dX1_beginRead_117 : decode cX1_beginRead 117 = .ok (.getfield 39, 3) := by decide +kernel
theorem dX1_beginRead_120 : decode cX1_beginRead 120 = .ok (.iload_n 1, 1) := by decide +kernel
theorem dX1_beginRead_121 : decode cX1_beginRead 121 = .ok (.iload 4, 2) := by decide +kernel
theorem dX1_beginRead_123 : decode cX1_beginRead 123 = .ok (.iastore, 1) := by decide +kernel
theorem dX1_beginRead_124 : decode cX1_beginRead 124 = .ok (.aload_n 0, 1) := by decide +kernel
theorem dX1_beginRead_125 : decode cX1_beginRead 125 = .ok (.getfield 42, 3) := by decide +kernel
theorem dX1_beginRead_128 : decode cX1_beginRead 128 = .ok (.iload_n 1, 1) := by decide +kernel
theorem dX1_beginRead_129 : decode cX1_beginRead 129 = .ok (.iload 5, 2) := by decide +kernel
theorem dX1_beginRead_131 : decode cX1_beginRead 131 = .ok (.iastore, 1) := by decide +kernel
theorem dX1_beginRead_132 : decode cX1_beginRead 132 = .ok (.aload_n 0, 1) := by decide +kernel
theorem dX1_beginRead_133 : decode cX1_beginRead 133 = .ok (.getfield 45, 3) := by decide +kernel
theorem dX1_beginRead_136 : decode cX1_beginRead 136 = .ok (.iload_n 1, 1) := by decide +kernel
theorem dX1_beginRead_137 : decode cX1_beginRead 137 = .ok (.iload 7, 2) := by decide +kernel
theorem dX1_beginRead_139 : decode cX1_beginRead 139 = .ok (.iastore, 1) := by decide +kernel
theorem dX1_beginRead_140 : decode cX1_beginRead 140 = .ok (.iload 7, 2) := by decide +kernel
theorem dX1_beginRead_142 : decode cX1_beginRead 142 = .ok (.iconst (-1), 1) := by decide +kernel
theorem dX1_beginRead_143 : decode cX1_beginRead 143 = .ok (.if_icmp .ne 7, 3) := by decide +kernel
theorem dX1_beginRead_146 : decode cX1_beginRead 146 = .ok (.iconst 0, 1) := by decide +kernel
theorem dX1_beginRead_147 : decode cX1_beginRead 147 = .ok (.goto 4, 3) := by decide +kernel
theorem dX1_beginRead_150 : decode cX1_beginRead 150 = .ok (.iconst 1, 1) := by decide +kernel
theorem dX1_beginRead_151 : decode cX1_beginRead 151 = .ok (.ireturn, 1) := by decide +kernel
def f_X1_beginRead (u0 : Nat) (M : xm) (a1 : Int32) (a2 : Int32) (a3 : Int32) : Option (Int32 × xm) := xb1 (f_X1_fieldWord u0 M a2 a3) (fun v2 => (if a1 < 0 then some ((-1 : Int32), M) else (if (2 : Int32) ≤ a1 then some ((-1 : Int32), M) else xb1 (f_X1_hasBegun u0 M a1) (fun v7 => (if v7 = 0 then (if (f_X9_isAddress v2) = 0 then some ((-1 : Int32), M) else if xin v2 64 = true then xlet (M (u0 + 1) (Int32.toNatClampNeg v2)) (fun v13 => xb1 (f_X1_leadsTo u0 M v13) (fun v15 => xlet (fun (w17 : Int32) (M18 : xm) => if xin a1 2 = true then xlet (up2 M18 (u0 + 10) (Int32.toNatClampNeg a1) v2) (fun M21 => xlet (up2 M21 (u0 + 11) (Int32.toNatClampNeg a1) v13) (fun M22 => xlet (up2 M22 (u0 + 12) (Int32.toNatClampNeg a1) w17) (fun M23 => (if w17 = (-1 : Int32) then some ((0 : Int32), M23) else some ((1 : Int32), M23))))) else none) (fun k19 => (if v13 < 0 then (k19 (-1 : Int32) M) else (if (v13 / (64 : Int32)) = (M u0 15) then (k19 (-1 : Int32) M) else xb1 (f_X1_mustMove u0 M v15) (fun v28 => (if v28 = 0 then (k19 (-1 : Int32) M) else xb1 (f_X1_sizeAt u0 M v15) (fun v32 => xb2 (f_X1_giveOut u0 M (1 : Int32) v32) (fun v35 M36 => (if v35 = (-1 : Int32) then some ((-1 : Int32), M36) else xb1 (f_X1_sizeAt u0 M36 v15) (fun v40 => xb1 (f_X1_copyWords u0 M36 v15 v35 v40) (fun M43 => (k19 v35 M43))))))))))))) else none) else some ((-1 : Int32), M))))))
set_option maxHeartbeats 4000000 in
set_option maxRecDepth 20000 in
theorem c_X1_beginRead (l : Launch) (E : xE) (b : Nat) {u0 : Nat} (L_u0 : lat u0 pHeap) (M : xm) (a1 : Int32) (a2 : Int32) (a3 : Int32) {r : Int32} {M' : xm} (hf : f_X1_beginRead u0 M a1 a2 a3 = some (r, M')) :
    xMet l E b NX yX1_beginRead cX1_beginRead 8 (some .int) (xR 4) [.ref (b + u0), .int a1, .int a2, .int a3] (cX E b M) (some (.int r)) True (cX E b M') := by
  refine xMet.ofW (own := RX1) (by decide) rfl (Nat.le_of_ble_eq_true rfl) ?_
  intro p e s m below meth c H locs ls C hm hl
  have hx := C.1.1
  have hb := C.1.2.1
  have hl : lv_has ls 8 [(0, .ref (b + u0)), (1, .int a1), (2, .int a2), (3, .int a3)] := hl
  unfold f_X1_beginRead at hf
  refine lv_aload_n hx hb dX1_beginRead_0 rfl (lv_at hl 0 rfl) ?_
  refine lv_iload_n hx hb dX1_beginRead_1 rfl (lv_at hl 2 rfl) ?_
  refine lv_iload_n hx hb dX1_beginRead_2 rfl (lv_at hl 3 rfl) ?_
  obtain ⟨v2, hq1, hf⟩ := xb1_e hf
  refine x_callVi (As := [.int a2, .int a3]) (rest := []) C hm (c_X1_fieldWord l E b L_u0 M a2 a3 hq1) rfl (cx_Heap (L_u0 0 _ rfl)) tc_X1_fieldWord tm_RX1_150 ti_X1_fieldWord ts_X1_fieldWord tn_RX1 td_X1_fieldWord rfl rfl ⟨Nat.le_of_ble_eq_true rfl, Nat.le_of_ble_eq_true rfl⟩ rfl hl.1 rfl (Nat.le_of_ble_eq_true rfl) ⟨Nat.zero_le _, Nat.zero_le _⟩ dX1_beginRead_3 (fun H locs hP3 hm => ?_)
  refine lv_istore (lv' := [(4, .int v2), (0, .ref (b + u0)), (1, .int a1), (2, .int a2), (3, .int a3)]) hx hb dX1_beginRead_6 hl (by decide) rfl (fun ls hl => ?_)
  refine lv_iload_n hx hb dX1_beginRead_8 rfl (lv_at hl 2 rfl) ?_
  refine lv_if_lt (tgt := 33) hx hb dX1_beginRead_9 (by decide) (fun hc4 => ?_) (fun hc4 => ?_)
  · have hf := xif_t hc4 hf
    refine lv_iconst (v := (-1 : Int32)) hx hb dX1_beginRead_33 (by decide) ?_
    cases hf
    exact x_iret C hm trivial dX1_beginRead_34
  have hf := xif_f hc4 hf
  refine lv_iload_n hx hb dX1_beginRead_12 rfl (lv_at hl 2 rfl) ?_
  refine lv_iconst (v := (2 : Int32)) hx hb dX1_beginRead_13 (by decide) ?_
  refine lv_icmp_ge (tgt := 33) hx hb dX1_beginRead_14 (by decide) (fun hc5 => ?_) (fun hc5 => ?_)
  · have hf := xif_t hc5 hf
    refine lv_iconst (v := (-1 : Int32)) hx hb dX1_beginRead_33 (by decide) ?_
    cases hf
    exact x_iret C hm trivial dX1_beginRead_34
  have hf := xif_f hc5 hf
  refine lv_aload_n hx hb dX1_beginRead_17 rfl (lv_at hl 1 rfl) ?_
  refine lv_iload_n hx hb dX1_beginRead_18 rfl (lv_at hl 2 rfl) ?_
  obtain ⟨v7, hq6, hf⟩ := xb1_e hf
  refine x_callVi (As := [.int a1]) (rest := []) C hm (c_X1_hasBegun l E b L_u0 M a1 hq6) rfl (cx_Heap (L_u0 0 _ rfl)) tc_X1_hasBegun tm_RX1_101 ti_X1_hasBegun ts_X1_hasBegun tn_RX1 td_X1_hasBegun rfl rfl ⟨Nat.le_of_ble_eq_true rfl, Nat.le_of_ble_eq_true rfl⟩ rfl hl.1 rfl (Nat.le_of_ble_eq_true rfl) ⟨Nat.zero_le _, Nat.zero_le _⟩ dX1_beginRead_19 (fun H locs hP8 hm => ?_)
  refine lv_if_ne (tgt := 33) hx hb dX1_beginRead_22 (by decide) (fun hc9 => ?_) (fun hc9 => ?_)
  · have hf := xif_f hc9 hf
    refine lv_iconst (v := (-1 : Int32)) hx hb dX1_beginRead_33 (by decide) ?_
    cases hf
    exact x_iret C hm trivial dX1_beginRead_34
  have hf := xif_t hc9 hf
  refine lv_iload hx hb dX1_beginRead_25 (lv_at hl 0 rfl) ?_
  refine x_callSNi (As := [.int v2]) (rest := []) C hm (c_X9_isAddress l E b M v2 rfl) tc_X9_isAddress (by decide +kernel : (RX1, 90, yX9_isAddress, "ColouredHeap") ∈ xNest) tz_X9_isAddress tn_RX9 td_X9_isAddress rfl rfl ⟨Nat.le_of_ble_eq_true rfl, Nat.le_of_ble_eq_true rfl⟩ rfl hl.1 rfl (Nat.le_of_ble_eq_true rfl) ⟨Nat.zero_le _, Nat.zero_le _⟩ dX1_beginRead_27 (fun H locs hP10 hm => ?_)
  refine lv_if_ne (tgt := 35) hx hb dX1_beginRead_30 (by decide) (fun hc11 => ?_) (fun hc11 => ?_)
  rotate_left
  · have hf := xif_t hc11 hf
    refine lv_iconst (v := (-1 : Int32)) hx hb dX1_beginRead_33 (by decide) ?_
    cases hf
    exact x_iret C hm trivial dX1_beginRead_34
  have hf := xif_f hc11 hf
  refine lv_aload_n hx hb dX1_beginRead_35 rfl (lv_at hl 1 rfl) ?_
  refine x_get C hm inX1 rfl 0 (by decide) tf_RX1_9 (cx_Heap (L_u0 0 _ rfl)) rfl dX1_beginRead_36 ?_
  refine lv_iload hx hb dX1_beginRead_39 (lv_at hl 0 rfl) ?_
  obtain ⟨hi12, hf⟩ := xif_s hf
  refine x_iald (j := (Int32.toNatClampNeg v2)) C hm (cx_I (L_u0 1 _ rfl)) hi12 dX1_beginRead_41 rfl ?_
  refine lv_topi (fun v13 ev13 => ?_)
  have hf := xlet_e ev13 hf
  refine lv_istore (lv' := [(5, .int v13), (4, .int v2), (0, .ref (b + u0)), (1, .int a1), (2, .int a2), (3, .int a3)]) hx hb dX1_beginRead_42 hl (by decide) rfl (fun ls hl => ?_)
  refine lv_aload_n hx hb dX1_beginRead_44 rfl (lv_at hl 2 rfl) ?_
  refine lv_iload hx hb dX1_beginRead_45 (lv_at hl 0 rfl) ?_
  obtain ⟨v15, hq14, hf⟩ := xb1_e hf
  refine x_callVi (As := [.int v13]) (rest := []) C hm (c_X1_leadsTo l E b L_u0 M v13 hq14) rfl (cx_Heap (L_u0 0 _ rfl)) tc_X1_leadsTo tm_RX1_135 ti_X1_leadsTo ts_X1_leadsTo tn_RX1 td_X1_leadsTo rfl rfl ⟨Nat.le_of_ble_eq_true rfl, Nat.le_of_ble_eq_true rfl⟩ rfl hl.1 rfl (Nat.le_of_ble_eq_true rfl) ⟨Nat.zero_le _, Nat.zero_le _⟩ dX1_beginRead_47 (fun H locs hP16 hm => ?_)
  refine lv_istore (lv' := [(6, .int v15), (5, .int v13), (4, .int v2), (0, .ref (b + u0)), (1, .int a1), (2, .int a2), (3, .int a3)]) hx hb dX1_beginRead_50 hl (by decide) rfl (fun ls hl => ?_)
  refine lv_iconst (v := (-1 : Int32)) hx hb dX1_beginRead_52 (by decide) ?_
  refine lv_istore (lv' := [(7, .int (-1 : Int32)), (6, .int v15), (5, .int v13), (4, .int v2), (0, .ref (b + u0)), (1, .int a1), (2, .int a2), (3, .int a3)]) hx hb dX1_beginRead_53 hl (by decide) rfl (fun ls hl => ?_)
  refine lv_iload hx hb dX1_beginRead_55 (lv_at hl 2 rfl) ?_
  obtain ⟨k19, ek19, hf⟩ := xlet_x hf
  have jk19 : ∀ (w17 : Int32) (M18 : xm) (H : Heap) (locs : List Loc) (ls : Array Slot), k19 w17 M18 = some (r, M') → xM E b NX (cX E b M18) s.heap H locs → lv_has ls 8 [(0, .ref (b + u0)), (1, .int a1), (4, .int v2), (5, .int v13), (7, .int w17)] → W p l e (xR 4) s m ([.ref (b + u0), .int a1, .int a2, .int a3] : List Value).toArray below meth c H locs 0 0 (MQ below (xQ E b NX (some (.int r)) True (cX E b M')) ([.ref (b + u0), .int a1, .int a2, .int a3] : List Value).toArray s 0 0 (xA b NX)) (F0 m 116 ls []) := by
    intro w17 M18 H locs ls hf hm hl
    have hf := xap2 ek19 hf
    refine lv_aload_n hx hb dX1_beginRead_116 rfl (lv_at hl 0 rfl) ?_
    refine x_get C hm inX1 rfl 9 (by decide) tf_RX1_39 (cx_Heap (L_u0 0 _ rfl)) rfl dX1_beginRead_117 ?_
    refine lv_iload_n hx hb dX1_beginRead_120 rfl (lv_at hl 1 rfl) ?_
    refine lv_iload hx hb dX1_beginRead_121 (lv_at hl 2 rfl) ?_
    obtain ⟨hi20, hf⟩ := xif_s hf
    obtain ⟨M21, eM21, hf⟩ := xlet_x hf
    refine x_iast (j := (Int32.toNatClampNeg a1)) (cf' := cX E b M21) C hm (cx_I (L_u0 10 _ rfl)) hi20 dX1_beginRead_123 rfl (by rw [eM21]; exact cu_I (L_u0 10 _ rfl)) (by rw [eM21]; exact cX_o) (fun H locs hm => ?_)
    refine lv_aload_n hx hb dX1_beginRead_124 rfl (lv_at hl 0 rfl) ?_
    refine x_get C hm inX1 rfl 10 (by decide) tf_RX1_42 (cx_Heap (L_u0 0 _ rfl)) rfl dX1_beginRead_125 ?_
    refine lv_iload_n hx hb dX1_beginRead_128 rfl (lv_at hl 1 rfl) ?_
    refine lv_iload hx hb dX1_beginRead_129 (lv_at hl 3 rfl) ?_
    obtain ⟨M22, eM22, hf⟩ := xlet_x hf
    refine x_iast (j := (Int32.toNatClampNeg a1)) (cf' := cX E b M22) C hm (cx_I (L_u0 11 _ rfl)) hi20 dX1_beginRead_131 rfl (by rw [eM22]; exact cu_I (L_u0 11 _ rfl)) (by rw [eM22]; exact cX_o) (fun H locs hm => ?_)
    refine lv_aload_n hx hb dX1_beginRead_132 rfl (lv_at hl 0 rfl) ?_
    refine x_get C hm inX1 rfl 11 (by decide) tf_RX1_45 (cx_Heap (L_u0 0 _ rfl)) rfl dX1_beginRead_133 ?_
    refine lv_iload_n hx hb dX1_beginRead_136 rfl (lv_at hl 1 rfl) ?_
    refine lv_iload hx hb dX1_beginRead_137 (lv_at hl 4 rfl) ?_
    obtain ⟨M23, eM23, hf⟩ := xlet_x hf
    refine x_iast (j := (Int32.toNatClampNeg a1)) (cf' := cX E b M23) C hm (cx_I (L_u0 12 _ rfl)) hi20 dX1_beginRead_139 rfl (by rw [eM23]; exact cu_I (L_u0 12 _ rfl)) (by rw [eM23]; exact cX_o) (fun H locs hm => ?_)
    refine lv_iload hx hb dX1_beginRead_140 (lv_at hl 4 rfl) ?_
    refine lv_iconst (v := (-1 : Int32)) hx hb dX1_beginRead_142 (by decide) ?_
    refine lv_icmp_ne (tgt := 150) hx hb dX1_beginRead_143 (by decide) (fun hc24 => ?_) (fun hc24 => ?_)
    · have hf := xif_f hc24 hf
      refine lv_iconst (v := (1 : Int32)) hx hb dX1_beginRead_150 (by decide) ?_
      cases hf
      exact x_iret C hm trivial dX1_beginRead_151
    have hf := xif_t hc24 hf
    refine lv_iconst (v := (0 : Int32)) hx hb dX1_beginRead_146 (by decide) ?_
    refine lv_goto (tgt := 151) hx hb dX1_beginRead_147 (by decide) ?_
    cases hf
    exact x_iret C hm trivial dX1_beginRead_151
  refine lv_if_lt (tgt := 116) hx hb dX1_beginRead_57 (by decide) (fun hc25 => ?_) (fun hc25 => ?_)
  · have hf := xif_t hc25 hf
    exact jk19 (-1 : Int32) M H locs ls  hf hm (lv_sub hl [4, 5, 3, 2, 0] rfl)
  have hf := xif_f hc25 hf
  refine lv_iload hx hb dX1_beginRead_60 (lv_at hl 2 rfl) ?_
  refine lv_bipush (v := (64 : Int32)) hx hb dX1_beginRead_62 (by decide) ?_
  refine lv_idiv hx hb dX1_beginRead_64 (by decide) ?_
  refine lv_aload_n hx hb dX1_beginRead_65 rfl (lv_at hl 4 rfl) ?_
  refine x_get C hm inX1 rfl 15 (by decide) tf_RX1_62 (cx_Heap (L_u0 0 _ rfl)) rfl dX1_beginRead_66 ?_
  refine lv_icmp_eq (tgt := 116) hx hb dX1_beginRead_69 (by decide) (fun hc26 => ?_) (fun hc26 => ?_)
  · have hf := xif_t hc26 hf
    exact jk19 (-1 : Int32) M H locs ls  hf hm (lv_sub hl [4, 5, 3, 2, 0] rfl)
  have hf := xif_f hc26 hf
  refine lv_aload_n hx hb dX1_beginRead_72 rfl (lv_at hl 4 rfl) ?_
  refine lv_iload hx hb dX1_beginRead_73 (lv_at hl 1 rfl) ?_
  obtain ⟨v28, hq27, hf⟩ := xb1_e hf
  refine x_callVi (As := [.int v15]) (rest := []) C hm (c_X1_mustMove l E b L_u0 M v15 hq27) rfl (cx_Heap (L_u0 0 _ rfl)) tc_X1_mustMove tm_RX1_141 ti_X1_mustMove ts_X1_mustMove tn_RX1 td_X1_mustMove rfl rfl ⟨Nat.le_of_ble_eq_true rfl, Nat.le_of_ble_eq_true rfl⟩ rfl hl.1 rfl (Nat.le_of_ble_eq_true rfl) ⟨Nat.zero_le _, Nat.zero_le _⟩ dX1_beginRead_75 (fun H locs hP29 hm => ?_)
  refine lv_if_eq (tgt := 116) hx hb dX1_beginRead_78 (by decide) (fun hc30 => ?_) (fun hc30 => ?_)
  · have hf := xif_t hc30 hf
    exact jk19 (-1 : Int32) M H locs ls  hf hm (lv_sub hl [4, 5, 3, 2, 0] rfl)
  have hf := xif_f hc30 hf
  refine lv_aload_n hx hb dX1_beginRead_81 rfl (lv_at hl 4 rfl) ?_
  refine lv_iconst (v := (1 : Int32)) hx hb dX1_beginRead_82 (by decide) ?_
  refine lv_aload_n hx hb dX1_beginRead_83 rfl (lv_at hl 4 rfl) ?_
  refine lv_iload hx hb dX1_beginRead_84 (lv_at hl 1 rfl) ?_
  obtain ⟨v32, hq31, hf⟩ := xb1_e hf
  refine x_callVi (As := [.int v15]) (rest := [.int (1 : Int32), .ref (b + u0)]) C hm (c_X1_sizeAt l E b L_u0 M v15 hq31) rfl (cx_Heap (L_u0 0 _ rfl)) tc_X1_sizeAt tm_RX1_94 ti_X1_sizeAt ts_X1_sizeAt tn_RX1 td_X1_sizeAt rfl rfl ⟨Nat.le_of_ble_eq_true rfl, Nat.le_of_ble_eq_true rfl⟩ rfl hl.1 rfl (Nat.le_of_ble_eq_true rfl) ⟨Nat.zero_le _, Nat.zero_le _⟩ dX1_beginRead_86 (fun H locs hP33 hm => ?_)
  obtain ⟨v35, M36, hq34, hf⟩ := xb2_e hf
  refine x_callVi (As := [.int (1 : Int32), .int v32]) (rest := []) C hm (c_X1_giveOut l E b L_u0 M (1 : Int32) v32 hq34) rfl (cx_Heap (L_u0 0 _ rfl)) tc_X1_giveOut tm_RX1_125 ti_X1_giveOut ts_X1_giveOut tn_RX1 td_X1_giveOut rfl rfl ⟨Nat.le_of_ble_eq_true rfl, Nat.le_of_ble_eq_true rfl⟩ rfl hl.1 rfl (Nat.le_of_ble_eq_true rfl) ⟨Nat.zero_le _, Nat.zero_le _⟩ dX1_beginRead_89 (fun H locs hP37 hm => ?_)
  refine lv_istore (lv' := [(7, .int v35), (6, .int v15), (5, .int v13), (4, .int v2), (0, .ref (b + u0)), (1, .int a1), (2, .int a2), (3, .int a3)]) hx hb dX1_beginRead_92 hl (by decide) rfl (fun ls hl => ?_)
  refine lv_iload hx hb dX1_beginRead_94 (lv_at hl 0 rfl) ?_
  refine lv_iconst (v := (-1 : Int32)) hx hb dX1_beginRead_96 (by decide) ?_
  refine lv_icmp_ne (tgt := 102) hx hb dX1_beginRead_97 (by decide) (fun hc38 => ?_) (fun hc38 => ?_)
  rotate_left
  · have hf := xif_t hc38 hf
    refine lv_iconst (v := (-1 : Int32)) hx hb dX1_beginRead_100 (by decide) ?_
    cases hf
    exact x_iret C hm trivial dX1_beginRead_101
  have hf := xif_f hc38 hf
  refine lv_aload_n hx hb dX1_beginRead_102 rfl (lv_at hl 4 rfl) ?_
  refine lv_iload hx hb dX1_beginRead_103 (lv_at hl 1 rfl) ?_
  refine lv_iload hx hb dX1_beginRead_105 (lv_at hl 0 rfl) ?_
  refine lv_aload_n hx hb dX1_beginRead_107 rfl (lv_at hl 4 rfl) ?_
  refine lv_iload hx hb dX1_beginRead_108 (lv_at hl 1 rfl) ?_
  obtain ⟨v40, hq39, hf⟩ := xb1_e hf
  refine x_callVi (As := [.int v15]) (rest := [.int v35, .int v15, .ref (b + u0)]) C hm (c_X1_sizeAt l E b L_u0 M36 v15 hq39) rfl (cx_Heap (L_u0 0 _ rfl)) tc_X1_sizeAt tm_RX1_94 ti_X1_sizeAt ts_X1_sizeAt tn_RX1 td_X1_sizeAt rfl rfl ⟨Nat.le_of_ble_eq_true rfl, Nat.le_of_ble_eq_true rfl⟩ rfl hl.1 rfl (Nat.le_of_ble_eq_true rfl) ⟨Nat.zero_le _, Nat.zero_le _⟩ dX1_beginRead_110 (fun H locs hP41 hm => ?_)
  obtain ⟨M43, hq42, hf⟩ := xb1_e hf
  refine x_callVv (As := [.int v15, .int v35, .int v40]) (rest := []) C hm (c_X1_copyWords l E b L_u0 M36 v15 v35 v40 hq42) rfl (cx_Heap (L_u0 0 _ rfl)) tc_X1_copyWords tm_RX1_128 ti_X1_copyWords ts_X1_copyWords tn_RX1 td_X1_copyWords rfl rfl ⟨Nat.le_of_ble_eq_true rfl, Nat.le_of_ble_eq_true rfl⟩ rfl hl.1 rfl (Nat.le_of_ble_eq_true rfl) ⟨Nat.zero_le _, Nat.zero_le _⟩ dX1_beginRead_113 (fun H locs hP44 hm => ?_)
  exact jk19 v35 M43 H locs ls  hf hm (lv_sub hl [4, 5, 3, 2, 0] rfl)
/-! ColouredHeap$Heap.threadsBegun()I -/
theorem dX1_threadsBegun_0 : decode cX1_threadsBegun 0 = .ok (.aload_n 0, 1) := by decide +kernel
theorem dX1_threadsBegun_1 : decode cX1_threadsBegun 1 = .ok (.iconst 0, 1) := by decide +kernel
theorem dX1_threadsBegun_2 : decode cX1_threadsBegun 2 = .ok (.invokevirtual 101, 3) := by decide +kernel
theorem dX1_threadsBegun_5 : decode cX1_threadsBegun 5 = .ok (.ifCond .eq 7, 3) := by decide +kernel
theorem dX1_threadsBegun_8 : decode cX1_threadsBegun 8 = .ok (.iconst 1, 1) := by decide +kernel
theorem dX1_threadsBegun_9 : decode cX1_threadsBegun 9 = .ok (.goto 4, 3) := by decide +kernel
theorem dX1_threadsBegun_12 : decode cX1_threadsBegun 12 = .ok (.iconst 0, 1) := by decide +kernel
theorem dX1_threadsBegun_13 : decode cX1_threadsBegun 13 = .ok (.aload_n 0, 1) := by decide +kernel
theorem dX1_threadsBegun_14 : decode cX1_threadsBegun 14 = .ok (.iconst 1, 1) := by decide +kernel
theorem dX1_threadsBegun_15 : decode cX1_threadsBegun 15 = .ok (.invokevirtual 101, 3) := by decide +kernel
theorem dX1_threadsBegun_18 : decode cX1_threadsBegun 18 = .ok (.ifCond .eq 7, 3) := by decide +kernel
theorem dX1_threadsBegun_21 : decode cX1_threadsBegun 21 = .ok (.iconst 2, 1) := by decide +kernel
theorem dX1_threadsBegun_22 : decode cX1_threadsBegun 22 = .ok (.goto 4, 3) := by decide +kernel
theorem dX1_threadsBegun_25 : decode cX1_threadsBegun 25 = .ok (.iconst 0, 1) := by decide +kernel
theorem dX1_threadsBegun_26 : decode cX1_threadsBegun 26 = .ok (.iadd, 1) := by decide +kernel
theorem dX1_threadsBegun_27 : decode cX1_threadsBegun 27 = .ok (.ireturn, 1) := by decide +kernel
def f_X1_threadsBegun (u0 : Nat) (M : xm) : Option (Int32) := xb1 (f_X1_hasBegun u0 M (0 : Int32)) (fun v2 => xlet (fun (w4 : Int32) => xb1 (f_X1_hasBegun u0 M (1 : Int32)) (fun v7 => (if v7 = 0 then some (w4 + (0 : Int32)) else some (w4 + (2 : Int32))))) (fun k5 => (if v2 = 0 then (k5 (0 : Int32)) else (k5 (1 : Int32)))))
set_option maxHeartbeats 4000000 in
set_option maxRecDepth 20000 in
theorem c_X1_threadsBegun (l : Launch) (E : xE) (b : Nat) {u0 : Nat} (L_u0 : lat u0 pHeap) (M : xm) {r : Int32} (hf : f_X1_threadsBegun u0 M = some r) :
    xMet l E b NX yX1_threadsBegun cX1_threadsBegun 1 (some .int) (xR 2) [.ref (b + u0)] (cX E b M) (some (.int r)) True (cX E b M) := by
  refine xMet.ofW (own := RX1) (by decide) rfl (Nat.le_of_ble_eq_true rfl) ?_
  intro p e s m below meth c H locs ls C hm hl
  have hx := C.1.1
  have hb := C.1.2.1
  have hl : lv_has ls 1 [(0, .ref (b + u0))] := hl
  unfold f_X1_threadsBegun at hf
  refine lv_aload_n hx hb dX1_threadsBegun_0 rfl (lv_at hl 0 rfl) ?_
  refine lv_iconst (v := (0 : Int32)) hx hb dX1_threadsBegun_1 (by decide) ?_
  obtain ⟨v2, hq1, hf⟩ := xb1_e hf
  refine x_callVi (As := [.int (0 : Int32)]) (rest := []) C hm (c_X1_hasBegun l E b L_u0 M (0 : Int32) hq1) rfl (cx_Heap (L_u0 0 _ rfl)) tc_X1_hasBegun tm_RX1_101 ti_X1_hasBegun ts_X1_hasBegun tn_RX1 td_X1_hasBegun rfl rfl ⟨Nat.le_of_ble_eq_true rfl, Nat.le_of_ble_eq_true rfl⟩ rfl hl.1 rfl (Nat.le_of_ble_eq_true rfl) ⟨Nat.zero_le _, Nat.zero_le _⟩ dX1_threadsBegun_2 (fun H locs hP3 hm => ?_)
  obtain ⟨k5, ek5, hf⟩ := xlet_x hf
  have jk5 : ∀ (w4 : Int32) (H : Heap) (locs : List Loc) (ls : Array Slot), k5 w4 = some r → xM E b NX (cX E b M) s.heap H locs → lv_has ls 1 [(0, .ref (b + u0))] → W p l e (xR 2) s m ([.ref (b + u0)] : List Value).toArray below meth c H locs 0 0 (MQ below (xQ E b NX (some (.int r)) True (cX E b M)) ([.ref (b + u0)] : List Value).toArray s 0 0 (xA b NX)) (F0 m 13 ls [.int w4]) := by
    intro w4 H locs ls hf hm hl
    have hf := xap1 ek5 hf
    refine lv_aload_n hx hb dX1_threadsBegun_13 rfl (lv_at hl 0 rfl) ?_
    refine lv_iconst (v := (1 : Int32)) hx hb dX1_threadsBegun_14 (by decide) ?_
    obtain ⟨v7, hq6, hf⟩ := xb1_e hf
    refine x_callVi (As := [.int (1 : Int32)]) (rest := [.int w4]) C hm (c_X1_hasBegun l E b L_u0 M (1 : Int32) hq6) rfl (cx_Heap (L_u0 0 _ rfl)) tc_X1_hasBegun tm_RX1_101 ti_X1_hasBegun ts_X1_hasBegun tn_RX1 td_X1_hasBegun rfl rfl ⟨Nat.le_of_ble_eq_true rfl, Nat.le_of_ble_eq_true rfl⟩ rfl hl.1 rfl (Nat.le_of_ble_eq_true rfl) ⟨Nat.zero_le _, Nat.zero_le _⟩ dX1_threadsBegun_15 (fun H locs hP8 hm => ?_)
    refine lv_if_eq (tgt := 25) hx hb dX1_threadsBegun_18 (by decide) (fun hc9 => ?_) (fun hc9 => ?_)
    · have hf := xif_t hc9 hf
      refine lv_iconst (v := (0 : Int32)) hx hb dX1_threadsBegun_25 (by decide) ?_
      refine lv_iadd hx hb dX1_threadsBegun_26 ?_
      cases hf
      exact x_iret C hm trivial dX1_threadsBegun_27
    have hf := xif_f hc9 hf
    refine lv_iconst (v := (2 : Int32)) hx hb dX1_threadsBegun_21 (by decide) ?_
    refine lv_goto (tgt := 26) hx hb dX1_threadsBegun_22 (by decide) ?_
    refine lv_iadd hx hb dX1_threadsBegun_26 ?_
    cases hf
    exact x_iret C hm trivial dX1_threadsBegun_27
  refine lv_if_eq (tgt := 12) hx hb dX1_threadsBegun_5 (by decide) (fun hc10 => ?_) (fun hc10 => ?_)
  · have hf := xif_t hc10 hf
    refine lv_iconst (v := (0 : Int32)) hx hb dX1_threadsBegun_12 (by decide) ?_
    exact jk5 (0 : Int32) H locs ls  hf hm (lv_sub hl [0] rfl)
  have hf := xif_f hc10 hf
  refine lv_iconst (v := (1 : Int32)) hx hb dX1_threadsBegun_8 (by decide) ?_
  refine lv_goto (tgt := 13) hx hb dX1_threadsBegun_9 (by decide) ?_
  exact jk5 (1 : Int32) H locs ls  hf hm (lv_sub hl [0] rfl)
/-! ColouredHeap$Heap.canChoose()Z -/
theorem dX1_canChoose_0 : decode cX1_canChoose 0 = .ok (.aload_n 0, 1) := by decide +kernel
theorem dX1_canChoose_1 : decode cX1_canChoose 1 = .ok (.getfield 59, 3) := by decide +kernel
theorem dX1_canChoose_4 : decode cX1_canChoose 4 = .ok (.iconst 1, 1) := by decide +kernel
theorem dX1_canChoose_5 : decode cX1_canChoose 5 = .ok (.if_icmp .ne 21, 3) := by decide +kernel
theorem dX1_canChoose_8 : decode cX1_canChoose 8 = .ok (.aload_n 0, 1) := by decide +kernel
theorem dX1_canChoose_9 : decode cX1_canChoose 9 = .ok (.getfield 55, 3) := by decide +kernel
theorem dX1_canChoose_12 : decode cX1_canChoose 12 = .ok (.ifCond .ne 14, 3) := by decide +kernel
theorem dX1_canChoose_15 : decode cX1_canChoose 15 = .ok (.aload_n 0, 1) := by decide +kernel
theorem dX1_canChoose_16 : decode cX1_canChoose 16 = .ok (.invokevirtual 104, 3) := by decide +kernel
theorem dX1_canChoose_19 : decode cX1_canChoose 19 = .ok (.ifCond .ne 7, 3) := by decide +kernel
theorem dX1_canChoose_22 : decode cX1_canChoose 22 = .ok (.iconst 1, 1) := by decide +kernel
theorem dX1_canChoose_23 : decode cX1_canChoose 23 = .ok (.goto 4, 3) := by decide +kernel
theorem dX1_canChoose_26 : decode cX1_canChoose 26 = .ok (.iconst 0, 1) := by decide +kernel
theorem dX1_canChoose_27 : decode cX1_canChoose 27 = .ok (.ireturn, 1) := by decide +kernel
def f_X1_canChoose (u0 : Nat) (M : xm) : Option (Int32) := (if (M u0 14) = (1 : Int32) then (if (M u0 13) = 0 then xb1 (f_X1_threadsBegun u0 M) (fun v4 => (if v4 = 0 then some (1 : Int32) else some (0 : Int32))) else some (0 : Int32)) else some (0 : Int32))
set_option maxHeartbeats 4000000 in
set_option maxRecDepth 20000 in
theorem c_X1_canChoose (l : Launch) (E : xE) (b : Nat) {u0 : Nat} (L_u0 : lat u0 pHeap) (M : xm) {r : Int32} (hf : f_X1_canChoose u0 M = some r) :
    xMet l E b NX yX1_canChoose cX1_canChoose 1 (some .boolean) (xR 3) [.ref (b + u0)] (cX E b M) (some (.int r)) (xbo r = true) (cX E b M) := by
  refine xMet.ofW (own := RX1) (by decide) rfl (Nat.le_of_ble_eq_true rfl) ?_
  intro p e s m below meth c H locs ls C hm hl
  have hx := C.1.1
  have hb := C.1.2.1
  have hl : lv_has ls 1 [(0, .ref (b + u0))] := hl
  unfold f_X1_canChoose at hf
  refine lv_aload_n hx hb dX1_canChoose_0 rfl (lv_at hl 0 rfl) ?_
  refine x_get C hm inX1 rfl 14 (by decide) tf_RX1_59 (cx_Heap (L_u0 0 _ rfl)) rfl dX1_canChoose_1 ?_
  refine lv_iconst (v := (1 : Int32)) hx hb dX1_canChoose_4 (by decide) ?_
  refine lv_icmp_ne (tgt := 26) hx hb dX1_canChoose_5 (by decide) (fun hc1 => ?_) (fun hc1 => ?_)
  · have hf := xif_f hc1 hf
    refine lv_iconst (v := (0 : Int32)) hx hb dX1_canChoose_26 (by decide) ?_
    cases hf
    exact x_zret C hm (by decide) (by decide) dX1_canChoose_27
  have hf := xif_t hc1 hf
  refine lv_aload_n hx hb dX1_canChoose_8 rfl (lv_at hl 0 rfl) ?_
  refine x_get C hm inX1 rfl 13 (by decide) tf_RX1_55 (cx_Heap (L_u0 0 _ rfl)) rfl dX1_canChoose_9 ?_
  refine lv_if_ne (tgt := 26) hx hb dX1_canChoose_12 (by decide) (fun hc2 => ?_) (fun hc2 => ?_)
  · have hf := xif_f hc2 hf
    refine lv_iconst (v := (0 : Int32)) hx hb dX1_canChoose_26 (by decide) ?_
    cases hf
    exact x_zret C hm (by decide) (by decide) dX1_canChoose_27
  have hf := xif_t hc2 hf
  refine lv_aload_n hx hb dX1_canChoose_15 rfl (lv_at hl 0 rfl) ?_
  obtain ⟨v4, hq3, hf⟩ := xb1_e hf
  refine x_callVi (As := []) (rest := []) C hm (c_X1_threadsBegun l E b L_u0 M hq3) rfl (cx_Heap (L_u0 0 _ rfl)) tc_X1_threadsBegun tm_RX1_104 ti_X1_threadsBegun ts_X1_threadsBegun tn_RX1 td_X1_threadsBegun rfl rfl ⟨Nat.le_of_ble_eq_true rfl, Nat.le_of_ble_eq_true rfl⟩ rfl hl.1 rfl (Nat.le_of_ble_eq_true rfl) ⟨Nat.zero_le _, Nat.zero_le _⟩ dX1_canChoose_16 (fun H locs hP5 hm => ?_)
  refine lv_if_ne (tgt := 26) hx hb dX1_canChoose_19 (by decide) (fun hc6 => ?_) (fun hc6 => ?_)
  · have hf := xif_f hc6 hf
    refine lv_iconst (v := (0 : Int32)) hx hb dX1_canChoose_26 (by decide) ?_
    cases hf
    exact x_zret C hm (by decide) (by decide) dX1_canChoose_27
  have hf := xif_t hc6 hf
  refine lv_iconst (v := (1 : Int32)) hx hb dX1_canChoose_22 (by decide) ?_
  refine lv_goto (tgt := 27) hx hb dX1_canChoose_23 (by decide) ?_
  cases hf
  exact x_zret C hm (by decide) (by decide) dX1_canChoose_27
/-! ColouredHeap$Heap.canMark()Z -/
theorem dX1_canMark_0 : decode cX1_canMark 0 = .ok (.aload_n 0, 1) := by decide +kernel
theorem dX1_canMark_1 : decode cX1_canMark 1 = .ok (.getfield 59, 3) := by decide +kernel
theorem dX1_canMark_4 : decode cX1_canMark 4 = .ok (.ifCond .ne 14, 3) := by decide +kernel
theorem dX1_canMark_7 : decode cX1_canMark 7 = .ok (.aload_n 0, 1) := by decide +kernel
theorem dX1_canMark_8 : decode cX1_canMark 8 = .ok (.invokevirtual 104, 3) := by decide +kernel
theorem dX1_canMark_11 : decode cX1_canMark 11 = .ok (.ifCond .ne 7, 3) := by decide +kernel
theorem dX1_canMark_14 : decode cX1_canMark 14 = .ok (.iconst 1, 1) := by decide +kernel
theorem dX1_canMark_15 : decode cX1_canMark 15 = .ok (.goto 4, 3) := by decide +kernel
theorem dX1_canMark_18 : decode cX1_canMark 18 = .ok (.iconst 0, 1) := by decide +kernel
theorem dX1_canMark_19 : decode cX1_canMark 19 = .ok (.ireturn, 1) := by decide +kernel
def f_X1_canMark (u0 : Nat) (M : xm) : Option (Int32) := (if (M u0 14) = 0 then xb1 (f_X1_threadsBegun u0 M) (fun v3 => (if v3 = 0 then some (1 : Int32) else some (0 : Int32))) else some (0 : Int32))
set_option maxHeartbeats 4000000 in
set_option maxRecDepth 20000 in
theorem c_X1_canMark (l : Launch) (E : xE) (b : Nat) {u0 : Nat} (L_u0 : lat u0 pHeap) (M : xm) {r : Int32} (hf : f_X1_canMark u0 M = some r) :
    xMet l E b NX yX1_canMark cX1_canMark 1 (some .boolean) (xR 3) [.ref (b + u0)] (cX E b M) (some (.int r)) (xbo r = true) (cX E b M) := by
  refine xMet.ofW (own := RX1) (by decide) rfl (Nat.le_of_ble_eq_true rfl) ?_
  intro p e s m below meth c H locs ls C hm hl
  have hx := C.1.1
  have hb := C.1.2.1
  have hl : lv_has ls 1 [(0, .ref (b + u0))] := hl
  unfold f_X1_canMark at hf
  refine lv_aload_n hx hb dX1_canMark_0 rfl (lv_at hl 0 rfl) ?_
  refine x_get C hm inX1 rfl 14 (by decide) tf_RX1_59 (cx_Heap (L_u0 0 _ rfl)) rfl dX1_canMark_1 ?_
  refine lv_if_ne (tgt := 18) hx hb dX1_canMark_4 (by decide) (fun hc1 => ?_) (fun hc1 => ?_)
  · have hf := xif_f hc1 hf
    refine lv_iconst (v := (0 : Int32)) hx hb dX1_canMark_18 (by decide) ?_
    cases hf
    exact x_zret C hm (by decide) (by decide) dX1_canMark_19
  have hf := xif_t hc1 hf
  refine lv_aload_n hx hb dX1_canMark_7 rfl (lv_at hl 0 rfl) ?_
  obtain ⟨v3, hq2, hf⟩ := xb1_e hf
  refine x_callVi (As := []) (rest := []) C hm (c_X1_threadsBegun l E b L_u0 M hq2) rfl (cx_Heap (L_u0 0 _ rfl)) tc_X1_threadsBegun tm_RX1_104 ti_X1_threadsBegun ts_X1_threadsBegun tn_RX1 td_X1_threadsBegun rfl rfl ⟨Nat.le_of_ble_eq_true rfl, Nat.le_of_ble_eq_true rfl⟩ rfl hl.1 rfl (Nat.le_of_ble_eq_true rfl) ⟨Nat.zero_le _, Nat.zero_le _⟩ dX1_canMark_8 (fun H locs hP4 hm => ?_)
  refine lv_if_ne (tgt := 18) hx hb dX1_canMark_11 (by decide) (fun hc5 => ?_) (fun hc5 => ?_)
  · have hf := xif_f hc5 hf
    refine lv_iconst (v := (0 : Int32)) hx hb dX1_canMark_18 (by decide) ?_
    cases hf
    exact x_zret C hm (by decide) (by decide) dX1_canMark_19
  have hf := xif_t hc5 hf
  refine lv_iconst (v := (1 : Int32)) hx hb dX1_canMark_14 (by decide) ?_
  refine lv_goto (tgt := 19) hx hb dX1_canMark_15 (by decide) ?_
  cases hf
  exact x_zret C hm (by decide) (by decide) dX1_canMark_19
/-! ColouredHeap$Heap.clearWords(II)V -/
theorem dX1_clearWords_0 : decode cX1_clearWords 0 = .ok (.iload_n 1, 1) := by decide +kernel
theorem dX1_clearWords_1 : decode cX1_clearWords 1 = .ok (.iconst 0, 1) := by decide +kernel
theorem dX1_clearWords_2 : decode cX1_clearWords 2 = .ok (.invokestatic 111, 3) := by decide +kernel
theorem dX1_clearWords_5 : decode cX1_clearWords 5 = .ok (.istore_n 3, 1) := by decide +kernel
theorem dX1_clearWords_6 : decode cX1_clearWords 6 = .ok (.iload_n 3, 1) := by decide +kernel
theorem dX1_clearWords_7 : decode cX1_clearWords 7 = .ok (.iload_n 2, 1) := by decide +kernel
theorem dX1_clearWords_8 : decode cX1_clearWords 8 = .ok (.if_icmp .ge 30, 3) := by decide +kernel
theorem dX1_clearWords_11 : decode cX1_clearWords 11 = .ok (.iload_n 3, 1) := by decide +kernel
theorem dX1_clearWords_12 : decode cX1_clearWords 12 = .ok (.bipush 64, 2) := by decide +kernel
theorem dX1_clearWords_14 : decode cX1_clearWords 14 = .ok (.if_icmp .ge 24, 3) := by decide +kernel
theorem dX1_clearWords_17 : decode cX1_clearWords 17 = .ok (.aload_n 0, 1) := by decide +kernel
theorem dX1_clearWords_18 : decode cX1_clearWords 18 = .ok (.getfield 9, 3) := by decide +kernel
theorem dX1_clearWords_21 : decode cX1_clearWords 21 = .ok (.iload_n 3, 1) := by decide +kernel
theorem dX1_clearWords_22 : decode cX1_clearWords 22 = .ok (.bipush (-2), 2) := by decide +kernel
theorem dX1_clearWords_24 : decode cX1_clearWords 24 = .ok (.iastore, 1) := by decide +kernel
theorem dX1_clearWords_25 : decode cX1_clearWords 25 = .ok (.aload_n 0, 1) := by decide +kernel
theorem dX1_clearWords_26 : decode cX1_clearWords 26 = .ok (.getfield 18, 3) := by decide +kernel
theorem dX1_clearWords_29 : decode cX1_clearWords 29 = .ok (.iload_n 3, 1) := by decide +kernel
theorem dX1_clearWords_30 : decode cX1_clearWords 30 = .ok (.iconst 0, 1) := by decide +kernel
theorem dX1_clearWords_31 : decode cX1_clearWords 31 = .ok (.iastore, 1) := by decide +kernel
theorem dX1_clearWords_32 : decode cX1_clearWords 32 = .ok (.iinc 3 1, 3) := by decide +kernel
theorem dX1_clearWords_35 : decode cX1_clearWords 35 = .ok (.goto (-29), 3) := by decide +kernel
theorem dX1_clearWords_38 : decode cX1_clearWords 38 = .ok (.return_, 1) := by decide +kernel
def g_X1_clearWords_6 (o2 : Nat) (x3 : Int32) : Nat → xm → Int32 → Option ((xm))
  | 0, _, _ => none
  | n + 1, M5, x4 => (if x3 ≤ x4 then some (M5) else (if (64 : Int32) ≤ x4 then some (M5) else if xin x4 64 = true then xlet (up2 M5 (o2 + 1) (Int32.toNatClampNeg x4) (-2 : Int32)) (fun M10 => xlet (up2 M10 (o2 + 3) (Int32.toNatClampNeg x4) (0 : Int32)) (fun M11 => xlet (x4 + (1 : Int32)) (fun v12 => g_X1_clearWords_6 o2 x3 n M11 v12))) else none))
def f_X1_clearWords (u0 : Nat) (M : xm) (a1 : Int32) (a2 : Int32) : Option (xm) := xlet (xmax a1 (0 : Int32)) (fun v1 => xb1 (g_X1_clearWords_6 u0 a2 xfuel M v1) (fun M13 => some M13))
set_option maxHeartbeats 4000000 in
set_option maxRecDepth 20000 in
theorem j_X1_clearWords_6 {p : Program} {l : Launch} {e : Env} {s : State} {m : MethodId} {args : Array Value} {below : List Frame} {meth : Method} {c : Code} {Q : State → Prop} {E : xE} {b : Nat} (C : xC p s m args meth c cX1_clearWords 4 RX1 none E b) {o2 : Nat} (L_o2 : lat o2 pHeap) (x3 : Int32) {y6 : xm}
    (kx0 : ∀ (H : Heap) (locs : List Loc) (ls : Array Slot), xM E b NX (cX E b y6) s.heap H locs → lv_has ls 4 [] → W p l e (xR 2) s m args below meth c H locs 0 0 Q (F0 m 38 ls [])) :
    ∀ (n : Nat) (M5 : xm) (x4 : Int32) (H : Heap) (locs : List Loc) (ls : Array Slot), g_X1_clearWords_6 o2 x3 n M5 x4 = some y6 → xM E b NX (cX E b M5) s.heap H locs → lv_has ls 4 [(0, .ref (b + o2)), (2, .int x3), (3, .int x4)] → W p l e (xR 2) s m args below meth c H locs 0 0 Q (F0 m 6 ls []) := by
  have hx := C.1.1
  have hb := C.1.2.1
  intro n
  induction n with
  | zero =>
    intro M5 x4 H locs ls hf hm hl
    rw [g_X1_clearWords_6] at hf
    cases hf
  | succ n ih =>
    intro M5 x4 H locs ls hf hm hl
    rw [g_X1_clearWords_6] at hf
    refine lv_iload_n hx hb dX1_clearWords_6 rfl (lv_at hl 2 rfl) ?_
    refine lv_iload_n hx hb dX1_clearWords_7 rfl (lv_at hl 1 rfl) ?_
    refine lv_icmp_ge (tgt := 38) hx hb dX1_clearWords_8 (by decide) (fun hc7 => ?_) (fun hc7 => ?_)
    · have hf := xif_t hc7 hf
      cases hf
      exact kx0 H locs ls hm (lv_sub hl [] rfl)
    have hf := xif_f hc7 hf
    refine lv_iload_n hx hb dX1_clearWords_11 rfl (lv_at hl 2 rfl) ?_
    refine lv_bipush (v := (64 : Int32)) hx hb dX1_clearWords_12 (by decide) ?_
    refine lv_icmp_ge (tgt := 38) hx hb dX1_clearWords_14 (by decide) (fun hc8 => ?_) (fun hc8 => ?_)
    · have hf := xif_t hc8 hf
      cases hf
      exact kx0 H locs ls hm (lv_sub hl [] rfl)
    have hf := xif_f hc8 hf
    refine lv_aload_n hx hb dX1_clearWords_17 rfl (lv_at hl 0 rfl) ?_
    refine x_get C hm inX1 rfl 0 (by decide) tf_RX1_9 (cx_Heap (L_o2 0 _ rfl)) rfl dX1_clearWords_18 ?_
    refine lv_iload_n hx hb dX1_clearWords_21 rfl (lv_at hl 2 rfl) ?_
    refine lv_bipush (v := (-2 : Int32)) hx hb dX1_clearWords_22 (by decide) ?_
    obtain ⟨hi9, hf⟩ := xif_s hf
    obtain ⟨M10, eM10, hf⟩ := xlet_x hf
    refine x_iast (j := (Int32.toNatClampNeg x4)) (cf' := cX E b M10) C hm (cx_I (L_o2 1 _ rfl)) hi9 dX1_clearWords_24 rfl (by rw [eM10]; exact cu_I (L_o2 1 _ rfl)) (by rw [eM10]; exact cX_o) (fun H locs hm => ?_)
    refine lv_aload_n hx hb dX1_clearWords_25 rfl (lv_at hl 0 rfl) ?_
    refine x_get C hm inX1 rfl 2 (by decide) tf_RX1_18 (cx_Heap (L_o2 0 _ rfl)) rfl dX1_clearWords_26 ?_
    refine lv_iload_n hx hb dX1_clearWords_29 rfl (lv_at hl 2 rfl) ?_
    refine lv_iconst (v := (0 : Int32)) hx hb dX1_clearWords_30 (by decide) ?_
    obtain ⟨M11, eM11, hf⟩ := xlet_x hf
    refine x_iast (j := (Int32.toNatClampNeg x4)) (cf' := cX E b M11) C hm (cx_I (L_o2 3 _ rfl)) hi9 dX1_clearWords_31 rfl (by rw [eM11]; exact cu_I (L_o2 3 _ rfl)) (by rw [eM11]; exact cX_o) (fun H locs hm => ?_)
    obtain ⟨v12, ev12, hf⟩ := xlet_x hf
    refine lv_iinc (v := v12) (lv' := [(3, .int v12), (0, .ref (b + o2)), (2, .int x3)]) hx hb dX1_clearWords_32 hl (k := 2) rfl (by rw [ev12]; rfl) (by decide) rfl (fun ls hl => ?_)
    refine lv_goto (tgt := 6) hx hb dX1_clearWords_35 (by decide) ?_
    exact ih M11 v12 H locs ls hf hm (lv_sub hl [1, 2, 0] rfl)
set_option maxHeartbeats 4000000 in
set_option maxRecDepth 20000 in
theorem c_X1_clearWords (l : Launch) (E : xE) (b : Nat) {u0 : Nat} (L_u0 : lat u0 pHeap) (M : xm) (a1 : Int32) (a2 : Int32) {M' : xm} (hf : f_X1_clearWords u0 M a1 a2 = some M') :
    xMet l E b NX yX1_clearWords cX1_clearWords 4 none (xR 2) [.ref (b + u0), .int a1, .int a2] (cX E b M) none True (cX E b M') := by
  refine xMet.ofW (own := RX1) (by decide) rfl (Nat.le_of_ble_eq_true rfl) ?_
  intro p e s m below meth c H locs ls C hm hl
  have hx := C.1.1
  have hb := C.1.2.1
  have hl : lv_has ls 4 [(0, .ref (b + u0)), (1, .int a1), (2, .int a2)] := hl
  unfold f_X1_clearWords at hf
  refine lv_iload_n hx hb dX1_clearWords_0 rfl (lv_at hl 1 rfl) ?_
  refine lv_iconst (v := (0 : Int32)) hx hb dX1_clearWords_1 (by decide) ?_
  refine va_mmax hx hb (C.1.2.2.1.trans hl.1.symm) C.1.2.2.2.1 (C.1.2.2.2.2 _ tm_RX1_111) (C.1.2.2.2.2 _ tz_Math_maxI) (C.1.2.2.2.2 _ tn_Math) (C.1.2.2.2.2 _ tc_Math_maxI) (Nat.le_of_ble_eq_true rfl) (Nat.le_of_ble_eq_true rfl) (Nat.zero_le _) (Nat.zero_le _) dX1_clearWords_2 ?_
  refine lv_topi (fun v1 ev1 => ?_)
  have hf := xlet_e ev1 hf
  refine lv_istore_n (lv' := [(3, .int v1), (0, .ref (b + u0)), (1, .int a1), (2, .int a2)]) hx hb dX1_clearWords_5 rfl hl (by decide) rfl (fun ls hl => ?_)
  obtain ⟨M13, hq, hf⟩ := xb1_e hf
  refine j_X1_clearWords_6 C L_u0 a2 (fun H locs ls hm hl => ?_) xfuel M v1 H locs ls hq hm (lv_sub hl [1, 3, 0] rfl)
  cases hf
  exact x_vret C hm trivial dX1_clearWords_38
/-! ColouredHeap$Heap.freePage(I)V -/
theorem dX1_freePage_0 : decode cX1_freePage 0 = .ok (.iload_n 1, 1) := by decide +kernel
theorem dX1_freePage_1 : decode cX1_freePage 1 = .ok (.invokestatic 108, 3) := by decide +kernel
theorem dX1_freePage_4 : decode cX1_freePage 4 = .ok (.ifCond .ne 4, 3) := by decide +kernel
theorem dX1_freePage_7 : decode cX1_freePage 7 = .ok (.return_, 1) := by decide +kernel
theorem dX1_freePage_8 : decode cX1_freePage 8 = .ok (.aload_n 0, 1) := by decide +kernel
theorem dX1_freePage_9 : decode cX1_freePage 9 = .ok (.iload_n 1, 1) := by decide +kernel
theorem dX1_freePage_10 : decode cX1_freePage 10 = .ok (.bipush 8, 2) := by decide +kernel
theorem dX1_freePage_12 : decode cX1_freePage 12 = .ok (.imul, 1) := by decide +kernel
theorem dX1_freePage_13 : decode cX1_freePage 13 = .ok (.iload_n 1, 1) := by decide +kernel
theorem dX1_freePage_14 : decode cX1_freePage 14 = .ok (.iconst 1, 1) := by decide +kernel
theorem dX1_freePage_15 : decode cX1_freePage 15 = .ok (.iadd, 1) := by decide +kernel
theorem dX1_freePage_16 : decode cX1_freePage 16 = .ok (.bipush 8, 2) := by decide +kernel
theorem dX1_freePage_18 : decode cX1_freePage 18 = .ok (.imul, 1) := by decide +kernel
theorem dX1_freePage_19 : decode cX1_freePage 19 = .ok (.invokevirtual 159, 3) := by decide +kernel
theorem dX1_freePage_22 : decode cX1_freePage 22 = .ok (.aload_n 0, 1) := by decide +kernel
theorem dX1_freePage_23 : decode cX1_freePage 23 = .ok (.getfield 24, 3) := by decide +kernel
theorem dX1_freePage_26 : decode cX1_freePage 26 = .ok (.iload_n 1, 1) := by decide +kernel
theorem dX1_freePage_27 : decode cX1_freePage 27 = .ok (.iconst 0, 1) := by decide +kernel
theorem dX1_freePage_28 : decode cX1_freePage 28 = .ok (.iastore, 1) := by decide +kernel
theorem dX1_freePage_29 : decode cX1_freePage 29 = .ok (.aload_n 0, 1) := by decide +kernel
theorem dX1_freePage_30 : decode cX1_freePage 30 = .ok (.getfield 27, 3) := by decide +kernel
theorem dX1_freePage_33 : decode cX1_freePage 33 = .ok (.iload_n 1, 1) := by decide +kernel
theorem dX1_freePage_34 : decode cX1_freePage 34 = .ok (.iconst 0, 1) := by decide +kernel
theorem dX1_freePage_35 : decode cX1_freePage 35 = .ok (.iastore, 1) := by decide +kernel
theorem dX1_freePage_36 : decode cX1_freePage 36 = .ok (.aload_n 0, 1) := by decide +kernel
theorem dX1_freePage_37 : decode cX1_freePage 37 = .ok (.getfield 30, 3) := by decide +kernel
theorem dX1_freePage_40 : decode cX1_freePage 40 = .ok (.iload_n 1, 1) := by decide +kernel
theorem dX1_freePage_41 : decode cX1_freePage 41 = .ok (.iconst 0, 1) := by decide +kernel
theorem dX1_freePage_42 : decode cX1_freePage 42 = .ok (.iastore, 1) := by decide +kernel
theorem dX1_freePage_43 : decode cX1_freePage 43 = .ok (.aload_n 0, 1) := by decide +kernel
theorem dX1_freePage_44 : decode cX1_freePage 44 = .ok (.getfield 51, 3) := by decide +kernel
theorem dX1_freePage_47 : decode cX1_freePage 47 = .ok (.aload_n 0, 1) := by decide +kernel
theorem dX1_freePage_48 : decode cX1_freePage 48 = .ok (.getfield 68, 3) := by decide +kernel
theorem dX1_freePage_51 : decode cX1_freePage 51 = .ok (.iconst 3, 1) := by decide +kernel
theorem dX1_freePage_52 : decode cX1_freePage 52 = .ok (.iload_n 1, 1) := by decide +kernel
theorem dX1_freePage_53 : decode cX1_freePage 53 = .ok (.invokevirtual 121, 3) := by decide +kernel
theorem dX1_freePage_56 : decode cX1_freePage 56 = .ok (.return_, 1) := by decide +kernel
def f_X1_freePage (u0 : Nat) (M : xm) (a1 : Int32) : Option (xm) := (if (f_X9_isPage a1) = 0 then some M else xb1 (f_X1_clearWords u0 M (a1 * (8 : Int32)) ((a1 + (1 : Int32)) * (8 : Int32))) (fun M4 => if xin a1 8 = true then xlet (up2 M4 (u0 + 5) (Int32.toNatClampNeg a1) (0 : Int32)) (fun M7 => xlet (up2 M7 (u0 + 6) (Int32.toNatClampNeg a1) (0 : Int32)) (fun M8 => xlet (up2 M8 (u0 + 7) (Int32.toNatClampNeg a1) (0 : Int32)) (fun M9 => xb1 (f_X0_write (u0 + 13) M9 (M9 u0 17) (3 : Int32) a1) (fun M11 => some M11)))) else none))
set_option maxHeartbeats 4000000 in
set_option maxRecDepth 20000 in
theorem c_X1_freePage (l : Launch) (E : xE) (b : Nat) {u0 : Nat} (L_u0 : lat u0 pHeap) (M : xm) (a1 : Int32) {M' : xm} (hf : f_X1_freePage u0 M a1 = some M') :
    xMet l E b NX yX1_freePage cX1_freePage 2 none (xR 3) [.ref (b + u0), .int a1] (cX E b M) none True (cX E b M') := by
  refine xMet.ofW (own := RX1) (by decide) rfl (Nat.le_of_ble_eq_true rfl) ?_
  intro p e s m below meth c H locs ls C hm hl
  have hx := C.1.1
  have hb := C.1.2.1
  have hl : lv_has ls 2 [(0, .ref (b + u0)), (1, .int a1)] := hl
  unfold f_X1_freePage at hf
  refine lv_iload_n hx hb dX1_freePage_0 rfl (lv_at hl 1 rfl) ?_
  refine x_callSNi (As := [.int a1]) (rest := []) C hm (c_X9_isPage l E b M a1 rfl) tc_X9_isPage (by decide +kernel : (RX1, 108, yX9_isPage, "ColouredHeap") ∈ xNest) tz_X9_isPage tn_RX9 td_X9_isPage rfl rfl ⟨Nat.le_of_ble_eq_true rfl, Nat.le_of_ble_eq_true rfl⟩ rfl hl.1 rfl (Nat.le_of_ble_eq_true rfl) ⟨Nat.zero_le _, Nat.zero_le _⟩ dX1_freePage_1 (fun H locs hP1 hm => ?_)
  refine lv_if_ne (tgt := 8) hx hb dX1_freePage_4 (by decide) (fun hc2 => ?_) (fun hc2 => ?_)
  rotate_left
  · have hf := xif_t hc2 hf
    cases hf
    exact x_vret C hm trivial dX1_freePage_7
  have hf := xif_f hc2 hf
  refine lv_aload_n hx hb dX1_freePage_8 rfl (lv_at hl 0 rfl) ?_
  refine lv_iload_n hx hb dX1_freePage_9 rfl (lv_at hl 1 rfl) ?_
  refine lv_bipush (v := (8 : Int32)) hx hb dX1_freePage_10 (by decide) ?_
  refine lv_imul hx hb dX1_freePage_12 ?_
  refine lv_iload_n hx hb dX1_freePage_13 rfl (lv_at hl 1 rfl) ?_
  refine lv_iconst (v := (1 : Int32)) hx hb dX1_freePage_14 (by decide) ?_
  refine lv_iadd hx hb dX1_freePage_15 ?_
  refine lv_bipush (v := (8 : Int32)) hx hb dX1_freePage_16 (by decide) ?_
  refine lv_imul hx hb dX1_freePage_18 ?_
  obtain ⟨M4, hq3, hf⟩ := xb1_e hf
  refine x_callVv (As := [.int (a1 * (8 : Int32)), .int ((a1 + (1 : Int32)) * (8 : Int32))]) (rest := []) C hm (c_X1_clearWords l E b L_u0 M (a1 * (8 : Int32)) ((a1 + (1 : Int32)) * (8 : Int32)) hq3) rfl (cx_Heap (L_u0 0 _ rfl)) tc_X1_clearWords tm_RX1_159 ti_X1_clearWords ts_X1_clearWords tn_RX1 td_X1_clearWords rfl rfl ⟨Nat.le_of_ble_eq_true rfl, Nat.le_of_ble_eq_true rfl⟩ rfl hl.1 rfl (Nat.le_of_ble_eq_true rfl) ⟨Nat.zero_le _, Nat.zero_le _⟩ dX1_freePage_19 (fun H locs hP5 hm => ?_)
  refine lv_aload_n hx hb dX1_freePage_22 rfl (lv_at hl 0 rfl) ?_
  refine x_get C hm inX1 rfl 4 (by decide) tf_RX1_24 (cx_Heap (L_u0 0 _ rfl)) rfl dX1_freePage_23 ?_
  refine lv_iload_n hx hb dX1_freePage_26 rfl (lv_at hl 1 rfl) ?_
  refine lv_iconst (v := (0 : Int32)) hx hb dX1_freePage_27 (by decide) ?_
  obtain ⟨hi6, hf⟩ := xif_s hf
  obtain ⟨M7, eM7, hf⟩ := xlet_x hf
  refine x_iast (j := (Int32.toNatClampNeg a1)) (cf' := cX E b M7) C hm (cx_I (L_u0 5 _ rfl)) hi6 dX1_freePage_28 rfl (by rw [eM7]; exact cu_I (L_u0 5 _ rfl)) (by rw [eM7]; exact cX_o) (fun H locs hm => ?_)
  refine lv_aload_n hx hb dX1_freePage_29 rfl (lv_at hl 0 rfl) ?_
  refine x_get C hm inX1 rfl 5 (by decide) tf_RX1_27 (cx_Heap (L_u0 0 _ rfl)) rfl dX1_freePage_30 ?_
  refine lv_iload_n hx hb dX1_freePage_33 rfl (lv_at hl 1 rfl) ?_
  refine lv_iconst (v := (0 : Int32)) hx hb dX1_freePage_34 (by decide) ?_
  obtain ⟨M8, eM8, hf⟩ := xlet_x hf
  refine x_iast (j := (Int32.toNatClampNeg a1)) (cf' := cX E b M8) C hm (cx_I (L_u0 6 _ rfl)) hi6 dX1_freePage_35 rfl (by rw [eM8]; exact cu_I (L_u0 6 _ rfl)) (by rw [eM8]; exact cX_o) (fun H locs hm => ?_)
  refine lv_aload_n hx hb dX1_freePage_36 rfl (lv_at hl 0 rfl) ?_
  refine x_get C hm inX1 rfl 6 (by decide) tf_RX1_30 (cx_Heap (L_u0 0 _ rfl)) rfl dX1_freePage_37 ?_
  refine lv_iload_n hx hb dX1_freePage_40 rfl (lv_at hl 1 rfl) ?_
  refine lv_iconst (v := (0 : Int32)) hx hb dX1_freePage_41 (by decide) ?_
  obtain ⟨M9, eM9, hf⟩ := xlet_x hf
  refine x_iast (j := (Int32.toNatClampNeg a1)) (cf' := cX E b M9) C hm (cx_I (L_u0 7 _ rfl)) hi6 dX1_freePage_42 rfl (by rw [eM9]; exact cu_I (L_u0 7 _ rfl)) (by rw [eM9]; exact cX_o) (fun H locs hm => ?_)
  refine lv_aload_n hx hb dX1_freePage_43 rfl (lv_at hl 0 rfl) ?_
  refine x_get C hm inX1 rfl 12 (by decide) tf_RX1_51 (cx_Heap (L_u0 0 _ rfl)) rfl dX1_freePage_44 ?_
  refine lv_aload_n hx hb dX1_freePage_47 rfl (lv_at hl 0 rfl) ?_
  refine x_get C hm inX1 rfl 17 (by decide) tf_RX1_68 (cx_Heap (L_u0 0 _ rfl)) rfl dX1_freePage_48 ?_
  refine lv_iconst (v := (3 : Int32)) hx hb dX1_freePage_51 (by decide) ?_
  refine lv_iload_n hx hb dX1_freePage_52 rfl (lv_at hl 1 rfl) ?_
  obtain ⟨M11, hq10, hf⟩ := xb1_e hf
  refine x_callVv (As := [.int (M9 u0 17), .int (3 : Int32), .int a1]) (rest := []) C hm (c_X0_write l E b (lat_book L_u0) M9 (M9 u0 17) (3 : Int32) a1 hq10) rfl (cx_Book ((lat_book L_u0) 0 _ rfl)) tc_X0_write tm_RX1_121 ti_X0_write ts_X0_write tn_RX0 td_X0_write rfl rfl ⟨Nat.le_of_ble_eq_true rfl, Nat.le_of_ble_eq_true rfl⟩ rfl hl.1 rfl (Nat.le_of_ble_eq_true rfl) ⟨Nat.zero_le _, Nat.zero_le _⟩ dX1_freePage_53 (fun H locs hP12 hm => ?_)
  cases hf
  exact x_vret C hm trivial dX1_freePage_56
