/-! ColouredHeapModel.isBegun(I)Z -/
theorem dX10_isBegun_0 : decode cX10_isBegun 0 = .ok (.aload_n 0, 1) := by decide +kernel
theorem dX10_isBegun_1 : decode cX10_isBegun 1 = .ok (.getfield 7, 3) := by decide +kernel
theorem dX10_isBegun_4 : decode cX10_isBegun 4 = .ok (.bipush 35, 2) := by decide +kernel
theorem dX10_isBegun_6 : decode cX10_isBegun 6 = .ok (.iload_n 1, 1) := by decide +kernel
theorem dX10_isBegun_7 : decode cX10_isBegun 7 = .ok (.iadd, 1) := by decide +kernel
theorem dX10_isBegun_8 : decode cX10_isBegun 8 = .ok (.iaload, 1) := by decide +kernel
theorem dX10_isBegun_9 : decode cX10_isBegun 9 = .ok (.iconst (-1), 1) := by decide +kernel
theorem dX10_isBegun_10 : decode cX10_isBegun 10 = .ok (.if_icmp .eq 7, 3) := by decide +kernel
theorem dX10_isBegun_13 : decode cX10_isBegun 13 = .ok (.iconst 1, 1) := by decide +kernel
theorem dX10_isBegun_14 : decode cX10_isBegun 14 = .ok (.goto 4, 3) := by decide +kernel
theorem dX10_isBegun_17 : decode cX10_isBegun 17 = .ok (.iconst 0, 1) := by decide +kernel
theorem dX10_isBegun_18 : decode cX10_isBegun 18 = .ok (.ireturn, 1) := by decide +kernel
def f_X10_isBegun (M : xm) (a1 : Int32) : Option (Int32) := if xin ((35 : Int32) + a1) 9878 = true then (if (M 1 (Int32.toNatClampNeg ((35 : Int32) + a1))) = (-1 : Int32) then some (0 : Int32) else some (1 : Int32)) else none
set_option maxHeartbeats 4000000 in
set_option maxRecDepth 20000 in
theorem c_X10_isBegun (l : Launch) (E : xE) (b : Nat) (M : xm) (Lm : xn) (a1 : Int32) {r : Int32} (hf : f_X10_isBegun M a1 = some r) :
    xMet l E b NY yX10_isBegun cX10_isBegun 2 (some .boolean) (xR 1) [.ref (b + 0), .int a1] (cY E b M Lm) (some (.int r)) (xbo r = true) (cY E b M Lm) := by
  refine xMet.ofW (own := RX10) (by decide) rfl (Nat.le_of_ble_eq_true rfl) ?_
  intro p e s m below meth c H locs ls C hm hl
  have hx := C.1.1
  have hb := C.1.2.1
  have hl : lv_has ls 2 [(0, .ref (b + 0)), (1, .int a1)] := hl
  unfold f_X10_isBegun at hf
  refine lv_aload_n hx hb dX10_isBegun_0 rfl (lv_at hl 0 rfl) ?_
  refine x_get C hm inX10 rfl 0 (by decide) tf_RX10_7 cy_0 rfl dX10_isBegun_1 ?_
  refine lv_bipush (v := (35 : Int32)) hx hb dX10_isBegun_4 (by decide) ?_
  refine lv_iload_n hx hb dX10_isBegun_6 rfl (lv_at hl 1 rfl) ?_
  refine lv_iadd hx hb dX10_isBegun_7 ?_
  obtain ⟨hi1, hf⟩ := xif_s hf
  refine x_iald (j := (Int32.toNatClampNeg ((35 : Int32) + a1))) C hm cy_1 hi1 dX10_isBegun_8 rfl ?_
  refine lv_iconst (v := (-1 : Int32)) hx hb dX10_isBegun_9 (by decide) ?_
  refine lv_icmp_eq (tgt := 17) hx hb dX10_isBegun_10 (by decide) (fun hc2 => ?_) (fun hc2 => ?_)
  · have hf := xif_t hc2 hf
    refine lv_iconst (v := (0 : Int32)) hx hb dX10_isBegun_17 (by decide) ?_
    cases hf
    exact x_zret C hm (by decide) (by decide) dX10_isBegun_18
  have hf := xif_f hc2 hf
  refine lv_iconst (v := (1 : Int32)) hx hb dX10_isBegun_13 (by decide) ?_
  refine lv_goto (tgt := 18) hx hb dX10_isBegun_14 (by decide) ?_
  cases hf
  exact x_zret C hm (by decide) (by decide) dX10_isBegun_18
/-! ColouredHeapModel.isIn(III)Z -/
theorem dX10_isIn_0 : decode cX10_isIn 0 = .ok (.iload_n 0, 1) := by decide +kernel
theorem dX10_isIn_1 : decode cX10_isIn 1 = .ok (.iload_n 1, 1) := by decide +kernel
theorem dX10_isIn_2 : decode cX10_isIn 2 = .ok (.if_icmp .lt 12, 3) := by decide +kernel
theorem dX10_isIn_5 : decode cX10_isIn 5 = .ok (.iload_n 0, 1) := by decide +kernel
theorem dX10_isIn_6 : decode cX10_isIn 6 = .ok (.iload_n 2, 1) := by decide +kernel
theorem dX10_isIn_7 : decode cX10_isIn 7 = .ok (.if_icmp .gt 7, 3) := by decide +kernel
theorem dX10_isIn_10 : decode cX10_isIn 10 = .ok (.iconst 1, 1) := by decide +kernel
theorem dX10_isIn_11 : decode cX10_isIn 11 = .ok (.goto 4, 3) := by decide +kernel
theorem dX10_isIn_14 : decode cX10_isIn 14 = .ok (.iconst 0, 1) := by decide +kernel
theorem dX10_isIn_15 : decode cX10_isIn 15 = .ok (.ireturn, 1) := by decide +kernel
def f_X10_isIn (a0 : Int32) (a1 : Int32) (a2 : Int32) : Int32 := (if a0 < a1 then (0 : Int32) else (if a2 < a0 then (0 : Int32) else (1 : Int32)))
set_option maxHeartbeats 4000000 in
set_option maxRecDepth 20000 in
theorem c_X10_isIn (l : Launch) (E : xE) (b : Nat) (M : xm) (Lm : xn) (a0 : Int32) (a1 : Int32) (a2 : Int32) {r : Int32} (hf : f_X10_isIn a0 a1 a2 = r) :
    xMet l E b NY yX10_isIn cX10_isIn 3 (some .boolean) (xR 1) [.int a0, .int a1, .int a2] (cY E b M Lm) (some (.int r)) (xbo r = true) (cY E b M Lm) := by
  refine xMet.ofW (own := RX10) (by decide) rfl (Nat.le_of_ble_eq_true rfl) ?_
  intro p e s m below meth c H locs ls C hm hl
  have hx := C.1.1
  have hb := C.1.2.1
  have hl : lv_has ls 3 [(0, .int a0), (1, .int a1), (2, .int a2)] := hl
  unfold f_X10_isIn at hf
  refine lv_iload_n hx hb dX10_isIn_0 rfl (lv_at hl 0 rfl) ?_
  refine lv_iload_n hx hb dX10_isIn_1 rfl (lv_at hl 1 rfl) ?_
  refine lv_icmp_lt (tgt := 14) hx hb dX10_isIn_2 (by decide) (fun hc1 => ?_) (fun hc1 => ?_)
  · have hf := xif_t hc1 hf
    refine lv_iconst (v := (0 : Int32)) hx hb dX10_isIn_14 (by decide) ?_
    cases hf
    exact x_zret C hm (by decide) (by decide) dX10_isIn_15
  have hf := xif_f hc1 hf
  refine lv_iload_n hx hb dX10_isIn_5 rfl (lv_at hl 0 rfl) ?_
  refine lv_iload_n hx hb dX10_isIn_6 rfl (lv_at hl 2 rfl) ?_
  refine lv_icmp_gt (tgt := 14) hx hb dX10_isIn_7 (by decide) (fun hc2 => ?_) (fun hc2 => ?_)
  · have hf := xif_t hc2 hf
    refine lv_iconst (v := (0 : Int32)) hx hb dX10_isIn_14 (by decide) ?_
    cases hf
    exact x_zret C hm (by decide) (by decide) dX10_isIn_15
  have hf := xif_f hc2 hf
  refine lv_iconst (v := (1 : Int32)) hx hb dX10_isIn_10 (by decide) ?_
  refine lv_goto (tgt := 15) hx hb dX10_isIn_11 (by decide) ?_
  cases hf
  exact x_zret C hm (by decide) (by decide) dX10_isIn_15
/-! ColouredHeapModel.about(I)I -/
theorem dX10_about_0 : decode cX10_about 0 = .ok (.iload_n 1, 1) := by decide +kernel
theorem dX10_about_1 : decode cX10_about 1 = .ok (.tableswitch 67 3 5 #[27, 55, 62], 27) := by decide +kernel
theorem dX10_about_28 : decode cX10_about 28 = .ok (.aload_n 0, 1) := by decide +kernel
theorem dX10_about_29 : decode cX10_about 29 = .ok (.iconst 0, 1) := by decide +kernel
theorem dX10_about_30 : decode cX10_about 30 = .ok (.invokevirtual 71, 3) := by decide +kernel
theorem dX10_about_33 : decode cX10_about 33 = .ok (.ifCond .eq 7, 3) := by decide +kernel
theorem dX10_about_36 : decode cX10_about 36 = .ok (.iconst 1, 1) := by decide +kernel
theorem dX10_about_37 : decode cX10_about 37 = .ok (.goto 4, 3) := by decide +kernel
theorem dX10_about_40 : decode cX10_about 40 = .ok (.iconst 0, 1) := by decide +kernel
theorem dX10_about_41 : decode cX10_about 41 = .ok (.aload_n 0, 1) := by decide +kernel
theorem dX10_about_42 : decode cX10_about 42 = .ok (.iconst 1, 1) := by decide +kernel
theorem dX10_about_43 : decode cX10_about 43 = .ok (.invokevirtual 71, 3) := by decide +kernel
theorem dX10_about_46 : decode cX10_about 46 = .ok (.ifCond .eq 7, 3) := by decide +kernel
theorem dX10_about_49 : decode cX10_about 49 = .ok (.iconst 2, 1) := by decide +kernel
theorem dX10_about_50 : decode cX10_about 50 = .ok (.goto 4, 3) := by decide +kernel
theorem dX10_about_53 : decode cX10_about 53 = .ok (.iconst 0, 1) := by decide +kernel
theorem dX10_about_54 : decode cX10_about 54 = .ok (.iadd, 1) := by decide +kernel
theorem dX10_about_55 : decode cX10_about 55 = .ok (.ireturn, 1) := by decide +kernel
theorem dX10_about_56 : decode cX10_about 56 = .ok (.aload_n 0, 1) := by decide +kernel
theorem dX10_about_57 : decode cX10_about 57 = .ok (.getfield 7, 3) := by decide +kernel
theorem dX10_about_60 : decode cX10_about 60 = .ok (.iconst 3, 1) := by decide +kernel
theorem dX10_about_61 : decode cX10_about 61 = .ok (.iaload, 1) := by decide +kernel
theorem dX10_about_62 : decode cX10_about 62 = .ok (.ireturn, 1) := by decide +kernel
theorem dX10_about_63 : decode cX10_about 63 = .ok (.aload_n 0, 1) := by decide +kernel
theorem dX10_about_64 : decode cX10_about 64 = .ok (.getfield 83, 3) := by decide +kernel
theorem dX10_about_67 : decode cX10_about 67 = .ok (.ireturn, 1) := by decide +kernel
theorem dX10_about_68 : decode cX10_about 68 = .ok (.iload_n 1, 1) := by decide +kernel
theorem dX10_about_69 : decode cX10_about 69 = .ok (.iconst 0, 1) := by decide +kernel
theorem dX10_about_70 : decode cX10_about 70 = .ok (.iconst 2, 1) := by decide +kernel
theorem dX10_about_71 : decode cX10_about 71 = .ok (.invokestatic 59, 3) := by decide +kernel
theorem dX10_about_74 : decode cX10_about 74 = .ok (.ifCond .eq 12, 3) := by decide +kernel
theorem dX10_about_77 : decode cX10_about 77 = .ok (.aload_n 0, 1) := by decide +kernel
theorem dX10_about_78 : decode cX10_about 78 = .ok (.getfield 7, 3) := by decide +kernel
theorem dX10_about_81 : decode cX10_about 81 = .ok (.iload_n 1, 1) := by decide +kernel
theorem dX10_about_82 : decode cX10_about 82 = .ok (.iaload, 1) := by decide +kernel
theorem dX10_about_83 : decode cX10_about 83 = .ok (.goto 5, 3) := by decide +kernel
theorem dX10_about_86 : decode cX10_about 86 = .ok (.bipush (-2), 2) := by decide +kernel
theorem dX10_about_88 : decode cX10_about 88 = .ok (.ireturn, 1) := by decide +kernel
def f_X10_about (M : xm) (a1 : Int32) : Option (Int32) := (if a1 = (3 : Int32) then xb1 (f_X10_isBegun M (0 : Int32)) (fun v3 => xlet (fun (w5 : Int32) => xb1 (f_X10_isBegun M (1 : Int32)) (fun v8 => (if v8 = 0 then some (w5 + (0 : Int32)) else some (w5 + (2 : Int32))))) (fun k6 => (if v3 = 0 then (k6 (0 : Int32)) else (k6 (1 : Int32))))) else (if a1 = (4 : Int32) then some (M 1 3) else (if a1 = (5 : Int32) then some (M 0 4) else (if (f_X10_isIn a1 (0 : Int32) (2 : Int32)) = 0 then some (-2 : Int32) else if xin a1 9878 = true then some (M 1 (Int32.toNatClampNeg a1)) else none))))
set_option maxHeartbeats 4000000 in
set_option maxRecDepth 20000 in
theorem c_X10_about (l : Launch) (E : xE) (b : Nat) (M : xm) (Lm : xn) (a1 : Int32) {r : Int32} (hf : f_X10_about M a1 = some r) :
    xMet l E b NY yX10_about cX10_about 2 (some .int) (xR 2) [.ref (b + 0), .int a1] (cY E b M Lm) (some (.int r)) True (cY E b M Lm) := by
  refine xMet.ofW (own := RX10) (by decide) rfl (Nat.le_of_ble_eq_true rfl) ?_
  intro p e s m below meth c H locs ls C hm hl
  have hx := C.1.1
  have hb := C.1.2.1
  have hl : lv_has ls 2 [(0, .ref (b + 0)), (1, .int a1)] := hl
  unfold f_X10_about at hf
  refine lv_iload_n hx hb dX10_about_0 rfl (lv_at hl 1 rfl) ?_
  by_cases hs1 : a1 = (3 : Int32)
  · have hf := xif_t hs1 hf
    refine x_tabIn (tgt := 28) hx hb (3 : Int32) hs1 dX10_about_1 (by decide) (by decide) rfl (by decide) ?_
    refine lv_aload_n hx hb dX10_about_28 rfl (lv_at hl 0 rfl) ?_
    refine lv_iconst (v := (0 : Int32)) hx hb dX10_about_29 (by decide) ?_
    obtain ⟨v3, hq2, hf⟩ := xb1_e hf
    refine x_callVi (As := [.int (0 : Int32)]) (rest := []) C hm (c_X10_isBegun l E b M Lm (0 : Int32) hq2) rfl cy_0 tc_X10_isBegun tm_RX10_71 ti_X10_isBegun ts_X10_isBegun tn_RX10 td_X10_isBegun rfl rfl ⟨Nat.le_of_ble_eq_true rfl, Nat.le_of_ble_eq_true rfl⟩ rfl hl.1 rfl (Nat.le_of_ble_eq_true rfl) ⟨Nat.zero_le _, Nat.zero_le _⟩ dX10_about_30 (fun H locs hP4 hm => ?_)
    obtain ⟨k6, ek6, hf⟩ := xlet_x hf
    have jk6 : ∀ (w5 : Int32) (H : Heap) (locs : List Loc) (ls : Array Slot), k6 w5 = some r → xM E b NY (cY E b M Lm) s.heap H locs → lv_has ls 2 [(0, .ref (b + 0))] → W p l e (xR 2) s m ([.ref (b + 0), .int a1] : List Value).toArray below meth c H locs 0 0 (MQ below (xQ E b NY (some (.int r)) True (cY E b M Lm)) ([.ref (b + 0), .int a1] : List Value).toArray s 0 0 (xA b NY)) (F0 m 41 ls [.int w5]) := by
      intro w5 H locs ls hf hm hl
      have hf := xap1 ek6 hf
      refine lv_aload_n hx hb dX10_about_41 rfl (lv_at hl 0 rfl) ?_
      refine lv_iconst (v := (1 : Int32)) hx hb dX10_about_42 (by decide) ?_
      obtain ⟨v8, hq7, hf⟩ := xb1_e hf
      refine x_callVi (As := [.int (1 : Int32)]) (rest := [.int w5]) C hm (c_X10_isBegun l E b M Lm (1 : Int32) hq7) rfl cy_0 tc_X10_isBegun tm_RX10_71 ti_X10_isBegun ts_X10_isBegun tn_RX10 td_X10_isBegun rfl rfl ⟨Nat.le_of_ble_eq_true rfl, Nat.le_of_ble_eq_true rfl⟩ rfl hl.1 rfl (Nat.le_of_ble_eq_true rfl) ⟨Nat.zero_le _, Nat.zero_le _⟩ dX10_about_43 (fun H locs hP9 hm => ?_)
      refine lv_if_eq (tgt := 53) hx hb dX10_about_46 (by decide) (fun hc10 => ?_) (fun hc10 => ?_)
      · have hf := xif_t hc10 hf
        refine lv_iconst (v := (0 : Int32)) hx hb dX10_about_53 (by decide) ?_
        refine lv_iadd hx hb dX10_about_54 ?_
        cases hf
        exact x_iret C hm trivial dX10_about_55
      have hf := xif_f hc10 hf
      refine lv_iconst (v := (2 : Int32)) hx hb dX10_about_49 (by decide) ?_
      refine lv_goto (tgt := 54) hx hb dX10_about_50 (by decide) ?_
      refine lv_iadd hx hb dX10_about_54 ?_
      cases hf
      exact x_iret C hm trivial dX10_about_55
    refine lv_if_eq (tgt := 40) hx hb dX10_about_33 (by decide) (fun hc11 => ?_) (fun hc11 => ?_)
    · have hf := xif_t hc11 hf
      refine lv_iconst (v := (0 : Int32)) hx hb dX10_about_40 (by decide) ?_
      exact jk6 (0 : Int32) H locs ls  hf hm (lv_sub hl [0] rfl)
    have hf := xif_f hc11 hf
    refine lv_iconst (v := (1 : Int32)) hx hb dX10_about_36 (by decide) ?_
    refine lv_goto (tgt := 41) hx hb dX10_about_37 (by decide) ?_
    exact jk6 (1 : Int32) H locs ls  hf hm (lv_sub hl [0] rfl)
  have hf := xif_f hs1 hf
  by_cases hs12 : a1 = (4 : Int32)
  · have hf := xif_t hs12 hf
    refine x_tabIn (tgt := 56) hx hb (4 : Int32) hs12 dX10_about_1 (by decide) (by decide) rfl (by decide) ?_
    refine lv_aload_n hx hb dX10_about_56 rfl (lv_at hl 0 rfl) ?_
    refine x_get C hm inX10 rfl 0 (by decide) tf_RX10_7 cy_0 rfl dX10_about_57 ?_
    refine lv_iconst (v := (3 : Int32)) hx hb dX10_about_60 (by decide) ?_
    refine x_iald (j := 3) C hm cy_1 (by decide) dX10_about_61 (by decide) ?_
    cases hf
    exact x_iret C hm trivial dX10_about_62
  have hf := xif_f hs12 hf
  by_cases hs13 : a1 = (5 : Int32)
  · have hf := xif_t hs13 hf
    refine x_tabIn (tgt := 63) hx hb (5 : Int32) hs13 dX10_about_1 (by decide) (by decide) rfl (by decide) ?_
    refine lv_aload_n hx hb dX10_about_63 rfl (lv_at hl 0 rfl) ?_
    refine x_get C hm inX10 rfl 4 (by decide) tf_RX10_83 cy_0 rfl dX10_about_64 ?_
    cases hf
    exact x_iret C hm trivial dX10_about_67
  have hf := xif_f hs13 hf
  refine x_tabOut (tgt := 68) hx hb dX10_about_1 (by decide) (fun i hi => ?_) (by decide) ?_
  · match i, hi with
    | 0, _ => exact hs1
    | 1, _ => exact hs12
    | 2, _ => exact hs13
    | (i + 3), hi => exact absurd hi (by omega)
  refine lv_iload_n hx hb dX10_about_68 rfl (lv_at hl 1 rfl) ?_
  refine lv_iconst (v := (0 : Int32)) hx hb dX10_about_69 (by decide) ?_
  refine lv_iconst (v := (2 : Int32)) hx hb dX10_about_70 (by decide) ?_
  refine x_callSi (As := [.int a1, .int (0 : Int32), .int (2 : Int32)]) (rest := []) C hm (c_X10_isIn l E b M Lm a1 (0 : Int32) (2 : Int32) rfl) tc_X10_isIn tm_RX10_59 tz_X10_isIn tn_RX10 td_X10_isIn rfl rfl ⟨Nat.le_of_ble_eq_true rfl, Nat.le_of_ble_eq_true rfl⟩ rfl hl.1 rfl (Nat.le_of_ble_eq_true rfl) ⟨Nat.zero_le _, Nat.zero_le _⟩ dX10_about_71 (fun H locs hP14 hm => ?_)
  refine lv_if_eq (tgt := 86) hx hb dX10_about_74 (by decide) (fun hc15 => ?_) (fun hc15 => ?_)
  · have hf := xif_t hc15 hf
    refine lv_bipush (v := (-2 : Int32)) hx hb dX10_about_86 (by decide) ?_
    cases hf
    exact x_iret C hm trivial dX10_about_88
  have hf := xif_f hc15 hf
  refine lv_aload_n hx hb dX10_about_77 rfl (lv_at hl 0 rfl) ?_
  refine x_get C hm inX10 rfl 0 (by decide) tf_RX10_7 cy_0 rfl dX10_about_78 ?_
  refine lv_iload_n hx hb dX10_about_81 rfl (lv_at hl 1 rfl) ?_
  obtain ⟨hi16, hf⟩ := xif_s hf
  refine x_iald (j := (Int32.toNatClampNeg a1)) C hm cy_1 hi16 dX10_about_82 rfl ?_
  refine lv_goto (tgt := 88) hx hb dX10_about_83 (by decide) ?_
  cases hf
  exact x_iret C hm trivial dX10_about_88
/-! ColouredHeapModel.bringBack()V -/
theorem dX10_bringBack_0 : decode cX10_bringBack 0 = .ok (.iconst 0, 1) := by decide +kernel
theorem dX10_bringBack_1 : decode cX10_bringBack 1 = .ok (.istore_n 1, 1) := by decide +kernel
theorem dX10_bringBack_2 : decode cX10_bringBack 2 = .ok (.iload_n 1, 1) := by decide +kernel
theorem dX10_bringBack_3 : decode cX10_bringBack 3 = .ok (.sipush 318, 3) := by decide +kernel
theorem dX10_bringBack_6 : decode cX10_bringBack 6 = .ok (.if_icmp .ge 23, 3) := by decide +kernel
theorem dX10_bringBack_9 : decode cX10_bringBack 9 = .ok (.aload_n 0, 1) := by decide +kernel
theorem dX10_bringBack_10 : decode cX10_bringBack 10 = .ok (.getfield 7, 3) := by decide +kernel
theorem dX10_bringBack_13 : decode cX10_bringBack 13 = .ok (.iconst 4, 1) := by decide +kernel
theorem dX10_bringBack_14 : decode cX10_bringBack 14 = .ok (.iload_n 1, 1) := by decide +kernel
theorem dX10_bringBack_15 : decode cX10_bringBack 15 = .ok (.iadd, 1) := by decide +kernel
theorem dX10_bringBack_16 : decode cX10_bringBack 16 = .ok (.aload_n 0, 1) := by decide +kernel
theorem dX10_bringBack_17 : decode cX10_bringBack 17 = .ok (.getfield 43, 3) := by decide +kernel
theorem dX10_bringBack_20 : decode cX10_bringBack 20 = .ok (.iload_n 1, 1) := by decide +kernel
theorem dX10_bringBack_21 : decode cX10_bringBack 21 = .ok (.iaload, 1) := by decide +kernel
theorem dX10_bringBack_22 : decode cX10_bringBack 22 = .ok (.iastore, 1) := by decide +kernel
theorem dX10_bringBack_23 : decode cX10_bringBack 23 = .ok (.iinc 1 1, 3) := by decide +kernel
theorem dX10_bringBack_26 : decode cX10_bringBack 26 = .ok (.goto (-24), 3) := by decide +kernel
theorem dX10_bringBack_29 : decode cX10_bringBack 29 = .ok (.return_, 1) := by decide +kernel
def g_X10_bringBack_2  : Nat → xm → Int32 → Option ((xm))
  | 0, _, _ => none
  | n + 1, M2, x1 => (if (318 : Int32) ≤ x1 then some (M2) else if xin x1 318 = true then if xin ((4 : Int32) + x1) 9878 = true then xlet (up2 M2 1 (Int32.toNatClampNeg ((4 : Int32) + x1)) (M2 9 (Int32.toNatClampNeg x1))) (fun M7 => xlet (x1 + (1 : Int32)) (fun v8 => g_X10_bringBack_2 n M7 v8)) else none else none)
def f_X10_bringBack (M : xm) : Option (xm) := xb1 (g_X10_bringBack_2 xfuel M (0 : Int32)) (fun M9 => some M9)
set_option maxHeartbeats 4000000 in
set_option maxRecDepth 20000 in
theorem j_X10_bringBack_2 {p : Program} {l : Launch} {e : Env} {s : State} {m : MethodId} {args : Array Value} {below : List Frame} {meth : Method} {c : Code} {Q : State → Prop} {E : xE} {b : Nat} (C : xC p s m args meth c cX10_bringBack 2 RX10 none E b) {Lm : xn} {y3 : xm}
    (kx0 : ∀ (H : Heap) (locs : List Loc) (ls : Array Slot), xM E b NY (cY E b y3 Lm) s.heap H locs → lv_has ls 2 [] → W p l e (xR 1) s m args below meth c H locs 0 0 Q (F0 m 29 ls [])) :
    ∀ (n : Nat) (M2 : xm) (x1 : Int32) (H : Heap) (locs : List Loc) (ls : Array Slot), g_X10_bringBack_2 n M2 x1 = some y3 → xM E b NY (cY E b M2 Lm) s.heap H locs → lv_has ls 2 [(0, .ref (b + 0)), (1, .int x1)] → W p l e (xR 1) s m args below meth c H locs 0 0 Q (F0 m 2 ls []) := by
  have hx := C.1.1
  have hb := C.1.2.1
  intro n
  induction n with
  | zero =>
    intro M2 x1 H locs ls hf hm hl
    rw [g_X10_bringBack_2] at hf
    cases hf
  | succ n ih =>
    intro M2 x1 H locs ls hf hm hl
    rw [g_X10_bringBack_2] at hf
    refine lv_iload_n hx hb dX10_bringBack_2 rfl (lv_at hl 1 rfl) ?_
    refine lv_sipush (v := (318 : Int32)) hx hb dX10_bringBack_3 (by decide) ?_
    refine lv_icmp_ge (tgt := 29) hx hb dX10_bringBack_6 (by decide) (fun hc4 => ?_) (fun hc4 => ?_)
    · have hf := xif_t hc4 hf
      cases hf
      exact kx0 H locs ls hm (lv_sub hl [] rfl)
    have hf := xif_f hc4 hf
    refine lv_aload_n hx hb dX10_bringBack_9 rfl (lv_at hl 0 rfl) ?_
    refine x_get C hm inX10 rfl 0 (by decide) tf_RX10_7 cy_0 rfl dX10_bringBack_10 ?_
    refine lv_iconst (v := (4 : Int32)) hx hb dX10_bringBack_13 (by decide) ?_
    refine lv_iload_n hx hb dX10_bringBack_14 rfl (lv_at hl 1 rfl) ?_
    refine lv_iadd hx hb dX10_bringBack_15 ?_
    refine lv_aload_n hx hb dX10_bringBack_16 rfl (lv_at hl 0 rfl) ?_
    refine x_get C hm inX10 rfl 23 (by decide) tf_RX10_43 cy_0 rfl dX10_bringBack_17 ?_
    refine lv_iload_n hx hb dX10_bringBack_20 rfl (lv_at hl 1 rfl) ?_
    obtain ⟨hi5, hf⟩ := xif_s hf
    refine x_iald (j := (Int32.toNatClampNeg x1)) C hm cy_9 hi5 dX10_bringBack_21 rfl ?_
    obtain ⟨hi6, hf⟩ := xif_s hf
    obtain ⟨M7, eM7, hf⟩ := xlet_x hf
    refine x_iast (j := (Int32.toNatClampNeg ((4 : Int32) + x1))) (cf' := cY E b M7 Lm) C hm cy_1 hi6 dX10_bringBack_22 rfl (by rw [eM7]; exact cyu_1) (by rw [eM7]; exact cY_o) (fun H locs hm => ?_)
    obtain ⟨v8, ev8, hf⟩ := xlet_x hf
    refine lv_iinc (v := v8) (lv' := [(1, .int v8), (0, .ref (b + 0))]) hx hb dX10_bringBack_23 hl (k := 1) rfl (by rw [ev8]; rfl) (by decide) rfl (fun ls hl => ?_)
    refine lv_goto (tgt := 2) hx hb dX10_bringBack_26 (by decide) ?_
    exact ih M7 v8 H locs ls hf hm (lv_sub hl [1, 0] rfl)
set_option maxHeartbeats 4000000 in
set_option maxRecDepth 20000 in
theorem c_X10_bringBack (l : Launch) (E : xE) (b : Nat) (M : xm) (Lm : xn) {M' : xm} (hf : f_X10_bringBack M = some M') :
    xMet l E b NY yX10_bringBack cX10_bringBack 2 none (xR 1) [.ref (b + 0)] (cY E b M Lm) none True (cY E b M' Lm) := by
  refine xMet.ofW (own := RX10) (by decide) rfl (Nat.le_of_ble_eq_true rfl) ?_
  intro p e s m below meth c H locs ls C hm hl
  have hx := C.1.1
  have hb := C.1.2.1
  have hl : lv_has ls 2 [(0, .ref (b + 0))] := hl
  unfold f_X10_bringBack at hf
  refine lv_iconst (v := (0 : Int32)) hx hb dX10_bringBack_0 (by decide) ?_
  refine lv_istore_n (lv' := [(1, .int (0 : Int32)), (0, .ref (b + 0))]) hx hb dX10_bringBack_1 rfl hl (by decide) rfl (fun ls hl => ?_)
  obtain ⟨M9, hq, hf⟩ := xb1_e hf
  refine j_X10_bringBack_2 C (fun H locs ls hm hl => ?_) xfuel M (0 : Int32) H locs ls hq hm (lv_sub hl [1, 0] rfl)
  cases hf
  exact x_vret C hm trivial dX10_bringBack_29
/-! ColouredHeapModel.fieldsOf(I)I -/
theorem dX10_fieldsOf_0 : decode cX10_fieldsOf 0 = .ok (.aload_n 0, 1) := by decide +kernel
theorem dX10_fieldsOf_1 : decode cX10_fieldsOf 1 = .ok (.getfield 7, 3) := by decide +kernel
theorem dX10_fieldsOf_4 : decode cX10_fieldsOf 4 = .ok (.bipush 41, 2) := by decide +kernel
theorem dX10_fieldsOf_6 : decode cX10_fieldsOf 6 = .ok (.iload_n 1, 1) := by decide +kernel
theorem dX10_fieldsOf_7 : decode cX10_fieldsOf 7 = .ok (.iadd, 1) := by decide +kernel
theorem dX10_fieldsOf_8 : decode cX10_fieldsOf 8 = .ok (.iaload, 1) := by decide +kernel
theorem dX10_fieldsOf_9 : decode cX10_fieldsOf 9 = .ok (.sipush 1000, 3) := by decide +kernel
theorem dX10_fieldsOf_12 : decode cX10_fieldsOf 12 = .ok (.isub, 1) := by decide +kernel
theorem dX10_fieldsOf_13 : decode cX10_fieldsOf 13 = .ok (.ireturn, 1) := by decide +kernel
def f_X10_fieldsOf (M : xm) (a1 : Int32) : Option (Int32) := if xin ((41 : Int32) + a1) 9878 = true then some ((M 1 (Int32.toNatClampNeg ((41 : Int32) + a1))) - (1000 : Int32)) else none
set_option maxHeartbeats 4000000 in
set_option maxRecDepth 20000 in
theorem c_X10_fieldsOf (l : Launch) (E : xE) (b : Nat) (M : xm) (Lm : xn) (a1 : Int32) {r : Int32} (hf : f_X10_fieldsOf M a1 = some r) :
    xMet l E b NY yX10_fieldsOf cX10_fieldsOf 2 (some .int) (xR 1) [.ref (b + 0), .int a1] (cY E b M Lm) (some (.int r)) True (cY E b M Lm) := by
  refine xMet.ofW (own := RX10) (by decide) rfl (Nat.le_of_ble_eq_true rfl) ?_
  intro p e s m below meth c H locs ls C hm hl
  have hx := C.1.1
  have hb := C.1.2.1
  have hl : lv_has ls 2 [(0, .ref (b + 0)), (1, .int a1)] := hl
  unfold f_X10_fieldsOf at hf
  refine lv_aload_n hx hb dX10_fieldsOf_0 rfl (lv_at hl 0 rfl) ?_
  refine x_get C hm inX10 rfl 0 (by decide) tf_RX10_7 cy_0 rfl dX10_fieldsOf_1 ?_
  refine lv_bipush (v := (41 : Int32)) hx hb dX10_fieldsOf_4 (by decide) ?_
  refine lv_iload_n hx hb dX10_fieldsOf_6 rfl (lv_at hl 1 rfl) ?_
  refine lv_iadd hx hb dX10_fieldsOf_7 ?_
  obtain ⟨hi1, hf⟩ := xif_s hf
  refine x_iald (j := (Int32.toNatClampNeg ((41 : Int32) + a1))) C hm cy_1 hi1 dX10_fieldsOf_8 rfl ?_
  refine lv_sipush (v := (1000 : Int32)) hx hb dX10_fieldsOf_9 (by decide) ?_
  refine lv_isub hx hb dX10_fieldsOf_12 ?_
  cases hf
  exact x_iret C hm trivial dX10_fieldsOf_13
/-! ColouredHeapModel.sizeOf(I)I -/
theorem dX10_sizeOf_0 : decode cX10_sizeOf 0 = .ok (.aload_n 0, 1) := by decide +kernel
theorem dX10_sizeOf_1 : decode cX10_sizeOf 1 = .ok (.iload_n 1, 1) := by decide +kernel
theorem dX10_sizeOf_2 : decode cX10_sizeOf 2 = .ok (.invokevirtual 67, 3) := by decide +kernel
theorem dX10_sizeOf_5 : decode cX10_sizeOf 5 = .ok (.iconst 1, 1) := by decide +kernel
theorem dX10_sizeOf_6 : decode cX10_sizeOf 6 = .ok (.iadd, 1) := by decide +kernel
theorem dX10_sizeOf_7 : decode cX10_sizeOf 7 = .ok (.ireturn, 1) := by decide +kernel
def f_X10_sizeOf (M : xm) (a1 : Int32) : Option (Int32) := xb1 (f_X10_fieldsOf M a1) (fun v2 => some (v2 + (1 : Int32)))
set_option maxHeartbeats 4000000 in
set_option maxRecDepth 20000 in
theorem c_X10_sizeOf (l : Launch) (E : xE) (b : Nat) (M : xm) (Lm : xn) (a1 : Int32) {r : Int32} (hf : f_X10_sizeOf M a1 = some r) :
    xMet l E b NY yX10_sizeOf cX10_sizeOf 2 (some .int) (xR 2) [.ref (b + 0), .int a1] (cY E b M Lm) (some (.int r)) True (cY E b M Lm) := by
  refine xMet.ofW (own := RX10) (by decide) rfl (Nat.le_of_ble_eq_true rfl) ?_
  intro p e s m below meth c H locs ls C hm hl
  have hx := C.1.1
  have hb := C.1.2.1
  have hl : lv_has ls 2 [(0, .ref (b + 0)), (1, .int a1)] := hl
  unfold f_X10_sizeOf at hf
  refine lv_aload_n hx hb dX10_sizeOf_0 rfl (lv_at hl 0 rfl) ?_
  refine lv_iload_n hx hb dX10_sizeOf_1 rfl (lv_at hl 1 rfl) ?_
  obtain ⟨v2, hq1, hf⟩ := xb1_e hf
  refine x_callVi (As := [.int a1]) (rest := []) C hm (c_X10_fieldsOf l E b M Lm a1 hq1) rfl cy_0 tc_X10_fieldsOf tm_RX10_67 ti_X10_fieldsOf ts_X10_fieldsOf tn_RX10 td_X10_fieldsOf rfl rfl ⟨Nat.le_of_ble_eq_true rfl, Nat.le_of_ble_eq_true rfl⟩ rfl hl.1 rfl (Nat.le_of_ble_eq_true rfl) ⟨Nat.zero_le _, Nat.zero_le _⟩ dX10_sizeOf_2 (fun H locs hP3 hm => ?_)
  refine lv_iconst (v := (1 : Int32)) hx hb dX10_sizeOf_5 (by decide) ?_
  refine lv_iadd hx hb dX10_sizeOf_6 ?_
  cases hf
  exact x_iret C hm trivial dX10_sizeOf_7
/-! ColouredHeapModel.leaveCopy(I)V -/
theorem dX10_leaveCopy_0 : decode cX10_leaveCopy 0 = .ok (.iload_n 1, 1) := by decide +kernel
theorem dX10_leaveCopy_1 : decode cX10_leaveCopy 1 = .ok (.bipush 8, 2) := by decide +kernel
theorem dX10_leaveCopy_3 : decode cX10_leaveCopy 3 = .ok (.idiv, 1) := by decide +kernel
theorem dX10_leaveCopy_4 : decode cX10_leaveCopy 4 = .ok (.istore_n 2, 1) := by decide +kernel
theorem dX10_leaveCopy_5 : decode cX10_leaveCopy 5 = .ok (.aload_n 0, 1) := by decide +kernel
theorem dX10_leaveCopy_6 : decode cX10_leaveCopy 6 = .ok (.iload_n 1, 1) := by decide +kernel
theorem dX10_leaveCopy_7 : decode cX10_leaveCopy 7 = .ok (.invokevirtual 80, 3) := by decide +kernel
theorem dX10_leaveCopy_10 : decode cX10_leaveCopy 10 = .ok (.istore_n 3, 1) := by decide +kernel
theorem dX10_leaveCopy_11 : decode cX10_leaveCopy 11 = .ok (.iload_n 1, 1) := by decide +kernel
theorem dX10_leaveCopy_12 : decode cX10_leaveCopy 12 = .ok (.iload_n 3, 1) := by decide +kernel
theorem dX10_leaveCopy_13 : decode cX10_leaveCopy 13 = .ok (.iadd, 1) := by decide +kernel
theorem dX10_leaveCopy_14 : decode cX10_leaveCopy 14 = .ok (.bipush 8, 2) := by decide +kernel
theorem dX10_leaveCopy_16 : decode cX10_leaveCopy 16 = .ok (.iload_n 2, 1) := by decide +kernel
theorem dX10_leaveCopy_17 : decode cX10_leaveCopy 17 = .ok (.imul, 1) := by decide +kernel
theorem dX10_leaveCopy_18 : decode cX10_leaveCopy 18 = .ok (.aload_n 0, 1) := by decide +kernel
theorem dX10_leaveCopy_19 : decode cX10_leaveCopy 19 = .ok (.getfield 7, 3) := by decide +kernel
theorem dX10_leaveCopy_22 : decode cX10_leaveCopy 22 = .ok (.bipush 21, 2) := by decide +kernel
theorem dX10_leaveCopy_24 : decode cX10_leaveCopy 24 = .ok (.iload_n 2, 1) := by decide +kernel
theorem dX10_leaveCopy_25 : decode cX10_leaveCopy 25 = .ok (.iadd, 1) := by decide +kernel
theorem dX10_leaveCopy_26 : decode cX10_leaveCopy 26 = .ok (.iaload, 1) := by decide +kernel
theorem dX10_leaveCopy_27 : decode cX10_leaveCopy 27 = .ok (.iadd, 1) := by decide +kernel
theorem dX10_leaveCopy_28 : decode cX10_leaveCopy 28 = .ok (.if_icmp .eq 4, 3) := by decide +kernel
theorem dX10_leaveCopy_31 : decode cX10_leaveCopy 31 = .ok (.return_, 1) := by decide +kernel
theorem dX10_leaveCopy_32 : decode cX10_leaveCopy 32 = .ok (.aload_n 0, 1) := by decide +kernel
theorem dX10_leaveCopy_33 : decode cX10_leaveCopy 33 = .ok (.getfield 7, 3) := by decide +kernel
theorem dX10_leaveCopy_36 : decode cX10_leaveCopy 36 = .ok (.bipush 21, 2) := by decide +kernel
theorem dX10_leaveCopy_38 : decode cX10_leaveCopy 38 = .ok (.iload_n 2, 1) := by decide +kernel
theorem dX10_leaveCopy_39 : decode cX10_leaveCopy 39 = .ok (.iadd, 1) := by decide +kernel
theorem dX10_leaveCopy_40 : decode cX10_leaveCopy 40 = .ok (.dup2, 1) := by decide +kernel
theorem dX10_leaveCopy_41 : decode cX10_leaveCopy 41 = .ok (.iaload, 1) := by decide +kernel
theorem dX10_leaveCopy_42 : decode cX10_leaveCopy 42 = .ok (.iload_n 3, 1) := by decide +kernel
theorem dX10_leaveCopy_43 : decode cX10_leaveCopy 43 = .ok (.isub, 1) := by decide +kernel
theorem dX10_leaveCopy_44 : decode cX10_leaveCopy 44 = .ok (.iastore, 1) := by decide +kernel
theorem dX10_leaveCopy_45 : decode cX10_leaveCopy 45 = .ok (.iconst 0, 1) := by decide +kernel
theorem dX10_leaveCopy_46 : decode cX10_leaveCopy 46 = .ok (.istore 4, 2) := by decide +kernel
theorem dX10_leaveCopy_48 : decode cX10_leaveCopy 48 = .ok (.iload 4, 2) := by decide +kernel
theorem dX10_leaveCopy_50 : decode cX10_leaveCopy 50 = .ok (.iload_n 3, 1) := by decide +kernel
theorem dX10_leaveCopy_51 : decode cX10_leaveCopy 51 = .ok (.if_icmp .ge 23, 3) := by decide +kernel
theorem dX10_leaveCopy_54 : decode cX10_leaveCopy 54 = .ok (.aload_n 0, 1) := by decide +kernel
theorem dX10_leaveCopy_55 : decode cX10_leaveCopy 55 = .ok (.getfield 7, 3) := by decide +kernel
theorem dX10_leaveCopy_58 : decode cX10_leaveCopy 58 = .ok (.bipush 41, 2) := by decide +kernel
theorem dX10_leaveCopy_60 : decode cX10_leaveCopy 60 = .ok (.iload_n 1, 1) := by decide +kernel
theorem dX10_leaveCopy_61 : decode cX10_leaveCopy 61 = .ok (.iadd, 1) := by decide +kernel
theorem dX10_leaveCopy_62 : decode cX10_leaveCopy 62 = .ok (.iload 4, 2) := by decide +kernel
theorem dX10_leaveCopy_64 : decode cX10_leaveCopy 64 = .ok (.iadd, 1) := by decide +kernel
theorem dX10_leaveCopy_65 : decode cX10_leaveCopy 65 = .ok (.bipush (-2), 2) := by decide +kernel
theorem dX10_leaveCopy_67 : decode cX10_leaveCopy 67 = .ok (.iastore, 1) := by decide +kernel
theorem dX10_leaveCopy_68 : decode cX10_leaveCopy 68 = .ok (.iinc 4 1, 3) := by decide +kernel
theorem dX10_leaveCopy_71 : decode cX10_leaveCopy 71 = .ok (.goto (-23), 3) := by decide +kernel
theorem dX10_leaveCopy_74 : decode cX10_leaveCopy 74 = .ok (.return_, 1) := by decide +kernel
def g_X10_leaveCopy_48 (x8 : Int32) (x9 : Int32) : Nat → xm → Int32 → Option ((xm))
  | 0, _, _ => none
  | n + 1, M11, x10 => (if x9 ≤ x10 then some (M11) else if xin (((41 : Int32) + x8) + x10) 9878 = true then xlet (up2 M11 1 (Int32.toNatClampNeg (((41 : Int32) + x8) + x10)) (-2 : Int32)) (fun M15 => xlet (x10 + (1 : Int32)) (fun v16 => g_X10_leaveCopy_48 x8 x9 n M15 v16)) else none)
def f_X10_leaveCopy (M : xm) (a1 : Int32) : Option (xm) := xlet (a1 / (8 : Int32)) (fun v1 => xb1 (f_X10_sizeOf M a1) (fun v3 => if xin ((21 : Int32) + v1) 9878 = true then (if (a1 + v3) = (((8 : Int32) * v1) + (M 1 (Int32.toNatClampNeg ((21 : Int32) + v1)))) then xlet (up2 M 1 (Int32.toNatClampNeg ((21 : Int32) + v1)) ((M 1 (Int32.toNatClampNeg ((21 : Int32) + v1))) - v3)) (fun M7 => xb1 (g_X10_leaveCopy_48 a1 v3 xfuel M7 (0 : Int32)) (fun M17 => some M17)) else some M) else none))
set_option maxHeartbeats 4000000 in
set_option maxRecDepth 20000 in
theorem j_X10_leaveCopy_48 {p : Program} {l : Launch} {e : Env} {s : State} {m : MethodId} {args : Array Value} {below : List Frame} {meth : Method} {c : Code} {Q : State → Prop} {E : xE} {b : Nat} (C : xC p s m args meth c cX10_leaveCopy 5 RX10 none E b) {Lm : xn} (x8 : Int32) (x9 : Int32) {y12 : xm}
    (kx0 : ∀ (H : Heap) (locs : List Loc) (ls : Array Slot), xM E b NY (cY E b y12 Lm) s.heap H locs → lv_has ls 5 [] → W p l e (xR 3) s m args below meth c H locs 0 0 Q (F0 m 74 ls [])) :
    ∀ (n : Nat) (M11 : xm) (x10 : Int32) (H : Heap) (locs : List Loc) (ls : Array Slot), g_X10_leaveCopy_48 x8 x9 n M11 x10 = some y12 → xM E b NY (cY E b M11 Lm) s.heap H locs → lv_has ls 5 [(0, .ref (b + 0)), (1, .int x8), (3, .int x9), (4, .int x10)] → W p l e (xR 3) s m args below meth c H locs 0 0 Q (F0 m 48 ls []) := by
  have hx := C.1.1
  have hb := C.1.2.1
  intro n
  induction n with
  | zero =>
    intro M11 x10 H locs ls hf hm hl
    rw [g_X10_leaveCopy_48] at hf
    cases hf
  | succ n ih =>
    intro M11 x10 H locs ls hf hm hl
    rw [g_X10_leaveCopy_48] at hf
    refine lv_iload hx hb dX10_leaveCopy_48 (lv_at hl 3 rfl) ?_
    refine lv_iload_n hx hb dX10_leaveCopy_50 rfl (lv_at hl 2 rfl) ?_
    refine lv_icmp_ge (tgt := 74) hx hb dX10_leaveCopy_51 (by decide) (fun hc13 => ?_) (fun hc13 => ?_)
    · have hf := xif_t hc13 hf
      cases hf
      exact kx0 H locs ls hm (lv_sub hl [] rfl)
    have hf := xif_f hc13 hf
    refine lv_aload_n hx hb dX10_leaveCopy_54 rfl (lv_at hl 0 rfl) ?_
    refine x_get C hm inX10 rfl 0 (by decide) tf_RX10_7 cy_0 rfl dX10_leaveCopy_55 ?_
    refine lv_bipush (v := (41 : Int32)) hx hb dX10_leaveCopy_58 (by decide) ?_
    refine lv_iload_n hx hb dX10_leaveCopy_60 rfl (lv_at hl 1 rfl) ?_
    refine lv_iadd hx hb dX10_leaveCopy_61 ?_
    refine lv_iload hx hb dX10_leaveCopy_62 (lv_at hl 3 rfl) ?_
    refine lv_iadd hx hb dX10_leaveCopy_64 ?_
    refine lv_bipush (v := (-2 : Int32)) hx hb dX10_leaveCopy_65 (by decide) ?_
    obtain ⟨hi14, hf⟩ := xif_s hf
    obtain ⟨M15, eM15, hf⟩ := xlet_x hf
    refine x_iast (j := (Int32.toNatClampNeg (((41 : Int32) + x8) + x10))) (cf' := cY E b M15 Lm) C hm cy_1 hi14 dX10_leaveCopy_67 rfl (by rw [eM15]; exact cyu_1) (by rw [eM15]; exact cY_o) (fun H locs hm => ?_)
    obtain ⟨v16, ev16, hf⟩ := xlet_x hf
    refine lv_iinc (v := v16) (lv' := [(4, .int v16), (0, .ref (b + 0)), (1, .int x8), (3, .int x9)]) hx hb dX10_leaveCopy_68 hl (k := 3) rfl (by rw [ev16]; rfl) (by decide) rfl (fun ls hl => ?_)
    refine lv_goto (tgt := 48) hx hb dX10_leaveCopy_71 (by decide) ?_
    exact ih M15 v16 H locs ls hf hm (lv_sub hl [1, 2, 3, 0] rfl)
set_option maxHeartbeats 4000000 in
set_option maxRecDepth 20000 in
theorem c_X10_leaveCopy (l : Launch) (E : xE) (b : Nat) (M : xm) (Lm : xn) (a1 : Int32) {M' : xm} (hf : f_X10_leaveCopy M a1 = some M') :
    xMet l E b NY yX10_leaveCopy cX10_leaveCopy 5 none (xR 3) [.ref (b + 0), .int a1] (cY E b M Lm) none True (cY E b M' Lm) := by
  refine xMet.ofW (own := RX10) (by decide) rfl (Nat.le_of_ble_eq_true rfl) ?_
  intro p e s m below meth c H locs ls C hm hl
  have hx := C.1.1
  have hb := C.1.2.1
  have hl : lv_has ls 5 [(0, .ref (b + 0)), (1, .int a1)] := hl
  unfold f_X10_leaveCopy at hf
  refine lv_iload_n hx hb dX10_leaveCopy_0 rfl (lv_at hl 1 rfl) ?_
  refine lv_bipush (v := (8 : Int32)) hx hb dX10_leaveCopy_1 (by decide) ?_
  refine lv_idiv hx hb dX10_leaveCopy_3 (by decide) ?_
  refine lv_topi (fun v1 ev1 => ?_)
  have hf := xlet_e ev1 hf
  refine lv_istore_n (lv' := [(2, .int v1), (0, .ref (b + 0)), (1, .int a1)]) hx hb dX10_leaveCopy_4 rfl hl (by decide) rfl (fun ls hl => ?_)
  refine lv_aload_n hx hb dX10_leaveCopy_5 rfl (lv_at hl 1 rfl) ?_
  refine lv_iload_n hx hb dX10_leaveCopy_6 rfl (lv_at hl 2 rfl) ?_
  obtain ⟨v3, hq2, hf⟩ := xb1_e hf
  refine x_callVi (As := [.int a1]) (rest := []) C hm (c_X10_sizeOf l E b M Lm a1 hq2) rfl cy_0 tc_X10_sizeOf tm_RX10_80 ti_X10_sizeOf ts_X10_sizeOf tn_RX10 td_X10_sizeOf rfl rfl ⟨Nat.le_of_ble_eq_true rfl, Nat.le_of_ble_eq_true rfl⟩ rfl hl.1 rfl (Nat.le_of_ble_eq_true rfl) ⟨Nat.zero_le _, Nat.zero_le _⟩ dX10_leaveCopy_7 (fun H locs hP4 hm => ?_)
  refine lv_istore_n (lv' := [(3, .int v3), (2, .int v1), (0, .ref (b + 0)), (1, .int a1)]) hx hb dX10_leaveCopy_10 rfl hl (by decide) rfl (fun ls hl => ?_)
  refine lv_iload_n hx hb dX10_leaveCopy_11 rfl (lv_at hl 3 rfl) ?_
  refine lv_iload_n hx hb dX10_leaveCopy_12 rfl (lv_at hl 0 rfl) ?_
  refine lv_iadd hx hb dX10_leaveCopy_13 ?_
  refine lv_bipush (v := (8 : Int32)) hx hb dX10_leaveCopy_14 (by decide) ?_
  refine lv_iload_n hx hb dX10_leaveCopy_16 rfl (lv_at hl 1 rfl) ?_
  refine lv_imul hx hb dX10_leaveCopy_17 ?_
  refine lv_aload_n hx hb dX10_leaveCopy_18 rfl (lv_at hl 2 rfl) ?_
  refine x_get C hm inX10 rfl 0 (by decide) tf_RX10_7 cy_0 rfl dX10_leaveCopy_19 ?_
  refine lv_bipush (v := (21 : Int32)) hx hb dX10_leaveCopy_22 (by decide) ?_
  refine lv_iload_n hx hb dX10_leaveCopy_24 rfl (lv_at hl 1 rfl) ?_
  refine lv_iadd hx hb dX10_leaveCopy_25 ?_
  obtain ⟨hi5, hf⟩ := xif_s hf
  refine x_iald (j := (Int32.toNatClampNeg ((21 : Int32) + v1))) C hm cy_1 hi5 dX10_leaveCopy_26 rfl ?_
  refine lv_iadd hx hb dX10_leaveCopy_27 ?_
  refine lv_icmp_eq (tgt := 32) hx hb dX10_leaveCopy_28 (by decide) (fun hc6 => ?_) (fun hc6 => ?_)
  rotate_left
  · have hf := xif_f hc6 hf
    cases hf
    exact x_vret C hm trivial dX10_leaveCopy_31
  have hf := xif_t hc6 hf
  refine lv_aload_n hx hb dX10_leaveCopy_32 rfl (lv_at hl 2 rfl) ?_
  refine x_get C hm inX10 rfl 0 (by decide) tf_RX10_7 cy_0 rfl dX10_leaveCopy_33 ?_
  refine lv_bipush (v := (21 : Int32)) hx hb dX10_leaveCopy_36 (by decide) ?_
  refine lv_iload_n hx hb dX10_leaveCopy_38 rfl (lv_at hl 1 rfl) ?_
  refine lv_iadd hx hb dX10_leaveCopy_39 ?_
  refine lv_dup2_11 hx hb dX10_leaveCopy_40 rfl rfl ?_
  refine x_iald (j := (Int32.toNatClampNeg ((21 : Int32) + v1))) C hm cy_1 hi5 dX10_leaveCopy_41 rfl ?_
  refine lv_iload_n hx hb dX10_leaveCopy_42 rfl (lv_at hl 0 rfl) ?_
  refine lv_isub hx hb dX10_leaveCopy_43 ?_
  obtain ⟨M7, eM7, hf⟩ := xlet_x hf
  refine x_iast (j := (Int32.toNatClampNeg ((21 : Int32) + v1))) (cf' := cY E b M7 Lm) C hm cy_1 hi5 dX10_leaveCopy_44 rfl (by rw [eM7]; exact cyu_1) (by rw [eM7]; exact cY_o) (fun H locs hm => ?_)
  refine lv_iconst (v := (0 : Int32)) hx hb dX10_leaveCopy_45 (by decide) ?_
  refine lv_istore (lv' := [(4, .int (0 : Int32)), (3, .int v3), (2, .int v1), (0, .ref (b + 0)), (1, .int a1)]) hx hb dX10_leaveCopy_46 hl (by decide) rfl (fun ls hl => ?_)
  obtain ⟨M17, hq, hf⟩ := xb1_e hf
  refine j_X10_leaveCopy_48 C a1 v3 (fun H locs ls hm hl => ?_) xfuel M7 (0 : Int32) H locs ls hq hm (lv_sub hl [3, 4, 1, 0] rfl)
  cases hf
  exact x_vret C hm trivial dX10_leaveCopy_74
/-! ColouredHeapModel.colourOf(I)I -/
theorem dX10_colourOf_0 : decode cX10_colourOf 0 = .ok (.iload_n 0, 1) := by decide +kernel
theorem dX10_colourOf_1 : decode cX10_colourOf 1 = .ok (.bipush 64, 2) := by decide +kernel
theorem dX10_colourOf_3 : decode cX10_colourOf 3 = .ok (.idiv, 1) := by decide +kernel
theorem dX10_colourOf_4 : decode cX10_colourOf 4 = .ok (.ireturn, 1) := by decide +kernel
def f_X10_colourOf (a0 : Int32) : Int32 := (a0 / (64 : Int32))
set_option maxHeartbeats 4000000 in
set_option maxRecDepth 20000 in
theorem c_X10_colourOf (l : Launch) (E : xE) (b : Nat) (M : xm) (Lm : xn) (a0 : Int32) {r : Int32} (hf : f_X10_colourOf a0 = r) :
    xMet l E b NY yX10_colourOf cX10_colourOf 1 (some .int) (xR 1) [.int a0] (cY E b M Lm) (some (.int r)) True (cY E b M Lm) := by
  refine xMet.ofW (own := RX10) (by decide) rfl (Nat.le_of_ble_eq_true rfl) ?_
  intro p e s m below meth c H locs ls C hm hl
  have hx := C.1.1
  have hb := C.1.2.1
  have hl : lv_has ls 1 [(0, .int a0)] := hl
  unfold f_X10_colourOf at hf
  refine lv_iload_n hx hb dX10_colourOf_0 rfl (lv_at hl 0 rfl) ?_
  refine lv_bipush (v := (64 : Int32)) hx hb dX10_colourOf_1 (by decide) ?_
  refine lv_idiv hx hb dX10_colourOf_3 (by decide) ?_
  cases hf
  exact x_iret C hm trivial dX10_colourOf_4
/-! ColouredHeapModel.isGood(I)Z -/
theorem dX10_isGood_0 : decode cX10_isGood 0 = .ok (.iload_n 1, 1) := by decide +kernel
theorem dX10_isGood_1 : decode cX10_isGood 1 = .ok (.iconst (-1), 1) := by decide +kernel
theorem dX10_isGood_2 : decode cX10_isGood 2 = .ok (.if_icmp .eq 17, 3) := by decide +kernel
theorem dX10_isGood_5 : decode cX10_isGood 5 = .ok (.iload_n 1, 1) := by decide +kernel
theorem dX10_isGood_6 : decode cX10_isGood 6 = .ok (.invokestatic 325, 3) := by decide +kernel
theorem dX10_isGood_9 : decode cX10_isGood 9 = .ok (.aload_n 0, 1) := by decide +kernel
theorem dX10_isGood_10 : decode cX10_isGood 10 = .ok (.getfield 7, 3) := by decide +kernel
theorem dX10_isGood_13 : decode cX10_isGood 13 = .ok (.bipush 7, 2) := by decide +kernel
theorem dX10_isGood_15 : decode cX10_isGood 15 = .ok (.iaload, 1) := by decide +kernel
theorem dX10_isGood_16 : decode cX10_isGood 16 = .ok (.if_icmp .ne 7, 3) := by decide +kernel
theorem dX10_isGood_19 : decode cX10_isGood 19 = .ok (.iconst 1, 1) := by decide +kernel
theorem dX10_isGood_20 : decode cX10_isGood 20 = .ok (.goto 4, 3) := by decide +kernel
theorem dX10_isGood_23 : decode cX10_isGood 23 = .ok (.iconst 0, 1) := by decide +kernel
theorem dX10_isGood_24 : decode cX10_isGood 24 = .ok (.ireturn, 1) := by decide +kernel
def f_X10_isGood (M : xm) (a1 : Int32) : Int32 := (if a1 = (-1 : Int32) then (1 : Int32) else (if (f_X10_colourOf a1) = (M 1 7) then (1 : Int32) else (0 : Int32)))
set_option maxHeartbeats 4000000 in
set_option maxRecDepth 20000 in
theorem c_X10_isGood (l : Launch) (E : xE) (b : Nat) (M : xm) (Lm : xn) (a1 : Int32) {r : Int32} (hf : f_X10_isGood M a1 = r) :
    xMet l E b NY yX10_isGood cX10_isGood 2 (some .boolean) (xR 2) [.ref (b + 0), .int a1] (cY E b M Lm) (some (.int r)) (xbo r = true) (cY E b M Lm) := by
  refine xMet.ofW (own := RX10) (by decide) rfl (Nat.le_of_ble_eq_true rfl) ?_
  intro p e s m below meth c H locs ls C hm hl
  have hx := C.1.1
  have hb := C.1.2.1
  have hl : lv_has ls 2 [(0, .ref (b + 0)), (1, .int a1)] := hl
  unfold f_X10_isGood at hf
  refine lv_iload_n hx hb dX10_isGood_0 rfl (lv_at hl 1 rfl) ?_
  refine lv_iconst (v := (-1 : Int32)) hx hb dX10_isGood_1 (by decide) ?_
  refine lv_icmp_eq (tgt := 19) hx hb dX10_isGood_2 (by decide) (fun hc1 => ?_) (fun hc1 => ?_)
  · have hf := xif_t hc1 hf
    refine lv_iconst (v := (1 : Int32)) hx hb dX10_isGood_19 (by decide) ?_
    refine lv_goto (tgt := 24) hx hb dX10_isGood_20 (by decide) ?_
    cases hf
    exact x_zret C hm (by decide) (by decide) dX10_isGood_24
  have hf := xif_f hc1 hf
  refine lv_iload_n hx hb dX10_isGood_5 rfl (lv_at hl 1 rfl) ?_
  refine x_callSi (As := [.int a1]) (rest := []) C hm (c_X10_colourOf l E b M Lm a1 rfl) tc_X10_colourOf tm_RX10_325 tz_X10_colourOf tn_RX10 td_X10_colourOf rfl rfl ⟨Nat.le_of_ble_eq_true rfl, Nat.le_of_ble_eq_true rfl⟩ rfl hl.1 rfl (Nat.le_of_ble_eq_true rfl) ⟨Nat.zero_le _, Nat.zero_le _⟩ dX10_isGood_6 (fun H locs hP2 hm => ?_)
  refine lv_aload_n hx hb dX10_isGood_9 rfl (lv_at hl 0 rfl) ?_
  refine x_get C hm inX10 rfl 0 (by decide) tf_RX10_7 cy_0 rfl dX10_isGood_10 ?_
  refine lv_bipush (v := (7 : Int32)) hx hb dX10_isGood_13 (by decide) ?_
  refine x_iald (j := 7) C hm cy_1 (by decide) dX10_isGood_15 (by decide) ?_
  refine lv_icmp_ne (tgt := 23) hx hb dX10_isGood_16 (by decide) (fun hc3 => ?_) (fun hc3 => ?_)
  · have hf := xif_f hc3 hf
    refine lv_iconst (v := (0 : Int32)) hx hb dX10_isGood_23 (by decide) ?_
    cases hf
    exact x_zret C hm (by decide) (by decide) dX10_isGood_24
  have hf := xif_t hc3 hf
  refine lv_iconst (v := (1 : Int32)) hx hb dX10_isGood_19 (by decide) ?_
  refine lv_goto (tgt := 24) hx hb dX10_isGood_20 (by decide) ?_
  cases hf
  exact x_zret C hm (by decide) (by decide) dX10_isGood_24
/-! ColouredHeapModel.isMarked(I)Z -/
theorem dX10_isMarked_0 : decode cX10_isMarked 0 = .ok (.aload_n 0, 1) := by decide +kernel
theorem dX10_isMarked_1 : decode cX10_isMarked 1 = .ok (.getfield 7, 3) := by decide +kernel
theorem dX10_isMarked_4 : decode cX10_isMarked 4 = .ok (.sipush 169, 3) := by decide +kernel
theorem dX10_isMarked_7 : decode cX10_isMarked 7 = .ok (.iload_n 1, 1) := by decide +kernel
theorem dX10_isMarked_8 : decode cX10_isMarked 8 = .ok (.iadd, 1) := by decide +kernel
theorem dX10_isMarked_9 : decode cX10_isMarked 9 = .ok (.iaload, 1) := by decide +kernel
theorem dX10_isMarked_10 : decode cX10_isMarked 10 = .ok (.iconst 1, 1) := by decide +kernel
theorem dX10_isMarked_11 : decode cX10_isMarked 11 = .ok (.if_icmp .ne 7, 3) := by decide +kernel
theorem dX10_isMarked_14 : decode cX10_isMarked 14 = .ok (.iconst 1, 1) := by decide +kernel
theorem dX10_isMarked_15 : decode cX10_isMarked 15 = .ok (.goto 4, 3) := by decide +kernel
theorem dX10_isMarked_18 : decode cX10_isMarked 18 = .ok (.iconst 0, 1) := by decide +kernel
theorem dX10_isMarked_19 : decode cX10_isMarked 19 = .ok (.ireturn, 1) := by decide +kernel
def f_X10_isMarked (M : xm) (a1 : Int32) : Option (Int32) := if xin ((169 : Int32) + a1) 9878 = true then (if (M 1 (Int32.toNatClampNeg ((169 : Int32) + a1))) = (1 : Int32) then some (1 : Int32) else some (0 : Int32)) else none
set_option maxHeartbeats 4000000 in
set_option maxRecDepth 20000 in
theorem c_X10_isMarked (l : Launch) (E : xE) (b : Nat) (M : xm) (Lm : xn) (a1 : Int32) {r : Int32} (hf : f_X10_isMarked M a1 = some r) :
    xMet l E b NY yX10_isMarked cX10_isMarked 2 (some .boolean) (xR 1) [.ref (b + 0), .int a1] (cY E b M Lm) (some (.int r)) (xbo r = true) (cY E b M Lm) := by
  refine xMet.ofW (own := RX10) (by decide) rfl (Nat.le_of_ble_eq_true rfl) ?_
  intro p e s m below meth c H locs ls C hm hl
  have hx := C.1.1
  have hb := C.1.2.1
  have hl : lv_has ls 2 [(0, .ref (b + 0)), (1, .int a1)] := hl
  unfold f_X10_isMarked at hf
  refine lv_aload_n hx hb dX10_isMarked_0 rfl (lv_at hl 0 rfl) ?_
  refine x_get C hm inX10 rfl 0 (by decide) tf_RX10_7 cy_0 rfl dX10_isMarked_1 ?_
  refine lv_sipush (v := (169 : Int32)) hx hb dX10_isMarked_4 (by decide) ?_
  refine lv_iload_n hx hb dX10_isMarked_7 rfl (lv_at hl 1 rfl) ?_
  refine lv_iadd hx hb dX10_isMarked_8 ?_
  obtain ⟨hi1, hf⟩ := xif_s hf
  refine x_iald (j := (Int32.toNatClampNeg ((169 : Int32) + a1))) C hm cy_1 hi1 dX10_isMarked_9 rfl ?_
  refine lv_iconst (v := (1 : Int32)) hx hb dX10_isMarked_10 (by decide) ?_
  refine lv_icmp_ne (tgt := 18) hx hb dX10_isMarked_11 (by decide) (fun hc2 => ?_) (fun hc2 => ?_)
  · have hf := xif_f hc2 hf
    refine lv_iconst (v := (0 : Int32)) hx hb dX10_isMarked_18 (by decide) ?_
    cases hf
    exact x_zret C hm (by decide) (by decide) dX10_isMarked_19
  have hf := xif_t hc2 hf
  refine lv_iconst (v := (1 : Int32)) hx hb dX10_isMarked_14 (by decide) ?_
  refine lv_goto (tgt := 19) hx hb dX10_isMarked_15 (by decide) ?_
  cases hf
  exact x_zret C hm (by decide) (by decide) dX10_isMarked_19
/-! ColouredHeapModel.copyWords(II)V -/
theorem dX10_copyWords_0 : decode cX10_copyWords 0 = .ok (.aload_n 0, 1) := by decide +kernel
theorem dX10_copyWords_1 : decode cX10_copyWords 1 = .ok (.iload_n 1, 1) := by decide +kernel
theorem dX10_copyWords_2 : decode cX10_copyWords 2 = .ok (.invokevirtual 80, 3) := by decide +kernel
theorem dX10_copyWords_5 : decode cX10_copyWords 5 = .ok (.iconst 1, 1) := by decide +kernel
theorem dX10_copyWords_6 : decode cX10_copyWords 6 = .ok (.isub, 1) := by decide +kernel
theorem dX10_copyWords_7 : decode cX10_copyWords 7 = .ok (.istore_n 3, 1) := by decide +kernel
theorem dX10_copyWords_8 : decode cX10_copyWords 8 = .ok (.iload_n 3, 1) := by decide +kernel
theorem dX10_copyWords_9 : decode cX10_copyWords 9 = .ok (.ifCond .lt 31, 3) := by decide +kernel
theorem dX10_copyWords_12 : decode cX10_copyWords 12 = .ok (.aload_n 0, 1) := by decide +kernel
theorem dX10_copyWords_13 : decode cX10_copyWords 13 = .ok (.getfield 7, 3) := by decide +kernel
theorem dX10_copyWords_16 : decode cX10_copyWords 16 = .ok (.bipush 41, 2) := by decide +kernel
theorem dX10_copyWords_18 : decode cX10_copyWords 18 = .ok (.iload_n 2, 1) := by decide +kernel
theorem dX10_copyWords_19 : decode cX10_copyWords 19 = .ok (.iadd, 1) := by decide +kernel
theorem dX10_copyWords_20 : decode cX10_copyWords 20 = .ok (.iload_n 3, 1) := by decide +kernel
theorem dX10_copyWords_21 : decode cX10_copyWords 21 = .ok (.iadd, 1) := by decide +kernel
theorem dX10_copyWords_22 : decode cX10_copyWords 22 = .ok (.aload_n 0, 1) := by decide +kernel
theorem dX10_copyWords_23 : decode cX10_copyWords 23 = .ok (.getfield 7, 3) := by decide +kernel
theorem dX10_copyWords_26 : decode cX10_copyWords 26 = .ok (.bipush 41, 2) := by decide +kernel
theorem dX10_copyWords_28 : decode cX10_copyWords 28 = .ok (.iload_n 1, 1) := by decide +kernel
theorem dX10_copyWords_29 : decode cX10_copyWords 29 = .ok (.iadd, 1) := by decide +kernel
theorem dX10_copyWords_30 : decode cX10_copyWords 30 = .ok (.iload_n 3, 1) := by decide +kernel
theorem dX10_copyWords_31 : decode cX10_copyWords 31 = .ok (.iadd, 1) := by decide +kernel
theorem dX10_copyWords_32 : decode cX10_copyWords 32 = .ok (.iaload, 1) := by decide +kernel
theorem dX10_copyWords_33 : decode cX10_copyWords 33 = .ok (.iastore, 1) := by decide +kernel
theorem dX10_copyWords_34 : decode cX10_copyWords 34 = .ok (.iinc 3 (-1), 3) := by decide +kernel
theorem dX10_copyWords_37 : decode cX10_copyWords 37 = .ok (.goto (-29), 3) := by decide +kernel
theorem dX10_copyWords_40 : decode cX10_copyWords 40 = .ok (.return_, 1) := by decide +kernel
def g_X10_copyWords_8 (x5 : Int32) (x6 : Int32) : Nat → xm → Int32 → Option ((xm))
  | 0, _, _ => none
  | n + 1, M8, x7 => (if x7 < 0 then some (M8) else if xin (((41 : Int32) + x5) + x7) 9878 = true then if xin (((41 : Int32) + x6) + x7) 9878 = true then xlet (up2 M8 1 (Int32.toNatClampNeg (((41 : Int32) + x6) + x7)) (M8 1 (Int32.toNatClampNeg (((41 : Int32) + x5) + x7)))) (fun M13 => xlet (x7 + (-1 : Int32)) (fun v14 => g_X10_copyWords_8 x5 x6 n M13 v14)) else none else none)
def f_X10_copyWords (M : xm) (a1 : Int32) (a2 : Int32) : Option (xm) := xb1 (f_X10_sizeOf M a1) (fun v2 => xlet (v2 - (1 : Int32)) (fun v4 => xb1 (g_X10_copyWords_8 a1 a2 xfuel M v4) (fun M15 => some M15)))
set_option maxHeartbeats 4000000 in
set_option maxRecDepth 20000 in
theorem j_X10_copyWords_8 {p : Program} {l : Launch} {e : Env} {s : State} {m : MethodId} {args : Array Value} {below : List Frame} {meth : Method} {c : Code} {Q : State → Prop} {E : xE} {b : Nat} (C : xC p s m args meth c cX10_copyWords 4 RX10 none E b) {Lm : xn} (x5 : Int32) (x6 : Int32) {y9 : xm}
    (kx0 : ∀ (H : Heap) (locs : List Loc) (ls : Array Slot), xM E b NY (cY E b y9 Lm) s.heap H locs → lv_has ls 4 [] → W p l e (xR 3) s m args below meth c H locs 0 0 Q (F0 m 40 ls [])) :
    ∀ (n : Nat) (M8 : xm) (x7 : Int32) (H : Heap) (locs : List Loc) (ls : Array Slot), g_X10_copyWords_8 x5 x6 n M8 x7 = some y9 → xM E b NY (cY E b M8 Lm) s.heap H locs → lv_has ls 4 [(0, .ref (b + 0)), (1, .int x5), (2, .int x6), (3, .int x7)] → W p l e (xR 3) s m args below meth c H locs 0 0 Q (F0 m 8 ls []) := by
  have hx := C.1.1
  have hb := C.1.2.1
  intro n
  induction n with
  | zero =>
    intro M8 x7 H locs ls hf hm hl
    rw [g_X10_copyWords_8] at hf
    cases hf
  | succ n ih =>
    intro M8 x7 H locs ls hf hm hl
    rw [g_X10_copyWords_8] at hf
    refine lv_iload_n hx hb dX10_copyWords_8 rfl (lv_at hl 3 rfl) ?_
    refine lv_if_lt (tgt := 40) hx hb dX10_copyWords_9 (by decide) (fun hc10 => ?_) (fun hc10 => ?_)
    · have hf := xif_t hc10 hf
      cases hf
      exact kx0 H locs ls hm (lv_sub hl [] rfl)
    have hf := xif_f hc10 hf
    refine lv_aload_n hx hb dX10_copyWords_12 rfl (lv_at hl 0 rfl) ?_
    refine x_get C hm inX10 rfl 0 (by decide) tf_RX10_7 cy_0 rfl dX10_copyWords_13 ?_
    refine lv_bipush (v := (41 : Int32)) hx hb dX10_copyWords_16 (by decide) ?_
    refine lv_iload_n hx hb dX10_copyWords_18 rfl (lv_at hl 2 rfl) ?_
    refine lv_iadd hx hb dX10_copyWords_19 ?_
    refine lv_iload_n hx hb dX10_copyWords_20 rfl (lv_at hl 3 rfl) ?_
    refine lv_iadd hx hb dX10_copyWords_21 ?_
    refine lv_aload_n hx hb dX10_copyWords_22 rfl (lv_at hl 0 rfl) ?_
    refine x_get C hm inX10 rfl 0 (by decide) tf_RX10_7 cy_0 rfl dX10_copyWords_23 ?_
    refine lv_bipush (v := (41 : Int32)) hx hb dX10_copyWords_26 (by decide) ?_
    refine lv_iload_n hx hb dX10_copyWords_28 rfl (lv_at hl 1 rfl) ?_
    refine lv_iadd hx hb dX10_copyWords_29 ?_
    refine lv_iload_n hx hb dX10_copyWords_30 rfl (lv_at hl 3 rfl) ?_
    refine lv_iadd hx hb dX10_copyWords_31 ?_
    obtain ⟨hi11, hf⟩ := xif_s hf
    refine x_iald (j := (Int32.toNatClampNeg (((41 : Int32) + x5) + x7))) C hm cy_1 hi11 dX10_copyWords_32 rfl ?_
    obtain ⟨hi12, hf⟩ := xif_s hf
    obtain ⟨M13, eM13, hf⟩ := xlet_x hf
    refine x_iast (j := (Int32.toNatClampNeg (((41 : Int32) + x6) + x7))) (cf' := cY E b M13 Lm) C hm cy_1 hi12 dX10_copyWords_33 rfl (by rw [eM13]; exact cyu_1) (by rw [eM13]; exact cY_o) (fun H locs hm => ?_)
    obtain ⟨v14, ev14, hf⟩ := xlet_x hf
    refine lv_iinc (v := v14) (lv' := [(3, .int v14), (0, .ref (b + 0)), (1, .int x5), (2, .int x6)]) hx hb dX10_copyWords_34 hl (k := 3) rfl (by rw [ev14]; rfl) (by decide) rfl (fun ls hl => ?_)
    refine lv_goto (tgt := 8) hx hb dX10_copyWords_37 (by decide) ?_
    exact ih M13 v14 H locs ls hf hm (lv_sub hl [1, 2, 3, 0] rfl)
set_option maxHeartbeats 4000000 in
set_option maxRecDepth 20000 in
theorem c_X10_copyWords (l : Launch) (E : xE) (b : Nat) (M : xm) (Lm : xn) (a1 : Int32) (a2 : Int32) {M' : xm} (hf : f_X10_copyWords M a1 a2 = some M') :
    xMet l E b NY yX10_copyWords cX10_copyWords 4 none (xR 3) [.ref (b + 0), .int a1, .int a2] (cY E b M Lm) none True (cY E b M' Lm) := by
  refine xMet.ofW (own := RX10) (by decide) rfl (Nat.le_of_ble_eq_true rfl) ?_
  intro p e s m below meth c H locs ls C hm hl
  have hx := C.1.1
  have hb := C.1.2.1
  have hl : lv_has ls 4 [(0, .ref (b + 0)), (1, .int a1), (2, .int a2)] := hl
  unfold f_X10_copyWords at hf
  refine lv_aload_n hx hb dX10_copyWords_0 rfl (lv_at hl 0 rfl) ?_
  refine lv_iload_n hx hb dX10_copyWords_1 rfl (lv_at hl 1 rfl) ?_
  obtain ⟨v2, hq1, hf⟩ := xb1_e hf
  refine x_callVi (As := [.int a1]) (rest := []) C hm (c_X10_sizeOf l E b M Lm a1 hq1) rfl cy_0 tc_X10_sizeOf tm_RX10_80 ti_X10_sizeOf ts_X10_sizeOf tn_RX10 td_X10_sizeOf rfl rfl ⟨Nat.le_of_ble_eq_true rfl, Nat.le_of_ble_eq_true rfl⟩ rfl hl.1 rfl (Nat.le_of_ble_eq_true rfl) ⟨Nat.zero_le _, Nat.zero_le _⟩ dX10_copyWords_2 (fun H locs hP3 hm => ?_)
  refine lv_iconst (v := (1 : Int32)) hx hb dX10_copyWords_5 (by decide) ?_
  refine lv_isub hx hb dX10_copyWords_6 ?_
  refine lv_topi (fun v4 ev4 => ?_)
  have hf := xlet_e ev4 hf
  refine lv_istore_n (lv' := [(3, .int v4), (0, .ref (b + 0)), (1, .int a1), (2, .int a2)]) hx hb dX10_copyWords_7 rfl hl (by decide) rfl (fun ls hl => ?_)
  obtain ⟨M15, hq, hf⟩ := xb1_e hf
  refine j_X10_copyWords_8 C a1 a2 (fun H locs ls hm hl => ?_) xfuel M v4 H locs ls hq hm (lv_sub hl [1, 2, 3, 0] rfl)
  cases hf
  exact x_vret C hm trivial dX10_copyWords_40
/-! ColouredHeapModel.lowestFree()I -/
theorem dX10_lowestFree_0 : decode cX10_lowestFree 0 = .ok (.iconst 0, 1) := by decide +kernel
theorem dX10_lowestFree_1 : decode cX10_lowestFree 1 = .ok (.istore_n 1, 1) := by decide +kernel
theorem dX10_lowestFree_2 : decode cX10_lowestFree 2 = .ok (.iload_n 1, 1) := by decide +kernel
theorem dX10_lowestFree_3 : decode cX10_lowestFree 3 = .ok (.bipush 8, 2) := by decide +kernel
theorem dX10_lowestFree_5 : decode cX10_lowestFree 5 = .ok (.if_icmp .ge 23, 3) := by decide +kernel
theorem dX10_lowestFree_8 : decode cX10_lowestFree 8 = .ok (.aload_n 0, 1) := by decide +kernel
theorem dX10_lowestFree_9 : decode cX10_lowestFree 9 = .ok (.getfield 7, 3) := by decide +kernel
theorem dX10_lowestFree_12 : decode cX10_lowestFree 12 = .ok (.bipush 13, 2) := by decide +kernel
theorem dX10_lowestFree_14 : decode cX10_lowestFree 14 = .ok (.iload_n 1, 1) := by decide +kernel
theorem dX10_lowestFree_15 : decode cX10_lowestFree 15 = .ok (.iadd, 1) := by decide +kernel
theorem dX10_lowestFree_16 : decode cX10_lowestFree 16 = .ok (.iaload, 1) := by decide +kernel
theorem dX10_lowestFree_17 : decode cX10_lowestFree 17 = .ok (.ifCond .ne 5, 3) := by decide +kernel
theorem dX10_lowestFree_20 : decode cX10_lowestFree 20 = .ok (.iload_n 1, 1) := by decide +kernel
theorem dX10_lowestFree_21 : decode cX10_lowestFree 21 = .ok (.ireturn, 1) := by decide +kernel
theorem dX10_lowestFree_22 : decode cX10_lowestFree 22 = .ok (.iinc 1 1, 3) := by decide +kernel
theorem dX10_lowestFree_25 : decode cX10_lowestFree 25 = .ok (.goto (-23), 3) := by decide +kernel
theorem dX10_lowestFree_28 : decode cX10_lowestFree 28 = .ok (.iconst (-1), 1) := by decide +kernel
theorem dX10_lowestFree_29 : decode cX10_lowestFree 29 = .ok (.ireturn, 1) := by decide +kernel
def g_X10_lowestFree_2 (M : xm) : Nat → Int32 → Option ((Int32) ⊕ (Unit))
  | 0, _ => none
  | n + 1, x1 => (if (8 : Int32) ≤ x1 then some (Sum.inr ()) else if xin ((13 : Int32) + x1) 9878 = true then (if (M 1 (Int32.toNatClampNeg ((13 : Int32) + x1))) = 0 then some (Sum.inl x1) else xlet (x1 + (1 : Int32)) (fun v5 => g_X10_lowestFree_2 M n v5)) else none)
def f_X10_lowestFree (M : xm) : Option (Int32) := xs2 (g_X10_lowestFree_2 M xfuel (0 : Int32)) (fun q6 => some q6) (fun q6 => some (-1 : Int32))
set_option maxHeartbeats 4000000 in
set_option maxRecDepth 20000 in
theorem j_X10_lowestFree_2 {p : Program} {l : Launch} {e : Env} {s : State} {m : MethodId} {args : Array Value} {below : List Frame} {meth : Method} {c : Code} {Q : State → Prop} {E : xE} {b : Nat} (C : xC p s m args meth c cX10_lowestFree 2 RX10 (some .int) E b) (M : xm) {Lm : xn} {r : (Int32) ⊕ (Unit)}
    (kx0 : ∀ q : Int32, r = Sum.inl q → ∀ (H : Heap) (locs : List Loc) (ls : Array Slot), xM E b NY (cY E b M Lm) s.heap H locs → lv_has ls 2 [(1, .int q)] → W p l e (xR 1) s m args below meth c H locs 0 0 Q (F0 m 20 ls []))
    (kx1 : ∀ q : Unit, r = Sum.inr q → ∀ (H : Heap) (locs : List Loc) (ls : Array Slot), xM E b NY (cY E b M Lm) s.heap H locs → lv_has ls 2 [] → W p l e (xR 1) s m args below meth c H locs 0 0 Q (F0 m 28 ls [])) :
    ∀ (n : Nat) (x1 : Int32) (H : Heap) (locs : List Loc) (ls : Array Slot), g_X10_lowestFree_2 M n x1 = some r → xM E b NY (cY E b M Lm) s.heap H locs → lv_has ls 2 [(0, .ref (b + 0)), (1, .int x1)] → W p l e (xR 1) s m args below meth c H locs 0 0 Q (F0 m 2 ls []) := by
  have hx := C.1.1
  have hb := C.1.2.1
  intro n
  induction n with
  | zero =>
    intro x1 H locs ls hf hm hl
    rw [g_X10_lowestFree_2] at hf
    cases hf
  | succ n ih =>
    intro x1 H locs ls hf hm hl
    rw [g_X10_lowestFree_2] at hf
    refine lv_iload_n hx hb dX10_lowestFree_2 rfl (lv_at hl 1 rfl) ?_
    refine lv_bipush (v := (8 : Int32)) hx hb dX10_lowestFree_3 (by decide) ?_
    refine lv_icmp_ge (tgt := 28) hx hb dX10_lowestFree_5 (by decide) (fun hc2 => ?_) (fun hc2 => ?_)
    · have hf := xif_t hc2 hf
      cases hf
      exact kx1 () rfl H locs ls hm (lv_sub hl [] rfl)
    have hf := xif_f hc2 hf
    refine lv_aload_n hx hb dX10_lowestFree_8 rfl (lv_at hl 0 rfl) ?_
    refine x_get C hm inX10 rfl 0 (by decide) tf_RX10_7 cy_0 rfl dX10_lowestFree_9 ?_
    refine lv_bipush (v := (13 : Int32)) hx hb dX10_lowestFree_12 (by decide) ?_
    refine lv_iload_n hx hb dX10_lowestFree_14 rfl (lv_at hl 1 rfl) ?_
    refine lv_iadd hx hb dX10_lowestFree_15 ?_
    obtain ⟨hi3, hf⟩ := xif_s hf
    refine x_iald (j := (Int32.toNatClampNeg ((13 : Int32) + x1))) C hm cy_1 hi3 dX10_lowestFree_16 rfl ?_
    refine lv_if_ne (tgt := 22) hx hb dX10_lowestFree_17 (by decide) (fun hc4 => ?_) (fun hc4 => ?_)
    rotate_left
    · have hf := xif_t hc4 hf
      cases hf
      exact kx0 x1 rfl H locs ls hm (lv_sub hl [1] rfl)
    have hf := xif_f hc4 hf
    obtain ⟨v5, ev5, hf⟩ := xlet_x hf
    refine lv_iinc (v := v5) (lv' := [(1, .int v5), (0, .ref (b + 0))]) hx hb dX10_lowestFree_22 hl (k := 1) rfl (by rw [ev5]; rfl) (by decide) rfl (fun ls hl => ?_)
    refine lv_goto (tgt := 2) hx hb dX10_lowestFree_25 (by decide) ?_
    exact ih v5 H locs ls hf hm (lv_sub hl [1, 0] rfl)
set_option maxHeartbeats 4000000 in
set_option maxRecDepth 20000 in
theorem c_X10_lowestFree (l : Launch) (E : xE) (b : Nat) (M : xm) (Lm : xn) {r : Int32} (hf : f_X10_lowestFree M = some r) :
    xMet l E b NY yX10_lowestFree cX10_lowestFree 2 (some .int) (xR 1) [.ref (b + 0)] (cY E b M Lm) (some (.int r)) True (cY E b M Lm) := by
  refine xMet.ofW (own := RX10) (by decide) rfl (Nat.le_of_ble_eq_true rfl) ?_
  intro p e s m below meth c H locs ls C hm hl
  have hx := C.1.1
  have hb := C.1.2.1
  have hl : lv_has ls 2 [(0, .ref (b + 0))] := hl
  unfold f_X10_lowestFree at hf
  refine lv_iconst (v := (0 : Int32)) hx hb dX10_lowestFree_0 (by decide) ?_
  refine lv_istore_n (lv' := [(1, .int (0 : Int32)), (0, .ref (b + 0))]) hx hb dX10_lowestFree_1 rfl hl (by decide) rfl (fun ls hl => ?_)
  rcases xs2_e hf with ⟨q6, hq, hf⟩ | ⟨q6, hq, hf⟩
  · refine j_X10_lowestFree_2 C M (r := Sum.inl q6) (fun q2 hr H locs ls hm hl => ?_) (fun q2 hr => by cases hr) xfuel (0 : Int32) H locs ls hq hm (lv_sub hl [1, 0] rfl)
    cases hr
    refine lv_iload_n hx hb dX10_lowestFree_20 rfl (lv_at hl 0 rfl) ?_
    cases hf
    exact x_iret C hm trivial dX10_lowestFree_21
  · refine j_X10_lowestFree_2 C M (r := Sum.inr q6) (fun q2 hr => by cases hr) (fun q2 hr H locs ls hm hl => ?_) xfuel (0 : Int32) H locs ls hq hm (lv_sub hl [1, 0] rfl)
    cases hr
    refine lv_iconst (v := (-1 : Int32)) hx hb dX10_lowestFree_28 (by decide) ?_
    cases hf
    exact x_iret C hm trivial dX10_lowestFree_29
/-! ColouredHeapModel.given(II)I -/
theorem dX10_given_0 : decode cX10_given 0 = .ok (.aload_n 0, 1) := by decide +kernel
theorem dX10_given_1 : decode cX10_given 1 = .ok (.getfield 7, 3) := by decide +kernel
theorem dX10_given_4 : decode cX10_given 4 = .ok (.iload_n 2, 1) := by decide +kernel
theorem dX10_given_5 : decode cX10_given 5 = .ok (.iaload, 1) := by decide +kernel
theorem dX10_given_6 : decode cX10_given 6 = .ok (.iconst (-1), 1) := by decide +kernel
theorem dX10_given_7 : decode cX10_given 7 = .ok (.if_icmp .eq 24, 3) := by decide +kernel
theorem dX10_given_10 : decode cX10_given 10 = .ok (.aload_n 0, 1) := by decide +kernel
theorem dX10_given_11 : decode cX10_given 11 = .ok (.getfield 7, 3) := by decide +kernel
theorem dX10_given_14 : decode cX10_given 14 = .ok (.bipush 21, 2) := by decide +kernel
theorem dX10_given_16 : decode cX10_given 16 = .ok (.aload_n 0, 1) := by decide +kernel
theorem dX10_given_17 : decode cX10_given 17 = .ok (.getfield 7, 3) := by decide +kernel
theorem dX10_given_20 : decode cX10_given 20 = .ok (.iload_n 2, 1) := by decide +kernel
theorem dX10_given_21 : decode cX10_given 21 = .ok (.iaload, 1) := by decide +kernel
theorem dX10_given_22 : decode cX10_given 22 = .ok (.iadd, 1) := by decide +kernel
theorem dX10_given_23 : decode cX10_given 23 = .ok (.iaload, 1) := by decide +kernel
theorem dX10_given_24 : decode cX10_given 24 = .ok (.iload_n 1, 1) := by decide +kernel
theorem dX10_given_25 : decode cX10_given 25 = .ok (.iadd, 1) := by decide +kernel
theorem dX10_given_26 : decode cX10_given 26 = .ok (.bipush 8, 2) := by decide +kernel
theorem dX10_given_28 : decode cX10_given 28 = .ok (.if_icmp .le 28, 3) := by decide +kernel
theorem dX10_given_31 : decode cX10_given 31 = .ok (.aload_n 0, 1) := by decide +kernel
theorem dX10_given_32 : decode cX10_given 32 = .ok (.getfield 7, 3) := by decide +kernel
theorem dX10_given_35 : decode cX10_given 35 = .ok (.iload_n 2, 1) := by decide +kernel
theorem dX10_given_36 : decode cX10_given 36 = .ok (.aload_n 0, 1) := by decide +kernel
theorem dX10_given_37 : decode cX10_given 37 = .ok (.invokevirtual 310, 3) := by decide +kernel
theorem dX10_given_40 : decode cX10_given 40 = .ok (.iastore, 1) := by decide +kernel
theorem dX10_given_41 : decode cX10_given 41 = .ok (.aload_n 0, 1) := by decide +kernel
theorem dX10_given_42 : decode cX10_given 42 = .ok (.getfield 7, 3) := by decide +kernel
theorem dX10_given_45 : decode cX10_given 45 = .ok (.bipush 13, 2) := by decide +kernel
theorem dX10_given_47 : decode cX10_given 47 = .ok (.aload_n 0, 1) := by decide +kernel
theorem dX10_given_48 : decode cX10_given 48 = .ok (.getfield 7, 3) := by decide +kernel
theorem dX10_given_51 : decode cX10_given 51 = .ok (.iload_n 2, 1) := by decide +kernel
theorem dX10_given_52 : decode cX10_given 52 = .ok (.iaload, 1) := by decide +kernel
theorem dX10_given_53 : decode cX10_given 53 = .ok (.iadd, 1) := by decide +kernel
theorem dX10_given_54 : decode cX10_given 54 = .ok (.iconst 1, 1) := by decide +kernel
theorem dX10_given_55 : decode cX10_given 55 = .ok (.iastore, 1) := by decide +kernel
theorem dX10_given_56 : decode cX10_given 56 = .ok (.bipush 8, 2) := by decide +kernel
theorem dX10_given_58 : decode cX10_given 58 = .ok (.aload_n 0, 1) := by decide +kernel
theorem dX10_given_59 : decode cX10_given 59 = .ok (.getfield 7, 3) := by decide +kernel
theorem dX10_given_62 : decode cX10_given 62 = .ok (.iload_n 2, 1) := by decide +kernel
theorem dX10_given_63 : decode cX10_given 63 = .ok (.iaload, 1) := by decide +kernel
theorem dX10_given_64 : decode cX10_given 64 = .ok (.imul, 1) := by decide +kernel
theorem dX10_given_65 : decode cX10_given 65 = .ok (.aload_n 0, 1) := by decide +kernel
theorem dX10_given_66 : decode cX10_given 66 = .ok (.getfield 7, 3) := by decide +kernel
theorem dX10_given_69 : decode cX10_given 69 = .ok (.bipush 21, 2) := by decide +kernel
theorem dX10_given_71 : decode cX10_given 71 = .ok (.aload_n 0, 1) := by decide +kernel
theorem dX10_given_72 : decode cX10_given 72 = .ok (.getfield 7, 3) := by decide +kernel
theorem dX10_given_75 : decode cX10_given 75 = .ok (.iload_n 2, 1) := by decide +kernel
theorem dX10_given_76 : decode cX10_given 76 = .ok (.iaload, 1) := by decide +kernel
theorem dX10_given_77 : decode cX10_given 77 = .ok (.iadd, 1) := by decide +kernel
theorem dX10_given_78 : decode cX10_given 78 = .ok (.iaload, 1) := by decide +kernel
theorem dX10_given_79 : decode cX10_given 79 = .ok (.iadd, 1) := by decide +kernel
theorem dX10_given_80 : decode cX10_given 80 = .ok (.istore_n 3, 1) := by decide +kernel
theorem dX10_given_81 : decode cX10_given 81 = .ok (.aload_n 0, 1) := by decide +kernel
theorem dX10_given_82 : decode cX10_given 82 = .ok (.getfield 7, 3) := by decide +kernel
theorem dX10_given_85 : decode cX10_given 85 = .ok (.bipush 21, 2) := by decide +kernel
theorem dX10_given_87 : decode cX10_given 87 = .ok (.aload_n 0, 1) := by decide +kernel
theorem dX10_given_88 : decode cX10_given 88 = .ok (.getfield 7, 3) := by decide +kernel
theorem dX10_given_91 : decode cX10_given 91 = .ok (.iload_n 2, 1) := by decide +kernel
theorem dX10_given_92 : decode cX10_given 92 = .ok (.iaload, 1) := by decide +kernel
theorem dX10_given_93 : decode cX10_given 93 = .ok (.iadd, 1) := by decide +kernel
theorem dX10_given_94 : decode cX10_given 94 = .ok (.dup2, 1) := by decide +kernel
theorem dX10_given_95 : decode cX10_given 95 = .ok (.iaload, 1) := by decide +kernel
theorem dX10_given_96 : decode cX10_given 96 = .ok (.iload_n 1, 1) := by decide +kernel
theorem dX10_given_97 : decode cX10_given 97 = .ok (.iadd, 1) := by decide +kernel
theorem dX10_given_98 : decode cX10_given 98 = .ok (.iastore, 1) := by decide +kernel
theorem dX10_given_99 : decode cX10_given 99 = .ok (.iload_n 3, 1) := by decide +kernel
theorem dX10_given_100 : decode cX10_given 100 = .ok (.ireturn, 1) := by decide +kernel
def f_X10_given (M : xm) (a1 : Int32) (a2 : Int32) : Option (Int32 × xm) := if xin a2 9878 = true then xlet (fun (M2 : xm) => if xin ((21 : Int32) + (M2 1 (Int32.toNatClampNeg a2))) 9878 = true then xlet (((8 : Int32) * (M2 1 (Int32.toNatClampNeg a2))) + (M2 1 (Int32.toNatClampNeg ((21 : Int32) + (M2 1 (Int32.toNatClampNeg a2)))))) (fun v5 => xlet (up2 M2 1 (Int32.toNatClampNeg ((21 : Int32) + (M2 1 (Int32.toNatClampNeg a2)))) ((M2 1 (Int32.toNatClampNeg ((21 : Int32) + (M2 1 (Int32.toNatClampNeg a2))))) + a1)) (fun M6 => some (v5, M6))) else none) (fun k3 => xlet (xb1 (f_X10_lowestFree M) (fun v9 => xlet (up2 M 1 (Int32.toNatClampNeg a2) v9) (fun M11 => if xin ((13 : Int32) + (M11 1 (Int32.toNatClampNeg a2))) 9878 = true then xlet (up2 M11 1 (Int32.toNatClampNeg ((13 : Int32) + (M11 1 (Int32.toNatClampNeg a2)))) (1 : Int32)) (fun M13 => (k3 M13)) else none))) (fun k7 => (if (M 1 (Int32.toNatClampNeg a2)) = (-1 : Int32) then k7 else if xin ((21 : Int32) + (M 1 (Int32.toNatClampNeg a2))) 9878 = true then (if ((M 1 (Int32.toNatClampNeg ((21 : Int32) + (M 1 (Int32.toNatClampNeg a2))))) + a1) ≤ (8 : Int32) then (k3 M) else k7) else none))) else none
set_option maxHeartbeats 4000000 in
set_option maxRecDepth 20000 in
theorem c_X10_given (l : Launch) (E : xE) (b : Nat) (M : xm) (Lm : xn) (a1 : Int32) (a2 : Int32) {r : Int32} {M' : xm} (hf : f_X10_given M a1 a2 = some (r, M')) :
    xMet l E b NY yX10_given cX10_given 4 (some .int) (xR 2) [.ref (b + 0), .int a1, .int a2] (cY E b M Lm) (some (.int r)) True (cY E b M' Lm) := by
  refine xMet.ofW (own := RX10) (by decide) rfl (Nat.le_of_ble_eq_true rfl) ?_
  intro p e s m below meth c H locs ls C hm hl
  have hx := C.1.1
  have hb := C.1.2.1
  have hl : lv_has ls 4 [(0, .ref (b + 0)), (1, .int a1), (2, .int a2)] := hl
  unfold f_X10_given at hf
  refine lv_aload_n hx hb dX10_given_0 rfl (lv_at hl 0 rfl) ?_
  refine x_get C hm inX10 rfl 0 (by decide) tf_RX10_7 cy_0 rfl dX10_given_1 ?_
  refine lv_iload_n hx hb dX10_given_4 rfl (lv_at hl 2 rfl) ?_
  obtain ⟨hi1, hf⟩ := xif_s hf
  refine x_iald (j := (Int32.toNatClampNeg a2)) C hm cy_1 hi1 dX10_given_5 rfl ?_
  refine lv_iconst (v := (-1 : Int32)) hx hb dX10_given_6 (by decide) ?_
  obtain ⟨k3, ek3, hf⟩ := xlet_x hf
  have jk3 : ∀ (M2 : xm) (H : Heap) (locs : List Loc) (ls : Array Slot), k3 M2 = some (r, M') → xM E b NY (cY E b M2 Lm) s.heap H locs → lv_has ls 4 [(0, .ref (b + 0)), (1, .int a1), (2, .int a2)] → W p l e (xR 2) s m ([.ref (b + 0), .int a1, .int a2] : List Value).toArray below meth c H locs 0 0 (MQ below (xQ E b NY (some (.int r)) True (cY E b M' Lm)) ([.ref (b + 0), .int a1, .int a2] : List Value).toArray s 0 0 (xA b NY)) (F0 m 56 ls []) := by
    intro M2 H locs ls hf hm hl
    have hf := xap1 ek3 hf
    refine lv_bipush (v := (8 : Int32)) hx hb dX10_given_56 (by decide) ?_
    refine lv_aload_n hx hb dX10_given_58 rfl (lv_at hl 0 rfl) ?_
    refine x_get C hm inX10 rfl 0 (by decide) tf_RX10_7 cy_0 rfl dX10_given_59 ?_
    refine lv_iload_n hx hb dX10_given_62 rfl (lv_at hl 2 rfl) ?_
    refine x_iald (j := (Int32.toNatClampNeg a2)) C hm cy_1 hi1 dX10_given_63 rfl ?_
    refine lv_imul hx hb dX10_given_64 ?_
    refine lv_aload_n hx hb dX10_given_65 rfl (lv_at hl 0 rfl) ?_
    refine x_get C hm inX10 rfl 0 (by decide) tf_RX10_7 cy_0 rfl dX10_given_66 ?_
    refine lv_bipush (v := (21 : Int32)) hx hb dX10_given_69 (by decide) ?_
    refine lv_aload_n hx hb dX10_given_71 rfl (lv_at hl 0 rfl) ?_
    refine x_get C hm inX10 rfl 0 (by decide) tf_RX10_7 cy_0 rfl dX10_given_72 ?_
    refine lv_iload_n hx hb dX10_given_75 rfl (lv_at hl 2 rfl) ?_
    refine x_iald (j := (Int32.toNatClampNeg a2)) C hm cy_1 hi1 dX10_given_76 rfl ?_
    refine lv_iadd hx hb dX10_given_77 ?_
    obtain ⟨hi4, hf⟩ := xif_s hf
    refine x_iald (j := (Int32.toNatClampNeg ((21 : Int32) + (M2 1 (Int32.toNatClampNeg a2))))) C hm cy_1 hi4 dX10_given_78 rfl ?_
    refine lv_iadd hx hb dX10_given_79 ?_
    refine lv_topi (fun v5 ev5 => ?_)
    have hf := xlet_e ev5 hf
    refine lv_istore_n (lv' := [(3, .int v5), (0, .ref (b + 0)), (1, .int a1), (2, .int a2)]) hx hb dX10_given_80 rfl hl (by decide) rfl (fun ls hl => ?_)
    refine lv_aload_n hx hb dX10_given_81 rfl (lv_at hl 1 rfl) ?_
    refine x_get C hm inX10 rfl 0 (by decide) tf_RX10_7 cy_0 rfl dX10_given_82 ?_
    refine lv_bipush (v := (21 : Int32)) hx hb dX10_given_85 (by decide) ?_
    refine lv_aload_n hx hb dX10_given_87 rfl (lv_at hl 1 rfl) ?_
    refine x_get C hm inX10 rfl 0 (by decide) tf_RX10_7 cy_0 rfl dX10_given_88 ?_
    refine lv_iload_n hx hb dX10_given_91 rfl (lv_at hl 3 rfl) ?_
    refine x_iald (j := (Int32.toNatClampNeg a2)) C hm cy_1 hi1 dX10_given_92 rfl ?_
    refine lv_iadd hx hb dX10_given_93 ?_
    refine lv_dup2_11 hx hb dX10_given_94 rfl rfl ?_
    refine x_iald (j := (Int32.toNatClampNeg ((21 : Int32) + (M2 1 (Int32.toNatClampNeg a2))))) C hm cy_1 hi4 dX10_given_95 rfl ?_
    refine lv_iload_n hx hb dX10_given_96 rfl (lv_at hl 2 rfl) ?_
    refine lv_iadd hx hb dX10_given_97 ?_
    obtain ⟨M6, eM6, hf⟩ := xlet_x hf
    refine x_iast (j := (Int32.toNatClampNeg ((21 : Int32) + (M2 1 (Int32.toNatClampNeg a2))))) (cf' := cY E b M6 Lm) C hm cy_1 hi4 dX10_given_98 rfl (by rw [eM6]; exact cyu_1) (by rw [eM6]; exact cY_o) (fun H locs hm => ?_)
    refine lv_iload_n hx hb dX10_given_99 rfl (lv_at hl 0 rfl) ?_
    cases hf
    exact x_iret C hm trivial dX10_given_100
  obtain ⟨k7, ek7, hf⟩ := xlet_x hf
  have jk7 : ∀  (H : Heap) (locs : List Loc) (ls : Array Slot), k7 = some (r, M') → xM E b NY (cY E b M Lm) s.heap H locs → lv_has ls 4 [(0, .ref (b + 0)), (1, .int a1), (2, .int a2)] → W p l e (xR 2) s m ([.ref (b + 0), .int a1, .int a2] : List Value).toArray below meth c H locs 0 0 (MQ below (xQ E b NY (some (.int r)) True (cY E b M' Lm)) ([.ref (b + 0), .int a1, .int a2] : List Value).toArray s 0 0 (xA b NY)) (F0 m 31 ls []) := by
    intro  H locs ls hf hm hl
    have hf := xap0 ek7 hf
    refine lv_aload_n hx hb dX10_given_31 rfl (lv_at hl 0 rfl) ?_
    refine x_get C hm inX10 rfl 0 (by decide) tf_RX10_7 cy_0 rfl dX10_given_32 ?_
    refine lv_iload_n hx hb dX10_given_35 rfl (lv_at hl 2 rfl) ?_
    refine lv_aload_n hx hb dX10_given_36 rfl (lv_at hl 0 rfl) ?_
    obtain ⟨v9, hq8, hf⟩ := xb1_e hf
    refine x_callVi (As := []) (rest := [.int a2, .ref (b + 1)]) C hm (c_X10_lowestFree l E b M Lm hq8) rfl cy_0 tc_X10_lowestFree tm_RX10_310 ti_X10_lowestFree ts_X10_lowestFree tn_RX10 td_X10_lowestFree rfl rfl ⟨Nat.le_of_ble_eq_true rfl, Nat.le_of_ble_eq_true rfl⟩ rfl hl.1 rfl (Nat.le_of_ble_eq_true rfl) ⟨Nat.zero_le _, Nat.zero_le _⟩ dX10_given_37 (fun H locs hP10 hm => ?_)
    obtain ⟨M11, eM11, hf⟩ := xlet_x hf
    refine x_iast (j := (Int32.toNatClampNeg a2)) (cf' := cY E b M11 Lm) C hm cy_1 hi1 dX10_given_40 rfl (by rw [eM11]; exact cyu_1) (by rw [eM11]; exact cY_o) (fun H locs hm => ?_)
    refine lv_aload_n hx hb dX10_given_41 rfl (lv_at hl 0 rfl) ?_
    refine x_get C hm inX10 rfl 0 (by decide) tf_RX10_7 cy_0 rfl dX10_given_42 ?_
    refine lv_bipush (v := (13 : Int32)) hx hb dX10_given_45 (by decide) ?_
    refine lv_aload_n hx hb dX10_given_47 rfl (lv_at hl 0 rfl) ?_
    refine x_get C hm inX10 rfl 0 (by decide) tf_RX10_7 cy_0 rfl dX10_given_48 ?_
    refine lv_iload_n hx hb dX10_given_51 rfl (lv_at hl 2 rfl) ?_
    refine x_iald (j := (Int32.toNatClampNeg a2)) C hm cy_1 hi1 dX10_given_52 rfl ?_
    refine lv_iadd hx hb dX10_given_53 ?_
    refine lv_iconst (v := (1 : Int32)) hx hb dX10_given_54 (by decide) ?_
    obtain ⟨hi12, hf⟩ := xif_s hf
    obtain ⟨M13, eM13, hf⟩ := xlet_x hf
    refine x_iast (j := (Int32.toNatClampNeg ((13 : Int32) + (M11 1 (Int32.toNatClampNeg a2))))) (cf' := cY E b M13 Lm) C hm cy_1 hi12 dX10_given_55 rfl (by rw [eM13]; exact cyu_1) (by rw [eM13]; exact cY_o) (fun H locs hm => ?_)
    exact jk3 M13 H locs ls  hf hm (lv_sub hl [0, 1, 2] rfl)
  refine lv_icmp_eq (tgt := 31) hx hb dX10_given_7 (by decide) (fun hc14 => ?_) (fun hc14 => ?_)
  · have hf := xif_t hc14 hf
    exact jk7  H locs ls  hf hm (lv_sub hl [0, 1, 2] rfl)
  have hf := xif_f hc14 hf
  refine lv_aload_n hx hb dX10_given_10 rfl (lv_at hl 0 rfl) ?_
  refine x_get C hm inX10 rfl 0 (by decide) tf_RX10_7 cy_0 rfl dX10_given_11 ?_
  refine lv_bipush (v := (21 : Int32)) hx hb dX10_given_14 (by decide) ?_
  refine lv_aload_n hx hb dX10_given_16 rfl (lv_at hl 0 rfl) ?_
  refine x_get C hm inX10 rfl 0 (by decide) tf_RX10_7 cy_0 rfl dX10_given_17 ?_
  refine lv_iload_n hx hb dX10_given_20 rfl (lv_at hl 2 rfl) ?_
  refine x_iald (j := (Int32.toNatClampNeg a2)) C hm cy_1 hi1 dX10_given_21 rfl ?_
  refine lv_iadd hx hb dX10_given_22 ?_
  obtain ⟨hi15, hf⟩ := xif_s hf
  refine x_iald (j := (Int32.toNatClampNeg ((21 : Int32) + (M 1 (Int32.toNatClampNeg a2))))) C hm cy_1 hi15 dX10_given_23 rfl ?_
  refine lv_iload_n hx hb dX10_given_24 rfl (lv_at hl 1 rfl) ?_
  refine lv_iadd hx hb dX10_given_25 ?_
  refine lv_bipush (v := (8 : Int32)) hx hb dX10_given_26 (by decide) ?_
  refine lv_icmp_le (tgt := 56) hx hb dX10_given_28 (by decide) (fun hc16 => ?_) (fun hc16 => ?_)
  · have hf := xif_t hc16 hf
    exact jk3 M H locs ls  hf hm (lv_sub hl [0, 1, 2] rfl)
  have hf := xif_f hc16 hf
  exact jk7  H locs ls  hf hm (lv_sub hl [0, 1, 2] rfl)
/-! ColouredHeapModel.write(II)V -/
theorem dX10_write_0 : decode cX10_write 0 = .ok (.aload_n 0, 1) := by decide +kernel
theorem dX10_write_1 : decode cX10_write 1 = .ok (.getfield 7, 3) := by decide +kernel
theorem dX10_write_4 : decode cX10_write 4 = .ok (.bipush 12, 2) := by decide +kernel
theorem dX10_write_6 : decode cX10_write 6 = .ok (.iaload, 1) := by decide +kernel
theorem dX10_write_7 : decode cX10_write 7 = .ok (.bipush 25, 2) := by decide +kernel
theorem dX10_write_9 : decode cX10_write 9 = .ok (.if_icmp .ne 50, 3) := by decide +kernel
theorem dX10_write_12 : decode cX10_write 12 = .ok (.iconst 1, 1) := by decide +kernel
theorem dX10_write_13 : decode cX10_write 13 = .ok (.istore_n 3, 1) := by decide +kernel
theorem dX10_write_14 : decode cX10_write 14 = .ok (.iload_n 3, 1) := by decide +kernel
theorem dX10_write_15 : decode cX10_write 15 = .ok (.bipush 25, 2) := by decide +kernel
theorem dX10_write_17 : decode cX10_write 17 = .ok (.if_icmp .ge 31, 3) := by decide +kernel
theorem dX10_write_20 : decode cX10_write 20 = .ok (.aload_n 0, 1) := by decide +kernel
theorem dX10_write_21 : decode cX10_write 21 = .ok (.getfield 7, 3) := by decide +kernel
theorem dX10_write_24 : decode cX10_write 24 = .ok (.sipush 297, 3) := by decide +kernel
theorem dX10_write_27 : decode cX10_write 27 = .ok (.iload_n 3, 1) := by decide +kernel
theorem dX10_write_28 : decode cX10_write 28 = .ok (.iadd, 1) := by decide +kernel
theorem dX10_write_29 : decode cX10_write 29 = .ok (.iconst 1, 1) := by decide +kernel
theorem dX10_write_30 : decode cX10_write 30 = .ok (.isub, 1) := by decide +kernel
theorem dX10_write_31 : decode cX10_write 31 = .ok (.aload_n 0, 1) := by decide +kernel
theorem dX10_write_32 : decode cX10_write 32 = .ok (.getfield 7, 3) := by decide +kernel
theorem dX10_write_35 : decode cX10_write 35 = .ok (.sipush 297, 3) := by decide +kernel
theorem dX10_write_38 : decode cX10_write 38 = .ok (.iload_n 3, 1) := by decide +kernel
theorem dX10_write_39 : decode cX10_write 39 = .ok (.iadd, 1) := by decide +kernel
theorem dX10_write_40 : decode cX10_write 40 = .ok (.iaload, 1) := by decide +kernel
theorem dX10_write_41 : decode cX10_write 41 = .ok (.iastore, 1) := by decide +kernel
theorem dX10_write_42 : decode cX10_write 42 = .ok (.iinc 3 1, 3) := by decide +kernel
theorem dX10_write_45 : decode cX10_write 45 = .ok (.goto (-31), 3) := by decide +kernel
theorem dX10_write_48 : decode cX10_write 48 = .ok (.aload_n 0, 1) := by decide +kernel
theorem dX10_write_49 : decode cX10_write 49 = .ok (.getfield 7, 3) := by decide +kernel
theorem dX10_write_52 : decode cX10_write 52 = .ok (.bipush 12, 2) := by decide +kernel
theorem dX10_write_54 : decode cX10_write 54 = .ok (.dup2, 1) := by decide +kernel
theorem dX10_write_55 : decode cX10_write 55 = .ok (.iaload, 1) := by decide +kernel
theorem dX10_write_56 : decode cX10_write 56 = .ok (.iconst 1, 1) := by decide +kernel
theorem dX10_write_57 : decode cX10_write 57 = .ok (.isub, 1) := by decide +kernel
theorem dX10_write_58 : decode cX10_write 58 = .ok (.iastore, 1) := by decide +kernel
theorem dX10_write_59 : decode cX10_write 59 = .ok (.aload_n 0, 1) := by decide +kernel
theorem dX10_write_60 : decode cX10_write 60 = .ok (.getfield 7, 3) := by decide +kernel
theorem dX10_write_63 : decode cX10_write 63 = .ok (.sipush 297, 3) := by decide +kernel
theorem dX10_write_66 : decode cX10_write 66 = .ok (.aload_n 0, 1) := by decide +kernel
theorem dX10_write_67 : decode cX10_write 67 = .ok (.getfield 7, 3) := by decide +kernel
theorem dX10_write_70 : decode cX10_write 70 = .ok (.bipush 12, 2) := by decide +kernel
theorem dX10_write_72 : decode cX10_write 72 = .ok (.iaload, 1) := by decide +kernel
theorem dX10_write_73 : decode cX10_write 73 = .ok (.iadd, 1) := by decide +kernel
theorem dX10_write_74 : decode cX10_write 74 = .ok (.aload_n 0, 1) := by decide +kernel
theorem dX10_write_75 : decode cX10_write 75 = .ok (.getfield 7, 3) := by decide +kernel
theorem dX10_write_78 : decode cX10_write 78 = .ok (.iconst 4, 1) := by decide +kernel
theorem dX10_write_79 : decode cX10_write 79 = .ok (.iaload, 1) := by decide +kernel
theorem dX10_write_80 : decode cX10_write 80 = .ok (.bipush 6, 2) := by decide +kernel
theorem dX10_write_82 : decode cX10_write 82 = .ok (.imul, 1) := by decide +kernel
theorem dX10_write_83 : decode cX10_write 83 = .ok (.iload_n 1, 1) := by decide +kernel
theorem dX10_write_84 : decode cX10_write 84 = .ok (.iadd, 1) := by decide +kernel
theorem dX10_write_85 : decode cX10_write 85 = .ok (.sipush 256, 3) := by decide +kernel
theorem dX10_write_88 : decode cX10_write 88 = .ok (.imul, 1) := by decide +kernel
theorem dX10_write_89 : decode cX10_write 89 = .ok (.iload_n 2, 1) := by decide +kernel
theorem dX10_write_90 : decode cX10_write 90 = .ok (.iadd, 1) := by decide +kernel
theorem dX10_write_91 : decode cX10_write 91 = .ok (.iastore, 1) := by decide +kernel
theorem dX10_write_92 : decode cX10_write 92 = .ok (.aload_n 0, 1) := by decide +kernel
theorem dX10_write_93 : decode cX10_write 93 = .ok (.getfield 7, 3) := by decide +kernel
theorem dX10_write_96 : decode cX10_write 96 = .ok (.bipush 12, 2) := by decide +kernel
theorem dX10_write_98 : decode cX10_write 98 = .ok (.dup2, 1) := by decide +kernel
theorem dX10_write_99 : decode cX10_write 99 = .ok (.iaload, 1) := by decide +kernel
theorem dX10_write_100 : decode cX10_write 100 = .ok (.iconst 1, 1) := by decide +kernel
theorem dX10_write_101 : decode cX10_write 101 = .ok (.iadd, 1) := by decide +kernel
theorem dX10_write_102 : decode cX10_write 102 = .ok (.iastore, 1) := by decide +kernel
theorem dX10_write_103 : decode cX10_write 103 = .ok (.return_, 1) := by decide +kernel
def g_X10_write_14 (x7 : Int32) (x8 : Int32) : Nat → xm → Int32 → Option ((xm))
  | 0, _, _ => none
  | n + 1, M10, x9 => (if (25 : Int32) ≤ x9 then some (M10) else if xin ((297 : Int32) + x9) 9878 = true then if xin (((297 : Int32) + x9) - (1 : Int32)) 9878 = true then xlet (up2 M10 1 (Int32.toNatClampNeg (((297 : Int32) + x9) - (1 : Int32))) (M10 1 (Int32.toNatClampNeg ((297 : Int32) + x9)))) (fun M15 => xlet (x9 + (1 : Int32)) (fun v16 => g_X10_write_14 x7 x8 n M15 v16)) else none else none)
def f_X10_write (M : xm) (a1 : Int32) (a2 : Int32) : Option (xm) := xlet (fun (M1 : xm) => if xin ((297 : Int32) + (M1 1 12)) 9878 = true then xlet (up2 M1 1 (Int32.toNatClampNeg ((297 : Int32) + (M1 1 12))) (((((M1 1 4) * (6 : Int32)) + a1) * (256 : Int32)) + a2)) (fun M4 => xlet (up2 M4 1 12 ((M4 1 12) + (1 : Int32))) (fun M5 => some M5)) else none) (fun k2 => (if (M 1 12) = (25 : Int32) then xb1 (g_X10_write_14 a1 a2 xfuel M (1 : Int32)) (fun M17 => xlet (up2 M17 1 12 ((M17 1 12) - (1 : Int32))) (fun M18 => (k2 M18))) else (k2 M)))
set_option maxHeartbeats 4000000 in
set_option maxRecDepth 20000 in
theorem j_X10_write_14 {p : Program} {l : Launch} {e : Env} {s : State} {m : MethodId} {args : Array Value} {below : List Frame} {meth : Method} {c : Code} {Q : State → Prop} {E : xE} {b : Nat} (C : xC p s m args meth c cX10_write 4 RX10 none E b) {Lm : xn} (x7 : Int32) (x8 : Int32) {y11 : xm}
    (kx0 : ∀ (H : Heap) (locs : List Loc) (ls : Array Slot), xM E b NY (cY E b y11 Lm) s.heap H locs → lv_has ls 4 [(0, .ref (b + 0)), (1, .int x7), (2, .int x8)] → W p l e (xR 1) s m args below meth c H locs 0 0 Q (F0 m 48 ls [])) :
    ∀ (n : Nat) (M10 : xm) (x9 : Int32) (H : Heap) (locs : List Loc) (ls : Array Slot), g_X10_write_14 x7 x8 n M10 x9 = some y11 → xM E b NY (cY E b M10 Lm) s.heap H locs → lv_has ls 4 [(0, .ref (b + 0)), (1, .int x7), (2, .int x8), (3, .int x9)] → W p l e (xR 1) s m args below meth c H locs 0 0 Q (F0 m 14 ls []) := by
  have hx := C.1.1
  have hb := C.1.2.1
  intro n
  induction n with
  | zero =>
    intro M10 x9 H locs ls hf hm hl
    rw [g_X10_write_14] at hf
    cases hf
  | succ n ih =>
    intro M10 x9 H locs ls hf hm hl
    rw [g_X10_write_14] at hf
    refine lv_iload_n hx hb dX10_write_14 rfl (lv_at hl 3 rfl) ?_
    refine lv_bipush (v := (25 : Int32)) hx hb dX10_write_15 (by decide) ?_
    refine lv_icmp_ge (tgt := 48) hx hb dX10_write_17 (by decide) (fun hc12 => ?_) (fun hc12 => ?_)
    · have hf := xif_t hc12 hf
      cases hf
      exact kx0 H locs ls hm (lv_sub hl [0, 1, 2] rfl)
    have hf := xif_f hc12 hf
    refine lv_aload_n hx hb dX10_write_20 rfl (lv_at hl 0 rfl) ?_
    refine x_get C hm inX10 rfl 0 (by decide) tf_RX10_7 cy_0 rfl dX10_write_21 ?_
    refine lv_sipush (v := (297 : Int32)) hx hb dX10_write_24 (by decide) ?_
    refine lv_iload_n hx hb dX10_write_27 rfl (lv_at hl 3 rfl) ?_
    refine lv_iadd hx hb dX10_write_28 ?_
    refine lv_iconst (v := (1 : Int32)) hx hb dX10_write_29 (by decide) ?_
    refine lv_isub hx hb dX10_write_30 ?_
    refine lv_aload_n hx hb dX10_write_31 rfl (lv_at hl 0 rfl) ?_
    refine x_get C hm inX10 rfl 0 (by decide) tf_RX10_7 cy_0 rfl dX10_write_32 ?_
    refine lv_sipush (v := (297 : Int32)) hx hb dX10_write_35 (by decide) ?_
    refine lv_iload_n hx hb dX10_write_38 rfl (lv_at hl 3 rfl) ?_
    refine lv_iadd hx hb dX10_write_39 ?_
    obtain ⟨hi13, hf⟩ := xif_s hf
    refine x_iald (j := (Int32.toNatClampNeg ((297 : Int32) + x9))) C hm cy_1 hi13 dX10_write_40 rfl ?_
    obtain ⟨hi14, hf⟩ := xif_s hf
    obtain ⟨M15, eM15, hf⟩ := xlet_x hf
    refine x_iast (j := (Int32.toNatClampNeg (((297 : Int32) + x9) - (1 : Int32)))) (cf' := cY E b M15 Lm) C hm cy_1 hi14 dX10_write_41 rfl (by rw [eM15]; exact cyu_1) (by rw [eM15]; exact cY_o) (fun H locs hm => ?_)
    obtain ⟨v16, ev16, hf⟩ := xlet_x hf
    refine lv_iinc (v := v16) (lv' := [(3, .int v16), (0, .ref (b + 0)), (1, .int x7), (2, .int x8)]) hx hb dX10_write_42 hl (k := 3) rfl (by rw [ev16]; rfl) (by decide) rfl (fun ls hl => ?_)
    refine lv_goto (tgt := 14) hx hb dX10_write_45 (by decide) ?_
    exact ih M15 v16 H locs ls hf hm (lv_sub hl [1, 2, 3, 0] rfl)
set_option maxHeartbeats 4000000 in
set_option maxRecDepth 20000 in
theorem c_X10_write (l : Launch) (E : xE) (b : Nat) (M : xm) (Lm : xn) (a1 : Int32) (a2 : Int32) {M' : xm} (hf : f_X10_write M a1 a2 = some M') :
    xMet l E b NY yX10_write cX10_write 4 none (xR 1) [.ref (b + 0), .int a1, .int a2] (cY E b M Lm) none True (cY E b M' Lm) := by
  refine xMet.ofW (own := RX10) (by decide) rfl (Nat.le_of_ble_eq_true rfl) ?_
  intro p e s m below meth c H locs ls C hm hl
  have hx := C.1.1
  have hb := C.1.2.1
  have hl : lv_has ls 4 [(0, .ref (b + 0)), (1, .int a1), (2, .int a2)] := hl
  unfold f_X10_write at hf
  refine lv_aload_n hx hb dX10_write_0 rfl (lv_at hl 0 rfl) ?_
  refine x_get C hm inX10 rfl 0 (by decide) tf_RX10_7 cy_0 rfl dX10_write_1 ?_
  refine lv_bipush (v := (12 : Int32)) hx hb dX10_write_4 (by decide) ?_
  refine x_iald (j := 12) C hm cy_1 (by decide) dX10_write_6 (by decide) ?_
  refine lv_bipush (v := (25 : Int32)) hx hb dX10_write_7 (by decide) ?_
  obtain ⟨k2, ek2, hf⟩ := xlet_x hf
  have jk2 : ∀ (M1 : xm) (H : Heap) (locs : List Loc) (ls : Array Slot), k2 M1 = some M' → xM E b NY (cY E b M1 Lm) s.heap H locs → lv_has ls 4 [(0, .ref (b + 0)), (1, .int a1), (2, .int a2)] → W p l e (xR 1) s m ([.ref (b + 0), .int a1, .int a2] : List Value).toArray below meth c H locs 0 0 (MQ below (xQ E b NY none True (cY E b M' Lm)) ([.ref (b + 0), .int a1, .int a2] : List Value).toArray s 0 0 (xA b NY)) (F0 m 59 ls []) := by
    intro M1 H locs ls hf hm hl
    have hf := xap1 ek2 hf
    refine lv_aload_n hx hb dX10_write_59 rfl (lv_at hl 0 rfl) ?_
    refine x_get C hm inX10 rfl 0 (by decide) tf_RX10_7 cy_0 rfl dX10_write_60 ?_
    refine lv_sipush (v := (297 : Int32)) hx hb dX10_write_63 (by decide) ?_
    refine lv_aload_n hx hb dX10_write_66 rfl (lv_at hl 0 rfl) ?_
    refine x_get C hm inX10 rfl 0 (by decide) tf_RX10_7 cy_0 rfl dX10_write_67 ?_
    refine lv_bipush (v := (12 : Int32)) hx hb dX10_write_70 (by decide) ?_
    refine x_iald (j := 12) C hm cy_1 (by decide) dX10_write_72 (by decide) ?_
    refine lv_iadd hx hb dX10_write_73 ?_
    refine lv_aload_n hx hb dX10_write_74 rfl (lv_at hl 0 rfl) ?_
    refine x_get C hm inX10 rfl 0 (by decide) tf_RX10_7 cy_0 rfl dX10_write_75 ?_
    refine lv_iconst (v := (4 : Int32)) hx hb dX10_write_78 (by decide) ?_
    refine x_iald (j := 4) C hm cy_1 (by decide) dX10_write_79 (by decide) ?_
    refine lv_bipush (v := (6 : Int32)) hx hb dX10_write_80 (by decide) ?_
    refine lv_imul hx hb dX10_write_82 ?_
    refine lv_iload_n hx hb dX10_write_83 rfl (lv_at hl 1 rfl) ?_
    refine lv_iadd hx hb dX10_write_84 ?_
    refine lv_sipush (v := (256 : Int32)) hx hb dX10_write_85 (by decide) ?_
    refine lv_imul hx hb dX10_write_88 ?_
    refine lv_iload_n hx hb dX10_write_89 rfl (lv_at hl 2 rfl) ?_
    refine lv_iadd hx hb dX10_write_90 ?_
    obtain ⟨hi3, hf⟩ := xif_s hf
    obtain ⟨M4, eM4, hf⟩ := xlet_x hf
    refine x_iast (j := (Int32.toNatClampNeg ((297 : Int32) + (M1 1 12)))) (cf' := cY E b M4 Lm) C hm cy_1 hi3 dX10_write_91 rfl (by rw [eM4]; exact cyu_1) (by rw [eM4]; exact cY_o) (fun H locs hm => ?_)
    refine lv_aload_n hx hb dX10_write_92 rfl (lv_at hl 0 rfl) ?_
    refine x_get C hm inX10 rfl 0 (by decide) tf_RX10_7 cy_0 rfl dX10_write_93 ?_
    refine lv_bipush (v := (12 : Int32)) hx hb dX10_write_96 (by decide) ?_
    refine lv_dup2_11 hx hb dX10_write_98 rfl rfl ?_
    refine x_iald (j := 12) C hm cy_1 (by decide) dX10_write_99 (by decide) ?_
    refine lv_iconst (v := (1 : Int32)) hx hb dX10_write_100 (by decide) ?_
    refine lv_iadd hx hb dX10_write_101 ?_
    obtain ⟨M5, eM5, hf⟩ := xlet_x hf
    refine x_iast (j := 12) (cf' := cY E b M5 Lm) C hm cy_1 (by decide) dX10_write_102 (by decide) (by rw [eM5]; exact cyu_1) (by rw [eM5]; exact cY_o) (fun H locs hm => ?_)
    cases hf
    exact x_vret C hm trivial dX10_write_103
  refine lv_icmp_ne (tgt := 59) hx hb dX10_write_9 (by decide) (fun hc6 => ?_) (fun hc6 => ?_)
  · have hf := xif_f hc6 hf
    exact jk2 M H locs ls  hf hm (lv_sub hl [0, 1, 2] rfl)
  have hf := xif_t hc6 hf
  refine lv_iconst (v := (1 : Int32)) hx hb dX10_write_12 (by decide) ?_
  refine lv_istore_n (lv' := [(3, .int (1 : Int32)), (0, .ref (b + 0)), (1, .int a1), (2, .int a2)]) hx hb dX10_write_13 rfl hl (by decide) rfl (fun ls hl => ?_)
  obtain ⟨M17, hq, hf⟩ := xb1_e hf
  refine j_X10_write_14 C a1 a2 (fun H locs ls hm hl => ?_) xfuel M (1 : Int32) H locs ls hq hm (lv_sub hl [1, 2, 3, 0] rfl)
  refine lv_aload_n hx hb dX10_write_48 rfl (lv_at hl 0 rfl) ?_
  refine x_get C hm inX10 rfl 0 (by decide) tf_RX10_7 cy_0 rfl dX10_write_49 ?_
  refine lv_bipush (v := (12 : Int32)) hx hb dX10_write_52 (by decide) ?_
  refine lv_dup2_11 hx hb dX10_write_54 rfl rfl ?_
  refine x_iald (j := 12) C hm cy_1 (by decide) dX10_write_55 (by decide) ?_
  refine lv_iconst (v := (1 : Int32)) hx hb dX10_write_56 (by decide) ?_
  refine lv_isub hx hb dX10_write_57 ?_
  obtain ⟨M18, eM18, hf⟩ := xlet_x hf
  refine x_iast (j := 12) (cf' := cY E b M18 Lm) C hm cy_1 (by decide) dX10_write_58 (by decide) (by rw [eM18]; exact cyu_1) (by rw [eM18]; exact cY_o) (fun H locs hm => ?_)
  exact jk2 M18 H locs ls  hf hm (lv_sub hl [0, 1, 2] rfl)
/-! ColouredHeapModel.tellForward(II)V -/
theorem dX10_tellForward_0 : decode cX10_tellForward 0 = .ok (.aload_n 0, 1) := by decide +kernel
theorem dX10_tellForward_1 : decode cX10_tellForward 1 = .ok (.getfield 7, 3) := by decide +kernel
theorem dX10_tellForward_4 : decode cX10_tellForward 4 = .ok (.bipush 105, 2) := by decide +kernel
theorem dX10_tellForward_6 : decode cX10_tellForward 6 = .ok (.iload_n 1, 1) := by decide +kernel
theorem dX10_tellForward_7 : decode cX10_tellForward 7 = .ok (.iadd, 1) := by decide +kernel
theorem dX10_tellForward_8 : decode cX10_tellForward 8 = .ok (.iload_n 2, 1) := by decide +kernel
theorem dX10_tellForward_9 : decode cX10_tellForward 9 = .ok (.iastore, 1) := by decide +kernel
theorem dX10_tellForward_10 : decode cX10_tellForward 10 = .ok (.aload_n 0, 1) := by decide +kernel
theorem dX10_tellForward_11 : decode cX10_tellForward 11 = .ok (.getfield 7, 3) := by decide +kernel
theorem dX10_tellForward_14 : decode cX10_tellForward 14 = .ok (.sipush 169, 3) := by decide +kernel
theorem dX10_tellForward_17 : decode cX10_tellForward 17 = .ok (.iload_n 2, 1) := by decide +kernel
theorem dX10_tellForward_18 : decode cX10_tellForward 18 = .ok (.iadd, 1) := by decide +kernel
theorem dX10_tellForward_19 : decode cX10_tellForward 19 = .ok (.iconst 1, 1) := by decide +kernel
theorem dX10_tellForward_20 : decode cX10_tellForward 20 = .ok (.iastore, 1) := by decide +kernel
theorem dX10_tellForward_21 : decode cX10_tellForward 21 = .ok (.aload_n 0, 1) := by decide +kernel
theorem dX10_tellForward_22 : decode cX10_tellForward 22 = .ok (.iconst 4, 1) := by decide +kernel
theorem dX10_tellForward_23 : decode cX10_tellForward 23 = .ok (.iload_n 1, 1) := by decide +kernel
theorem dX10_tellForward_24 : decode cX10_tellForward 24 = .ok (.invokevirtual 313, 3) := by decide +kernel
theorem dX10_tellForward_27 : decode cX10_tellForward 27 = .ok (.return_, 1) := by decide +kernel
def f_X10_tellForward (M : xm) (a1 : Int32) (a2 : Int32) : Option (xm) := if xin ((105 : Int32) + a1) 9878 = true then xlet (up2 M 1 (Int32.toNatClampNeg ((105 : Int32) + a1)) a2) (fun M2 => if xin ((169 : Int32) + a2) 9878 = true then xlet (up2 M2 1 (Int32.toNatClampNeg ((169 : Int32) + a2)) (1 : Int32)) (fun M4 => xb1 (f_X10_write M4 (4 : Int32) a1) (fun M6 => some M6)) else none) else none
set_option maxHeartbeats 4000000 in
set_option maxRecDepth 20000 in
theorem c_X10_tellForward (l : Launch) (E : xE) (b : Nat) (M : xm) (Lm : xn) (a1 : Int32) (a2 : Int32) {M' : xm} (hf : f_X10_tellForward M a1 a2 = some M') :
    xMet l E b NY yX10_tellForward cX10_tellForward 3 none (xR 2) [.ref (b + 0), .int a1, .int a2] (cY E b M Lm) none True (cY E b M' Lm) := by
  refine xMet.ofW (own := RX10) (by decide) rfl (Nat.le_of_ble_eq_true rfl) ?_
  intro p e s m below meth c H locs ls C hm hl
  have hx := C.1.1
  have hb := C.1.2.1
  have hl : lv_has ls 3 [(0, .ref (b + 0)), (1, .int a1), (2, .int a2)] := hl
  unfold f_X10_tellForward at hf
  refine lv_aload_n hx hb dX10_tellForward_0 rfl (lv_at hl 0 rfl) ?_
  refine x_get C hm inX10 rfl 0 (by decide) tf_RX10_7 cy_0 rfl dX10_tellForward_1 ?_
  refine lv_bipush (v := (105 : Int32)) hx hb dX10_tellForward_4 (by decide) ?_
  refine lv_iload_n hx hb dX10_tellForward_6 rfl (lv_at hl 1 rfl) ?_
  refine lv_iadd hx hb dX10_tellForward_7 ?_
  refine lv_iload_n hx hb dX10_tellForward_8 rfl (lv_at hl 2 rfl) ?_
  obtain ⟨hi1, hf⟩ := xif_s hf
  obtain ⟨M2, eM2, hf⟩ := xlet_x hf
  refine x_iast (j := (Int32.toNatClampNeg ((105 : Int32) + a1))) (cf' := cY E b M2 Lm) C hm cy_1 hi1 dX10_tellForward_9 rfl (by rw [eM2]; exact cyu_1) (by rw [eM2]; exact cY_o) (fun H locs hm => ?_)
  refine lv_aload_n hx hb dX10_tellForward_10 rfl (lv_at hl 0 rfl) ?_
  refine x_get C hm inX10 rfl 0 (by decide) tf_RX10_7 cy_0 rfl dX10_tellForward_11 ?_
  refine lv_sipush (v := (169 : Int32)) hx hb dX10_tellForward_14 (by decide) ?_
  refine lv_iload_n hx hb dX10_tellForward_17 rfl (lv_at hl 2 rfl) ?_
  refine lv_iadd hx hb dX10_tellForward_18 ?_
  refine lv_iconst (v := (1 : Int32)) hx hb dX10_tellForward_19 (by decide) ?_
  obtain ⟨hi3, hf⟩ := xif_s hf
  obtain ⟨M4, eM4, hf⟩ := xlet_x hf
  refine x_iast (j := (Int32.toNatClampNeg ((169 : Int32) + a2))) (cf' := cY E b M4 Lm) C hm cy_1 hi3 dX10_tellForward_20 rfl (by rw [eM4]; exact cyu_1) (by rw [eM4]; exact cY_o) (fun H locs hm => ?_)
  refine lv_aload_n hx hb dX10_tellForward_21 rfl (lv_at hl 0 rfl) ?_
  refine lv_iconst (v := (4 : Int32)) hx hb dX10_tellForward_22 (by decide) ?_
  refine lv_iload_n hx hb dX10_tellForward_23 rfl (lv_at hl 1 rfl) ?_
  obtain ⟨M6, hq5, hf⟩ := xb1_e hf
  refine x_callVv (As := [.int (4 : Int32), .int a1]) (rest := []) C hm (c_X10_write l E b M4 Lm (4 : Int32) a1 hq5) rfl cy_0 tc_X10_write tm_RX10_313 ti_X10_write ts_X10_write tn_RX10 td_X10_write rfl rfl ⟨Nat.le_of_ble_eq_true rfl, Nat.le_of_ble_eq_true rfl⟩ rfl hl.1 rfl (Nat.le_of_ble_eq_true rfl) ⟨Nat.zero_le _, Nat.zero_le _⟩ dX10_tellForward_24 (fun H locs hP7 hm => ?_)
  cases hf
  exact x_vret C hm trivial dX10_tellForward_27
/-! ColouredHeapModel.moveNow(I)V -/
theorem dX10_moveNow_0 : decode cX10_moveNow 0 = .ok (.aload_n 0, 1) := by decide +kernel
theorem dX10_moveNow_1 : decode cX10_moveNow 1 = .ok (.aload_n 0, 1) := by decide +kernel
theorem dX10_moveNow_2 : decode cX10_moveNow 2 = .ok (.iload_n 1, 1) := by decide +kernel
theorem dX10_moveNow_3 : decode cX10_moveNow 3 = .ok (.invokevirtual 80, 3) := by decide +kernel
theorem dX10_moveNow_6 : decode cX10_moveNow 6 = .ok (.bipush 10, 2) := by decide +kernel
theorem dX10_moveNow_8 : decode cX10_moveNow 8 = .ok (.invokevirtual 316, 3) := by decide +kernel
theorem dX10_moveNow_11 : decode cX10_moveNow 11 = .ok (.istore_n 2, 1) := by decide +kernel
theorem dX10_moveNow_12 : decode cX10_moveNow 12 = .ok (.aload_n 0, 1) := by decide +kernel
theorem dX10_moveNow_13 : decode cX10_moveNow 13 = .ok (.iload_n 1, 1) := by decide +kernel
theorem dX10_moveNow_14 : decode cX10_moveNow 14 = .ok (.iload_n 2, 1) := by decide +kernel
theorem dX10_moveNow_15 : decode cX10_moveNow 15 = .ok (.invokevirtual 319, 3) := by decide +kernel
theorem dX10_moveNow_18 : decode cX10_moveNow 18 = .ok (.aload_n 0, 1) := by decide +kernel
theorem dX10_moveNow_19 : decode cX10_moveNow 19 = .ok (.iload_n 1, 1) := by decide +kernel
theorem dX10_moveNow_20 : decode cX10_moveNow 20 = .ok (.iload_n 2, 1) := by decide +kernel
theorem dX10_moveNow_21 : decode cX10_moveNow 21 = .ok (.invokevirtual 322, 3) := by decide +kernel
theorem dX10_moveNow_24 : decode cX10_moveNow 24 = .ok (.return_, 1) := by decide +kernel
def f_X10_moveNow (M : xm) (a1 : Int32) : Option (xm) := xb1 (f_X10_sizeOf M a1) (fun v2 => xb2 (f_X10_given M v2 (10 : Int32)) (fun v5 M6 => xb1 (f_X10_copyWords M6 a1 v5) (fun M9 => xb1 (f_X10_tellForward M9 a1 v5) (fun M12 => some M12))))
set_option maxHeartbeats 4000000 in
set_option maxRecDepth 20000 in
theorem c_X10_moveNow (l : Launch) (E : xE) (b : Nat) (M : xm) (Lm : xn) (a1 : Int32) {M' : xm} (hf : f_X10_moveNow M a1 = some M') :
    xMet l E b NY yX10_moveNow cX10_moveNow 3 none (xR 4) [.ref (b + 0), .int a1] (cY E b M Lm) none True (cY E b M' Lm) := by
  refine xMet.ofW (own := RX10) (by decide) rfl (Nat.le_of_ble_eq_true rfl) ?_
  intro p e s m below meth c H locs ls C hm hl
  have hx := C.1.1
  have hb := C.1.2.1
  have hl : lv_has ls 3 [(0, .ref (b + 0)), (1, .int a1)] := hl
  unfold f_X10_moveNow at hf
  refine lv_aload_n hx hb dX10_moveNow_0 rfl (lv_at hl 0 rfl) ?_
  refine lv_aload_n hx hb dX10_moveNow_1 rfl (lv_at hl 0 rfl) ?_
  refine lv_iload_n hx hb dX10_moveNow_2 rfl (lv_at hl 1 rfl) ?_
  obtain ⟨v2, hq1, hf⟩ := xb1_e hf
  refine x_callVi (As := [.int a1]) (rest := [.ref (b + 0)]) C hm (c_X10_sizeOf l E b M Lm a1 hq1) rfl cy_0 tc_X10_sizeOf tm_RX10_80 ti_X10_sizeOf ts_X10_sizeOf tn_RX10 td_X10_sizeOf rfl rfl ⟨Nat.le_of_ble_eq_true rfl, Nat.le_of_ble_eq_true rfl⟩ rfl hl.1 rfl (Nat.le_of_ble_eq_true rfl) ⟨Nat.zero_le _, Nat.zero_le _⟩ dX10_moveNow_3 (fun H locs hP3 hm => ?_)
  refine lv_bipush (v := (10 : Int32)) hx hb dX10_moveNow_6 (by decide) ?_
  obtain ⟨v5, M6, hq4, hf⟩ := xb2_e hf
  refine x_callVi (As := [.int v2, .int (10 : Int32)]) (rest := []) C hm (c_X10_given l E b M Lm v2 (10 : Int32) hq4) rfl cy_0 tc_X10_given tm_RX10_316 ti_X10_given ts_X10_given tn_RX10 td_X10_given rfl rfl ⟨Nat.le_of_ble_eq_true rfl, Nat.le_of_ble_eq_true rfl⟩ rfl hl.1 rfl (Nat.le_of_ble_eq_true rfl) ⟨Nat.zero_le _, Nat.zero_le _⟩ dX10_moveNow_8 (fun H locs hP7 hm => ?_)
  refine lv_istore_n (lv' := [(2, .int v5), (0, .ref (b + 0)), (1, .int a1)]) hx hb dX10_moveNow_11 rfl hl (by decide) rfl (fun ls hl => ?_)
  refine lv_aload_n hx hb dX10_moveNow_12 rfl (lv_at hl 1 rfl) ?_
  refine lv_iload_n hx hb dX10_moveNow_13 rfl (lv_at hl 2 rfl) ?_
  refine lv_iload_n hx hb dX10_moveNow_14 rfl (lv_at hl 0 rfl) ?_
  obtain ⟨M9, hq8, hf⟩ := xb1_e hf
  refine x_callVv (As := [.int a1, .int v5]) (rest := []) C hm (c_X10_copyWords l E b M6 Lm a1 v5 hq8) rfl cy_0 tc_X10_copyWords tm_RX10_319 ti_X10_copyWords ts_X10_copyWords tn_RX10 td_X10_copyWords rfl rfl ⟨Nat.le_of_ble_eq_true rfl, Nat.le_of_ble_eq_true rfl⟩ rfl hl.1 rfl (Nat.le_of_ble_eq_true rfl) ⟨Nat.zero_le _, Nat.zero_le _⟩ dX10_moveNow_15 (fun H locs hP10 hm => ?_)
  refine lv_aload_n hx hb dX10_moveNow_18 rfl (lv_at hl 1 rfl) ?_
  refine lv_iload_n hx hb dX10_moveNow_19 rfl (lv_at hl 2 rfl) ?_
  refine lv_iload_n hx hb dX10_moveNow_20 rfl (lv_at hl 0 rfl) ?_
  obtain ⟨M12, hq11, hf⟩ := xb1_e hf
  refine x_callVv (As := [.int a1, .int v5]) (rest := []) C hm (c_X10_tellForward l E b M9 Lm a1 v5 hq11) rfl cy_0 tc_X10_tellForward tm_RX10_322 ti_X10_tellForward ts_X10_tellForward tn_RX10 td_X10_tellForward rfl rfl ⟨Nat.le_of_ble_eq_true rfl, Nat.le_of_ble_eq_true rfl⟩ rfl hl.1 rfl (Nat.le_of_ble_eq_true rfl) ⟨Nat.zero_le _, Nat.zero_le _⟩ dX10_moveNow_21 (fun H locs hP13 hm => ?_)
  cases hf
  exact x_vret C hm trivial dX10_moveNow_24
/-! ColouredHeapModel.whereOf(I)I -/
theorem dX10_whereOf_0 : decode cX10_whereOf 0 = .ok (.iload_n 1, 1) := by decide +kernel
theorem dX10_whereOf_1 : decode cX10_whereOf 1 = .ok (.bipush 64, 2) := by decide +kernel
theorem dX10_whereOf_3 : decode cX10_whereOf 3 = .ok (.irem, 1) := by decide +kernel
theorem dX10_whereOf_4 : decode cX10_whereOf 4 = .ok (.istore_n 2, 1) := by decide +kernel
theorem dX10_whereOf_5 : decode cX10_whereOf 5 = .ok (.iload_n 1, 1) := by decide +kernel
theorem dX10_whereOf_6 : decode cX10_whereOf 6 = .ok (.invokestatic 325, 3) := by decide +kernel
theorem dX10_whereOf_9 : decode cX10_whereOf 9 = .ok (.istore_n 3, 1) := by decide +kernel
theorem dX10_whereOf_10 : decode cX10_whereOf 10 = .ok (.iload_n 3, 1) := by decide +kernel
theorem dX10_whereOf_11 : decode cX10_whereOf 11 = .ok (.aload_n 0, 1) := by decide +kernel
theorem dX10_whereOf_12 : decode cX10_whereOf 12 = .ok (.getfield 7, 3) := by decide +kernel
theorem dX10_whereOf_15 : decode cX10_whereOf 15 = .ok (.bipush 7, 2) := by decide +kernel
theorem dX10_whereOf_17 : decode cX10_whereOf 17 = .ok (.iaload, 1) := by decide +kernel
theorem dX10_whereOf_18 : decode cX10_whereOf 18 = .ok (.if_icmp .eq 21, 3) := by decide +kernel
theorem dX10_whereOf_21 : decode cX10_whereOf 21 = .ok (.iload_n 3, 1) := by decide +kernel
theorem dX10_whereOf_22 : decode cX10_whereOf 22 = .ok (.iconst 2, 1) := by decide +kernel
theorem dX10_whereOf_23 : decode cX10_whereOf 23 = .ok (.if_icmp .eq 16, 3) := by decide +kernel
theorem dX10_whereOf_26 : decode cX10_whereOf 26 = .ok (.aload_n 0, 1) := by decide +kernel
theorem dX10_whereOf_27 : decode cX10_whereOf 27 = .ok (.getfield 7, 3) := by decide +kernel
theorem dX10_whereOf_30 : decode cX10_whereOf 30 = .ok (.bipush 105, 2) := by decide +kernel
theorem dX10_whereOf_32 : decode cX10_whereOf 32 = .ok (.iload_n 2, 1) := by decide +kernel
theorem dX10_whereOf_33 : decode cX10_whereOf 33 = .ok (.iadd, 1) := by decide +kernel
theorem dX10_whereOf_34 : decode cX10_whereOf 34 = .ok (.iaload, 1) := by decide +kernel
theorem dX10_whereOf_35 : decode cX10_whereOf 35 = .ok (.iconst (-1), 1) := by decide +kernel
theorem dX10_whereOf_36 : decode cX10_whereOf 36 = .ok (.if_icmp .ne 7, 3) := by decide +kernel
theorem dX10_whereOf_39 : decode cX10_whereOf 39 = .ok (.iload_n 2, 1) := by decide +kernel
theorem dX10_whereOf_40 : decode cX10_whereOf 40 = .ok (.goto 12, 3) := by decide +kernel
theorem dX10_whereOf_43 : decode cX10_whereOf 43 = .ok (.aload_n 0, 1) := by decide +kernel
theorem dX10_whereOf_44 : decode cX10_whereOf 44 = .ok (.getfield 7, 3) := by decide +kernel
theorem dX10_whereOf_47 : decode cX10_whereOf 47 = .ok (.bipush 105, 2) := by decide +kernel
theorem dX10_whereOf_49 : decode cX10_whereOf 49 = .ok (.iload_n 2, 1) := by decide +kernel
theorem dX10_whereOf_50 : decode cX10_whereOf 50 = .ok (.iadd, 1) := by decide +kernel
theorem dX10_whereOf_51 : decode cX10_whereOf 51 = .ok (.iaload, 1) := by decide +kernel
theorem dX10_whereOf_52 : decode cX10_whereOf 52 = .ok (.ireturn, 1) := by decide +kernel
def f_X10_whereOf (M : xm) (a1 : Int32) : Option (Int32) := xlet (xrem a1 (64 : Int32)) (fun v1 => xlet (f_X10_colourOf a1) (fun v3 => (if v3 = (M 1 7) then some v1 else (if v3 = (2 : Int32) then some v1 else if xin ((105 : Int32) + v1) 9878 = true then (if (M 1 (Int32.toNatClampNeg ((105 : Int32) + v1))) = (-1 : Int32) then some v1 else some (M 1 (Int32.toNatClampNeg ((105 : Int32) + v1)))) else none))))
set_option maxHeartbeats 4000000 in
set_option maxRecDepth 20000 in
theorem c_X10_whereOf (l : Launch) (E : xE) (b : Nat) (M : xm) (Lm : xn) (a1 : Int32) {r : Int32} (hf : f_X10_whereOf M a1 = some r) :
    xMet l E b NY yX10_whereOf cX10_whereOf 4 (some .int) (xR 2) [.ref (b + 0), .int a1] (cY E b M Lm) (some (.int r)) True (cY E b M Lm) := by
  refine xMet.ofW (own := RX10) (by decide) rfl (Nat.le_of_ble_eq_true rfl) ?_
  intro p e s m below meth c H locs ls C hm hl
  have hx := C.1.1
  have hb := C.1.2.1
  have hl : lv_has ls 4 [(0, .ref (b + 0)), (1, .int a1)] := hl
  unfold f_X10_whereOf at hf
  refine lv_iload_n hx hb dX10_whereOf_0 rfl (lv_at hl 1 rfl) ?_
  refine lv_bipush (v := (64 : Int32)) hx hb dX10_whereOf_1 (by decide) ?_
  refine lv_irem hx hb dX10_whereOf_3 (by decide) ?_
  refine lv_topi (fun v1 ev1 => ?_)
  have hf := xlet_e ev1 hf
  refine lv_istore_n (lv' := [(2, .int v1), (0, .ref (b + 0)), (1, .int a1)]) hx hb dX10_whereOf_4 rfl hl (by decide) rfl (fun ls hl => ?_)
  refine lv_iload_n hx hb dX10_whereOf_5 rfl (lv_at hl 2 rfl) ?_
  refine x_callSi (As := [.int a1]) (rest := []) C hm (c_X10_colourOf l E b M Lm a1 rfl) tc_X10_colourOf tm_RX10_325 tz_X10_colourOf tn_RX10 td_X10_colourOf rfl rfl ⟨Nat.le_of_ble_eq_true rfl, Nat.le_of_ble_eq_true rfl⟩ rfl hl.1 rfl (Nat.le_of_ble_eq_true rfl) ⟨Nat.zero_le _, Nat.zero_le _⟩ dX10_whereOf_6 (fun H locs hP2 hm => ?_)
  refine lv_topi (fun v3 ev3 => ?_)
  have hf := xlet_e ev3 hf
  refine lv_istore_n (lv' := [(3, .int v3), (2, .int v1), (0, .ref (b + 0)), (1, .int a1)]) hx hb dX10_whereOf_9 rfl hl (by decide) rfl (fun ls hl => ?_)
  refine lv_iload_n hx hb dX10_whereOf_10 rfl (lv_at hl 0 rfl) ?_
  refine lv_aload_n hx hb dX10_whereOf_11 rfl (lv_at hl 2 rfl) ?_
  refine x_get C hm inX10 rfl 0 (by decide) tf_RX10_7 cy_0 rfl dX10_whereOf_12 ?_
  refine lv_bipush (v := (7 : Int32)) hx hb dX10_whereOf_15 (by decide) ?_
  refine x_iald (j := 7) C hm cy_1 (by decide) dX10_whereOf_17 (by decide) ?_
  refine lv_icmp_eq (tgt := 39) hx hb dX10_whereOf_18 (by decide) (fun hc4 => ?_) (fun hc4 => ?_)
  · have hf := xif_t hc4 hf
    refine lv_iload_n hx hb dX10_whereOf_39 rfl (lv_at hl 1 rfl) ?_
    refine lv_goto (tgt := 52) hx hb dX10_whereOf_40 (by decide) ?_
    cases hf
    exact x_iret C hm trivial dX10_whereOf_52
  have hf := xif_f hc4 hf
  refine lv_iload_n hx hb dX10_whereOf_21 rfl (lv_at hl 0 rfl) ?_
  refine lv_iconst (v := (2 : Int32)) hx hb dX10_whereOf_22 (by decide) ?_
  refine lv_icmp_eq (tgt := 39) hx hb dX10_whereOf_23 (by decide) (fun hc5 => ?_) (fun hc5 => ?_)
  · have hf := xif_t hc5 hf
    refine lv_iload_n hx hb dX10_whereOf_39 rfl (lv_at hl 1 rfl) ?_
    refine lv_goto (tgt := 52) hx hb dX10_whereOf_40 (by decide) ?_
    cases hf
    exact x_iret C hm trivial dX10_whereOf_52
  have hf := xif_f hc5 hf
  refine lv_aload_n hx hb dX10_whereOf_26 rfl (lv_at hl 2 rfl) ?_
  refine x_get C hm inX10 rfl 0 (by decide) tf_RX10_7 cy_0 rfl dX10_whereOf_27 ?_
  refine lv_bipush (v := (105 : Int32)) hx hb dX10_whereOf_30 (by decide) ?_
  refine lv_iload_n hx hb dX10_whereOf_32 rfl (lv_at hl 1 rfl) ?_
  refine lv_iadd hx hb dX10_whereOf_33 ?_
  obtain ⟨hi6, hf⟩ := xif_s hf
  refine x_iald (j := (Int32.toNatClampNeg ((105 : Int32) + v1))) C hm cy_1 hi6 dX10_whereOf_34 rfl ?_
  refine lv_iconst (v := (-1 : Int32)) hx hb dX10_whereOf_35 (by decide) ?_
  refine lv_icmp_ne (tgt := 43) hx hb dX10_whereOf_36 (by decide) (fun hc7 => ?_) (fun hc7 => ?_)
  rotate_left
  · have hf := xif_t hc7 hf
    refine lv_iload_n hx hb dX10_whereOf_39 rfl (lv_at hl 1 rfl) ?_
    refine lv_goto (tgt := 52) hx hb dX10_whereOf_40 (by decide) ?_
    cases hf
    exact x_iret C hm trivial dX10_whereOf_52
  have hf := xif_f hc7 hf
  refine lv_aload_n hx hb dX10_whereOf_43 rfl (lv_at hl 2 rfl) ?_
  refine x_get C hm inX10 rfl 0 (by decide) tf_RX10_7 cy_0 rfl dX10_whereOf_44 ?_
  refine lv_bipush (v := (105 : Int32)) hx hb dX10_whereOf_47 (by decide) ?_
  refine lv_iload_n hx hb dX10_whereOf_49 rfl (lv_at hl 1 rfl) ?_
  refine lv_iadd hx hb dX10_whereOf_50 ?_
  refine x_iald (j := (Int32.toNatClampNeg ((105 : Int32) + v1))) C hm cy_1 hi6 dX10_whereOf_51 rfl ?_
  cases hf
  exact x_iret C hm trivial dX10_whereOf_52
/-! ColouredHeapModel.needsMove(I)Z -/
theorem dX10_needsMove_0 : decode cX10_needsMove 0 = .ok (.aload_n 0, 1) := by decide +kernel
theorem dX10_needsMove_1 : decode cX10_needsMove 1 = .ok (.getfield 7, 3) := by decide +kernel
theorem dX10_needsMove_4 : decode cX10_needsMove 4 = .ok (.bipush 6, 2) := by decide +kernel
theorem dX10_needsMove_6 : decode cX10_needsMove 6 = .ok (.iaload, 1) := by decide +kernel
theorem dX10_needsMove_7 : decode cX10_needsMove 7 = .ok (.iconst 2, 1) := by decide +kernel
theorem dX10_needsMove_8 : decode cX10_needsMove 8 = .ok (.if_icmp .ne 11, 3) := by decide +kernel
theorem dX10_needsMove_11 : decode cX10_needsMove 11 = .ok (.aload_n 0, 1) := by decide +kernel
theorem dX10_needsMove_12 : decode cX10_needsMove 12 = .ok (.iload_n 1, 1) := by decide +kernel
theorem dX10_needsMove_13 : decode cX10_needsMove 13 = .ok (.invokevirtual 328, 3) := by decide +kernel
theorem dX10_needsMove_16 : decode cX10_needsMove 16 = .ok (.ifCond .eq 5, 3) := by decide +kernel
theorem dX10_needsMove_19 : decode cX10_needsMove 19 = .ok (.iconst 0, 1) := by decide +kernel
theorem dX10_needsMove_20 : decode cX10_needsMove 20 = .ok (.ireturn, 1) := by decide +kernel
theorem dX10_needsMove_21 : decode cX10_needsMove 21 = .ok (.aload_n 0, 1) := by decide +kernel
theorem dX10_needsMove_22 : decode cX10_needsMove 22 = .ok (.iload_n 1, 1) := by decide +kernel
theorem dX10_needsMove_23 : decode cX10_needsMove 23 = .ok (.invokevirtual 331, 3) := by decide +kernel
theorem dX10_needsMove_26 : decode cX10_needsMove 26 = .ok (.istore_n 2, 1) := by decide +kernel
theorem dX10_needsMove_27 : decode cX10_needsMove 27 = .ok (.aload_n 0, 1) := by decide +kernel
theorem dX10_needsMove_28 : decode cX10_needsMove 28 = .ok (.getfield 7, 3) := by decide +kernel
theorem dX10_needsMove_31 : decode cX10_needsMove 31 = .ok (.bipush 13, 2) := by decide +kernel
theorem dX10_needsMove_33 : decode cX10_needsMove 33 = .ok (.iload_n 2, 1) := by decide +kernel
theorem dX10_needsMove_34 : decode cX10_needsMove 34 = .ok (.bipush 8, 2) := by decide +kernel
theorem dX10_needsMove_36 : decode cX10_needsMove 36 = .ok (.idiv, 1) := by decide +kernel
theorem dX10_needsMove_37 : decode cX10_needsMove 37 = .ok (.iadd, 1) := by decide +kernel
theorem dX10_needsMove_38 : decode cX10_needsMove 38 = .ok (.iaload, 1) := by decide +kernel
theorem dX10_needsMove_39 : decode cX10_needsMove 39 = .ok (.iconst 2, 1) := by decide +kernel
theorem dX10_needsMove_40 : decode cX10_needsMove 40 = .ok (.if_icmp .ne 20, 3) := by decide +kernel
theorem dX10_needsMove_43 : decode cX10_needsMove 43 = .ok (.aload_n 0, 1) := by decide +kernel
theorem dX10_needsMove_44 : decode cX10_needsMove 44 = .ok (.getfield 7, 3) := by decide +kernel
theorem dX10_needsMove_47 : decode cX10_needsMove 47 = .ok (.bipush 105, 2) := by decide +kernel
theorem dX10_needsMove_49 : decode cX10_needsMove 49 = .ok (.iload_n 2, 1) := by decide +kernel
theorem dX10_needsMove_50 : decode cX10_needsMove 50 = .ok (.iadd, 1) := by decide +kernel
theorem dX10_needsMove_51 : decode cX10_needsMove 51 = .ok (.iaload, 1) := by decide +kernel
theorem dX10_needsMove_52 : decode cX10_needsMove 52 = .ok (.iconst (-1), 1) := by decide +kernel
theorem dX10_needsMove_53 : decode cX10_needsMove 53 = .ok (.if_icmp .ne 7, 3) := by decide +kernel
theorem dX10_needsMove_56 : decode cX10_needsMove 56 = .ok (.iconst 1, 1) := by decide +kernel
theorem dX10_needsMove_57 : decode cX10_needsMove 57 = .ok (.goto 4, 3) := by decide +kernel
theorem dX10_needsMove_60 : decode cX10_needsMove 60 = .ok (.iconst 0, 1) := by decide +kernel
theorem dX10_needsMove_61 : decode cX10_needsMove 61 = .ok (.ireturn, 1) := by decide +kernel
def f_X10_needsMove (M : xm) (a1 : Int32) : Option (Int32) := (if (M 1 6) = (2 : Int32) then (if (f_X10_isGood M a1) = 0 then xb1 (f_X10_whereOf M a1) (fun v5 => if xin ((13 : Int32) + (v5 / (8 : Int32))) 9878 = true then (if (M 1 (Int32.toNatClampNeg ((13 : Int32) + (v5 / (8 : Int32))))) = (2 : Int32) then if xin ((105 : Int32) + v5) 9878 = true then (if (M 1 (Int32.toNatClampNeg ((105 : Int32) + v5))) = (-1 : Int32) then some (1 : Int32) else some (0 : Int32)) else none else some (0 : Int32)) else none) else some (0 : Int32)) else some (0 : Int32))
set_option maxHeartbeats 4000000 in
set_option maxRecDepth 20000 in
theorem c_X10_needsMove (l : Launch) (E : xE) (b : Nat) (M : xm) (Lm : xn) (a1 : Int32) {r : Int32} (hf : f_X10_needsMove M a1 = some r) :
    xMet l E b NY yX10_needsMove cX10_needsMove 3 (some .boolean) (xR 3) [.ref (b + 0), .int a1] (cY E b M Lm) (some (.int r)) (xbo r = true) (cY E b M Lm) := by
  refine xMet.ofW (own := RX10) (by decide) rfl (Nat.le_of_ble_eq_true rfl) ?_
  intro p e s m below meth c H locs ls C hm hl
  have hx := C.1.1
  have hb := C.1.2.1
  have hl : lv_has ls 3 [(0, .ref (b + 0)), (1, .int a1)] := hl
  unfold f_X10_needsMove at hf
  refine lv_aload_n hx hb dX10_needsMove_0 rfl (lv_at hl 0 rfl) ?_
  refine x_get C hm inX10 rfl 0 (by decide) tf_RX10_7 cy_0 rfl dX10_needsMove_1 ?_
  refine lv_bipush (v := (6 : Int32)) hx hb dX10_needsMove_4 (by decide) ?_
  refine x_iald (j := 6) C hm cy_1 (by decide) dX10_needsMove_6 (by decide) ?_
  refine lv_iconst (v := (2 : Int32)) hx hb dX10_needsMove_7 (by decide) ?_
  refine lv_icmp_ne (tgt := 19) hx hb dX10_needsMove_8 (by decide) (fun hc1 => ?_) (fun hc1 => ?_)
  · have hf := xif_f hc1 hf
    refine lv_iconst (v := (0 : Int32)) hx hb dX10_needsMove_19 (by decide) ?_
    cases hf
    exact x_zret C hm (by decide) (by decide) dX10_needsMove_20
  have hf := xif_t hc1 hf
  refine lv_aload_n hx hb dX10_needsMove_11 rfl (lv_at hl 0 rfl) ?_
  refine lv_iload_n hx hb dX10_needsMove_12 rfl (lv_at hl 1 rfl) ?_
  refine x_callVi (As := [.int a1]) (rest := []) C hm (c_X10_isGood l E b M Lm a1 rfl) rfl cy_0 tc_X10_isGood tm_RX10_328 ti_X10_isGood ts_X10_isGood tn_RX10 td_X10_isGood rfl rfl ⟨Nat.le_of_ble_eq_true rfl, Nat.le_of_ble_eq_true rfl⟩ rfl hl.1 rfl (Nat.le_of_ble_eq_true rfl) ⟨Nat.zero_le _, Nat.zero_le _⟩ dX10_needsMove_13 (fun H locs hP2 hm => ?_)
  refine lv_if_eq (tgt := 21) hx hb dX10_needsMove_16 (by decide) (fun hc3 => ?_) (fun hc3 => ?_)
  rotate_left
  · have hf := xif_f hc3 hf
    refine lv_iconst (v := (0 : Int32)) hx hb dX10_needsMove_19 (by decide) ?_
    cases hf
    exact x_zret C hm (by decide) (by decide) dX10_needsMove_20
  have hf := xif_t hc3 hf
  refine lv_aload_n hx hb dX10_needsMove_21 rfl (lv_at hl 0 rfl) ?_
  refine lv_iload_n hx hb dX10_needsMove_22 rfl (lv_at hl 1 rfl) ?_
  obtain ⟨v5, hq4, hf⟩ := xb1_e hf
  refine x_callVi (As := [.int a1]) (rest := []) C hm (c_X10_whereOf l E b M Lm a1 hq4) rfl cy_0 tc_X10_whereOf tm_RX10_331 ti_X10_whereOf ts_X10_whereOf tn_RX10 td_X10_whereOf rfl rfl ⟨Nat.le_of_ble_eq_true rfl, Nat.le_of_ble_eq_true rfl⟩ rfl hl.1 rfl (Nat.le_of_ble_eq_true rfl) ⟨Nat.zero_le _, Nat.zero_le _⟩ dX10_needsMove_23 (fun H locs hP6 hm => ?_)
  refine lv_istore_n (lv' := [(2, .int v5), (0, .ref (b + 0)), (1, .int a1)]) hx hb dX10_needsMove_26 rfl hl (by decide) rfl (fun ls hl => ?_)
  refine lv_aload_n hx hb dX10_needsMove_27 rfl (lv_at hl 1 rfl) ?_
  refine x_get C hm inX10 rfl 0 (by decide) tf_RX10_7 cy_0 rfl dX10_needsMove_28 ?_
  refine lv_bipush (v := (13 : Int32)) hx hb dX10_needsMove_31 (by decide) ?_
  refine lv_iload_n hx hb dX10_needsMove_33 rfl (lv_at hl 0 rfl) ?_
  refine lv_bipush (v := (8 : Int32)) hx hb dX10_needsMove_34 (by decide) ?_
  refine lv_idiv hx hb dX10_needsMove_36 (by decide) ?_
  refine lv_iadd hx hb dX10_needsMove_37 ?_
  obtain ⟨hi7, hf⟩ := xif_s hf
  refine x_iald (j := (Int32.toNatClampNeg ((13 : Int32) + (v5 / (8 : Int32))))) C hm cy_1 hi7 dX10_needsMove_38 rfl ?_
  refine lv_iconst (v := (2 : Int32)) hx hb dX10_needsMove_39 (by decide) ?_
  refine lv_icmp_ne (tgt := 60) hx hb dX10_needsMove_40 (by decide) (fun hc8 => ?_) (fun hc8 => ?_)
  · have hf := xif_f hc8 hf
    refine lv_iconst (v := (0 : Int32)) hx hb dX10_needsMove_60 (by decide) ?_
    cases hf
    exact x_zret C hm (by decide) (by decide) dX10_needsMove_61
  have hf := xif_t hc8 hf
  refine lv_aload_n hx hb dX10_needsMove_43 rfl (lv_at hl 1 rfl) ?_
  refine x_get C hm inX10 rfl 0 (by decide) tf_RX10_7 cy_0 rfl dX10_needsMove_44 ?_
  refine lv_bipush (v := (105 : Int32)) hx hb dX10_needsMove_47 (by decide) ?_
  refine lv_iload_n hx hb dX10_needsMove_49 rfl (lv_at hl 0 rfl) ?_
  refine lv_iadd hx hb dX10_needsMove_50 ?_
  obtain ⟨hi9, hf⟩ := xif_s hf
  refine x_iald (j := (Int32.toNatClampNeg ((105 : Int32) + v5))) C hm cy_1 hi9 dX10_needsMove_51 rfl ?_
  refine lv_iconst (v := (-1 : Int32)) hx hb dX10_needsMove_52 (by decide) ?_
  refine lv_icmp_ne (tgt := 60) hx hb dX10_needsMove_53 (by decide) (fun hc10 => ?_) (fun hc10 => ?_)
  · have hf := xif_f hc10 hf
    refine lv_iconst (v := (0 : Int32)) hx hb dX10_needsMove_60 (by decide) ?_
    cases hf
    exact x_zret C hm (by decide) (by decide) dX10_needsMove_61
  have hf := xif_t hc10 hf
  refine lv_iconst (v := (1 : Int32)) hx hb dX10_needsMove_56 (by decide) ?_
  refine lv_goto (tgt := 61) hx hb dX10_needsMove_57 (by decide) ?_
  cases hf
  exact x_zret C hm (by decide) (by decide) dX10_needsMove_61
/-! ColouredHeapModel.mended(I)I -/
theorem dX10_mended_0 : decode cX10_mended 0 = .ok (.aload_n 0, 1) := by decide +kernel
theorem dX10_mended_1 : decode cX10_mended 1 = .ok (.iload_n 1, 1) := by decide +kernel
theorem dX10_mended_2 : decode cX10_mended 2 = .ok (.invokevirtual 328, 3) := by decide +kernel
theorem dX10_mended_5 : decode cX10_mended 5 = .ok (.ifCond .eq 5, 3) := by decide +kernel
theorem dX10_mended_8 : decode cX10_mended 8 = .ok (.iload_n 1, 1) := by decide +kernel
theorem dX10_mended_9 : decode cX10_mended 9 = .ok (.ireturn, 1) := by decide +kernel
theorem dX10_mended_10 : decode cX10_mended 10 = .ok (.aload_n 0, 1) := by decide +kernel
theorem dX10_mended_11 : decode cX10_mended 11 = .ok (.iload_n 1, 1) := by decide +kernel
theorem dX10_mended_12 : decode cX10_mended 12 = .ok (.invokevirtual 334, 3) := by decide +kernel
theorem dX10_mended_15 : decode cX10_mended 15 = .ok (.ifCond .eq 12, 3) := by decide +kernel
theorem dX10_mended_18 : decode cX10_mended 18 = .ok (.aload_n 0, 1) := by decide +kernel
theorem dX10_mended_19 : decode cX10_mended 19 = .ok (.aload_n 0, 1) := by decide +kernel
theorem dX10_mended_20 : decode cX10_mended 20 = .ok (.iload_n 1, 1) := by decide +kernel
theorem dX10_mended_21 : decode cX10_mended 21 = .ok (.invokevirtual 331, 3) := by decide +kernel
theorem dX10_mended_24 : decode cX10_mended 24 = .ok (.invokevirtual 340, 3) := by decide +kernel
theorem dX10_mended_27 : decode cX10_mended 27 = .ok (.aload_n 0, 1) := by decide +kernel
theorem dX10_mended_28 : decode cX10_mended 28 = .ok (.iload_n 1, 1) := by decide +kernel
theorem dX10_mended_29 : decode cX10_mended 29 = .ok (.invokevirtual 331, 3) := by decide +kernel
theorem dX10_mended_32 : decode cX10_mended 32 = .ok (.istore_n 2, 1) := by decide +kernel
theorem dX10_mended_33 : decode cX10_mended 33 = .ok (.aload_n 0, 1) := by decide +kernel
theorem dX10_mended_34 : decode cX10_mended 34 = .ok (.getfield 7, 3) := by decide +kernel
theorem dX10_mended_37 : decode cX10_mended 37 = .ok (.bipush 6, 2) := by decide +kernel
theorem dX10_mended_39 : decode cX10_mended 39 = .ok (.iaload, 1) := by decide +kernel
theorem dX10_mended_40 : decode cX10_mended 40 = .ok (.iconst 2, 1) := by decide +kernel
theorem dX10_mended_41 : decode cX10_mended 41 = .ok (.if_icmp .ne 26, 3) := by decide +kernel
theorem dX10_mended_44 : decode cX10_mended 44 = .ok (.aload_n 0, 1) := by decide +kernel
theorem dX10_mended_45 : decode cX10_mended 45 = .ok (.getfield 7, 3) := by decide +kernel
theorem dX10_mended_48 : decode cX10_mended 48 = .ok (.bipush 105, 2) := by decide +kernel
theorem dX10_mended_50 : decode cX10_mended 50 = .ok (.iload_n 2, 1) := by decide +kernel
theorem dX10_mended_51 : decode cX10_mended 51 = .ok (.iadd, 1) := by decide +kernel
theorem dX10_mended_52 : decode cX10_mended 52 = .ok (.iaload, 1) := by decide +kernel
theorem dX10_mended_53 : decode cX10_mended 53 = .ok (.iconst (-1), 1) := by decide +kernel
theorem dX10_mended_54 : decode cX10_mended 54 = .ok (.if_icmp .eq 13, 3) := by decide +kernel
theorem dX10_mended_57 : decode cX10_mended 57 = .ok (.aload_n 0, 1) := by decide +kernel
theorem dX10_mended_58 : decode cX10_mended 58 = .ok (.getfield 7, 3) := by decide +kernel
theorem dX10_mended_61 : decode cX10_mended 61 = .ok (.bipush 105, 2) := by decide +kernel
theorem dX10_mended_63 : decode cX10_mended 63 = .ok (.iload_n 2, 1) := by decide +kernel
theorem dX10_mended_64 : decode cX10_mended 64 = .ok (.iadd, 1) := by decide +kernel
theorem dX10_mended_65 : decode cX10_mended 65 = .ok (.iaload, 1) := by decide +kernel
theorem dX10_mended_66 : decode cX10_mended 66 = .ok (.istore_n 2, 1) := by decide +kernel
theorem dX10_mended_67 : decode cX10_mended 67 = .ok (.aload_n 0, 1) := by decide +kernel
theorem dX10_mended_68 : decode cX10_mended 68 = .ok (.getfield 7, 3) := by decide +kernel
theorem dX10_mended_71 : decode cX10_mended 71 = .ok (.bipush 6, 2) := by decide +kernel
theorem dX10_mended_73 : decode cX10_mended 73 = .ok (.iaload, 1) := by decide +kernel
theorem dX10_mended_74 : decode cX10_mended 74 = .ok (.iconst 1, 1) := by decide +kernel
theorem dX10_mended_75 : decode cX10_mended 75 = .ok (.if_icmp .ne 50, 3) := by decide +kernel
theorem dX10_mended_78 : decode cX10_mended 78 = .ok (.aload_n 0, 1) := by decide +kernel
theorem dX10_mended_79 : decode cX10_mended 79 = .ok (.iload_n 2, 1) := by decide +kernel
theorem dX10_mended_80 : decode cX10_mended 80 = .ok (.invokevirtual 77, 3) := by decide +kernel
theorem dX10_mended_83 : decode cX10_mended 83 = .ok (.ifCond .ne 42, 3) := by decide +kernel
theorem dX10_mended_86 : decode cX10_mended 86 = .ok (.aload_n 0, 1) := by decide +kernel
theorem dX10_mended_87 : decode cX10_mended 87 = .ok (.getfield 7, 3) := by decide +kernel
theorem dX10_mended_90 : decode cX10_mended 90 = .ok (.sipush 169, 3) := by decide +kernel
theorem dX10_mended_93 : decode cX10_mended 93 = .ok (.iload_n 2, 1) := by decide +kernel
theorem dX10_mended_94 : decode cX10_mended 94 = .ok (.iadd, 1) := by decide +kernel
theorem dX10_mended_95 : decode cX10_mended 95 = .ok (.iconst 1, 1) := by decide +kernel
theorem dX10_mended_96 : decode cX10_mended 96 = .ok (.iastore, 1) := by decide +kernel
theorem dX10_mended_97 : decode cX10_mended 97 = .ok (.aload_n 0, 1) := by decide +kernel
theorem dX10_mended_98 : decode cX10_mended 98 = .ok (.getfield 7, 3) := by decide +kernel
theorem dX10_mended_101 : decode cX10_mended 101 = .ok (.sipush 233, 3) := by decide +kernel
theorem dX10_mended_104 : decode cX10_mended 104 = .ok (.aload_n 0, 1) := by decide +kernel
theorem dX10_mended_105 : decode cX10_mended 105 = .ok (.getfield 7, 3) := by decide +kernel
theorem dX10_mended_108 : decode cX10_mended 108 = .ok (.bipush 8, 2) := by decide +kernel
theorem dX10_mended_110 : decode cX10_mended 110 = .ok (.iaload, 1) := by decide +kernel
theorem dX10_mended_111 : decode cX10_mended 111 = .ok (.iadd, 1) := by decide +kernel
theorem dX10_mended_112 : decode cX10_mended 112 = .ok (.iload_n 2, 1) := by decide +kernel
theorem dX10_mended_113 : decode cX10_mended 113 = .ok (.iastore, 1) := by decide +kernel
theorem dX10_mended_114 : decode cX10_mended 114 = .ok (.aload_n 0, 1) := by decide +kernel
theorem dX10_mended_115 : decode cX10_mended 115 = .ok (.getfield 7, 3) := by decide +kernel
theorem dX10_mended_118 : decode cX10_mended 118 = .ok (.bipush 8, 2) := by decide +kernel
theorem dX10_mended_120 : decode cX10_mended 120 = .ok (.dup2, 1) := by decide +kernel
theorem dX10_mended_121 : decode cX10_mended 121 = .ok (.iaload, 1) := by decide +kernel
theorem dX10_mended_122 : decode cX10_mended 122 = .ok (.iconst 1, 1) := by decide +kernel
theorem dX10_mended_123 : decode cX10_mended 123 = .ok (.iadd, 1) := by decide +kernel
theorem dX10_mended_124 : decode cX10_mended 124 = .ok (.iastore, 1) := by decide +kernel
theorem dX10_mended_125 : decode cX10_mended 125 = .ok (.bipush 64, 2) := by decide +kernel
theorem dX10_mended_127 : decode cX10_mended 127 = .ok (.aload_n 0, 1) := by decide +kernel
theorem dX10_mended_128 : decode cX10_mended 128 = .ok (.getfield 7, 3) := by decide +kernel
theorem dX10_mended_131 : decode cX10_mended 131 = .ok (.bipush 7, 2) := by decide +kernel
theorem dX10_mended_133 : decode cX10_mended 133 = .ok (.iaload, 1) := by decide +kernel
theorem dX10_mended_134 : decode cX10_mended 134 = .ok (.imul, 1) := by decide +kernel
theorem dX10_mended_135 : decode cX10_mended 135 = .ok (.iload_n 2, 1) := by decide +kernel
theorem dX10_mended_136 : decode cX10_mended 136 = .ok (.iadd, 1) := by decide +kernel
theorem dX10_mended_137 : decode cX10_mended 137 = .ok (.ireturn, 1) := by decide +kernel
def f_X10_mended (M : xm) (a1 : Int32) : Option (Int32 × xm) := (if (f_X10_isGood M a1) = 0 then xb1 (f_X10_needsMove M a1) (fun v4 => xlet (fun (M6 : xm) => xb1 (f_X10_whereOf M6 a1) (fun v9 => xlet (fun (w11 : Int32) => (if (M6 1 6) = (1 : Int32) then xb1 (f_X10_isMarked M6 w11) (fun v15 => (if v15 = 0 then if xin ((169 : Int32) + w11) 9878 = true then xlet (up2 M6 1 (Int32.toNatClampNeg ((169 : Int32) + w11)) (1 : Int32)) (fun M19 => if xin ((233 : Int32) + (M19 1 8)) 9878 = true then xlet (up2 M19 1 (Int32.toNatClampNeg ((233 : Int32) + (M19 1 8))) w11) (fun M21 => xlet (up2 M21 1 8 ((M21 1 8) + (1 : Int32))) (fun M22 => some ((((64 : Int32) * (M22 1 7)) + w11), M22))) else none) else none else some ((((64 : Int32) * (M6 1 7)) + w11), M6))) else some ((((64 : Int32) * (M6 1 7)) + w11), M6))) (fun k12 => (if (M6 1 6) = (2 : Int32) then if xin ((105 : Int32) + v9) 9878 = true then (if (M6 1 (Int32.toNatClampNeg ((105 : Int32) + v9))) = (-1 : Int32) then (k12 v9) else xlet (M6 1 (Int32.toNatClampNeg ((105 : Int32) + v9))) (fun v26 => (k12 v26))) else none else (k12 v9))))) (fun k7 => (if v4 = 0 then (k7 M) else xb1 (f_X10_whereOf M a1) (fun v29 => xb1 (f_X10_moveNow M v29) (fun M32 => (k7 M32)))))) else some (a1, M))
set_option maxHeartbeats 4000000 in
set_option maxRecDepth 20000 in
theorem c_X10_mended (l : Launch) (E : xE) (b : Nat) (M : xm) (Lm : xn) (a1 : Int32) {r : Int32} {M' : xm} (hf : f_X10_mended M a1 = some (r, M')) :
    xMet l E b NY yX10_mended cX10_mended 3 (some .int) (xR 5) [.ref (b + 0), .int a1] (cY E b M Lm) (some (.int r)) True (cY E b M' Lm) := by
  refine xMet.ofW (own := RX10) (by decide) rfl (Nat.le_of_ble_eq_true rfl) ?_
  intro p e s m below meth c H locs ls C hm hl
  have hx := C.1.1
  have hb := C.1.2.1
  have hl : lv_has ls 3 [(0, .ref (b + 0)), (1, .int a1)] := hl
  unfold f_X10_mended at hf
  refine lv_aload_n hx hb dX10_mended_0 rfl (lv_at hl 0 rfl) ?_
  refine lv_iload_n hx hb dX10_mended_1 rfl (lv_at hl 1 rfl) ?_
  refine x_callVi (As := [.int a1]) (rest := []) C hm (c_X10_isGood l E b M Lm a1 rfl) rfl cy_0 tc_X10_isGood tm_RX10_328 ti_X10_isGood ts_X10_isGood tn_RX10 td_X10_isGood rfl rfl ⟨Nat.le_of_ble_eq_true rfl, Nat.le_of_ble_eq_true rfl⟩ rfl hl.1 rfl (Nat.le_of_ble_eq_true rfl) ⟨Nat.zero_le _, Nat.zero_le _⟩ dX10_mended_2 (fun H locs hP1 hm => ?_)
  refine lv_if_eq (tgt := 10) hx hb dX10_mended_5 (by decide) (fun hc2 => ?_) (fun hc2 => ?_)
  rotate_left
  · have hf := xif_f hc2 hf
    refine lv_iload_n hx hb dX10_mended_8 rfl (lv_at hl 1 rfl) ?_
    cases hf
    exact x_iret C hm trivial dX10_mended_9
  have hf := xif_t hc2 hf
  refine lv_aload_n hx hb dX10_mended_10 rfl (lv_at hl 0 rfl) ?_
  refine lv_iload_n hx hb dX10_mended_11 rfl (lv_at hl 1 rfl) ?_
  obtain ⟨v4, hq3, hf⟩ := xb1_e hf
  refine x_callVi (As := [.int a1]) (rest := []) C hm (c_X10_needsMove l E b M Lm a1 hq3) rfl cy_0 tc_X10_needsMove tm_RX10_334 ti_X10_needsMove ts_X10_needsMove tn_RX10 td_X10_needsMove rfl rfl ⟨Nat.le_of_ble_eq_true rfl, Nat.le_of_ble_eq_true rfl⟩ rfl hl.1 rfl (Nat.le_of_ble_eq_true rfl) ⟨Nat.zero_le _, Nat.zero_le _⟩ dX10_mended_12 (fun H locs hP5 hm => ?_)
  obtain ⟨k7, ek7, hf⟩ := xlet_x hf
  have jk7 : ∀ (M6 : xm) (H : Heap) (locs : List Loc) (ls : Array Slot), k7 M6 = some (r, M') → xM E b NY (cY E b M6 Lm) s.heap H locs → lv_has ls 3 [(0, .ref (b + 0)), (1, .int a1)] → W p l e (xR 5) s m ([.ref (b + 0), .int a1] : List Value).toArray below meth c H locs 0 0 (MQ below (xQ E b NY (some (.int r)) True (cY E b M' Lm)) ([.ref (b + 0), .int a1] : List Value).toArray s 0 0 (xA b NY)) (F0 m 27 ls []) := by
    intro M6 H locs ls hf hm hl
    have hf := xap1 ek7 hf
    refine lv_aload_n hx hb dX10_mended_27 rfl (lv_at hl 0 rfl) ?_
    refine lv_iload_n hx hb dX10_mended_28 rfl (lv_at hl 1 rfl) ?_
    obtain ⟨v9, hq8, hf⟩ := xb1_e hf
    refine x_callVi (As := [.int a1]) (rest := []) C hm (c_X10_whereOf l E b M6 Lm a1 hq8) rfl cy_0 tc_X10_whereOf tm_RX10_331 ti_X10_whereOf ts_X10_whereOf tn_RX10 td_X10_whereOf rfl rfl ⟨Nat.le_of_ble_eq_true rfl, Nat.le_of_ble_eq_true rfl⟩ rfl hl.1 rfl (Nat.le_of_ble_eq_true rfl) ⟨Nat.zero_le _, Nat.zero_le _⟩ dX10_mended_29 (fun H locs hP10 hm => ?_)
    refine lv_istore_n (lv' := [(2, .int v9), (0, .ref (b + 0)), (1, .int a1)]) hx hb dX10_mended_32 rfl hl (by decide) rfl (fun ls hl => ?_)
    refine lv_aload_n hx hb dX10_mended_33 rfl (lv_at hl 1 rfl) ?_
    refine x_get C hm inX10 rfl 0 (by decide) tf_RX10_7 cy_0 rfl dX10_mended_34 ?_
    refine lv_bipush (v := (6 : Int32)) hx hb dX10_mended_37 (by decide) ?_
    refine x_iald (j := 6) C hm cy_1 (by decide) dX10_mended_39 (by decide) ?_
    refine lv_iconst (v := (2 : Int32)) hx hb dX10_mended_40 (by decide) ?_
    obtain ⟨k12, ek12, hf⟩ := xlet_x hf
    have jk12 : ∀ (w11 : Int32) (H : Heap) (locs : List Loc) (ls : Array Slot), k12 w11 = some (r, M') → xM E b NY (cY E b M6 Lm) s.heap H locs → lv_has ls 3 [(0, .ref (b + 0)), (2, .int w11)] → W p l e (xR 5) s m ([.ref (b + 0), .int a1] : List Value).toArray below meth c H locs 0 0 (MQ below (xQ E b NY (some (.int r)) True (cY E b M' Lm)) ([.ref (b + 0), .int a1] : List Value).toArray s 0 0 (xA b NY)) (F0 m 67 ls []) := by
      intro w11 H locs ls hf hm hl
      have hf := xap1 ek12 hf
      refine lv_aload_n hx hb dX10_mended_67 rfl (lv_at hl 0 rfl) ?_
      refine x_get C hm inX10 rfl 0 (by decide) tf_RX10_7 cy_0 rfl dX10_mended_68 ?_
      refine lv_bipush (v := (6 : Int32)) hx hb dX10_mended_71 (by decide) ?_
      refine x_iald (j := 6) C hm cy_1 (by decide) dX10_mended_73 (by decide) ?_
      refine lv_iconst (v := (1 : Int32)) hx hb dX10_mended_74 (by decide) ?_
      refine lv_icmp_ne (tgt := 125) hx hb dX10_mended_75 (by decide) (fun hc13 => ?_) (fun hc13 => ?_)
      · have hf := xif_f hc13 hf
        refine lv_bipush (v := (64 : Int32)) hx hb dX10_mended_125 (by decide) ?_
        refine lv_aload_n hx hb dX10_mended_127 rfl (lv_at hl 0 rfl) ?_
        refine x_get C hm inX10 rfl 0 (by decide) tf_RX10_7 cy_0 rfl dX10_mended_128 ?_
        refine lv_bipush (v := (7 : Int32)) hx hb dX10_mended_131 (by decide) ?_
        refine x_iald (j := 7) C hm cy_1 (by decide) dX10_mended_133 (by decide) ?_
        refine lv_imul hx hb dX10_mended_134 ?_
        refine lv_iload_n hx hb dX10_mended_135 rfl (lv_at hl 1 rfl) ?_
        refine lv_iadd hx hb dX10_mended_136 ?_
        cases hf
        exact x_iret C hm trivial dX10_mended_137
      have hf := xif_t hc13 hf
      refine lv_aload_n hx hb dX10_mended_78 rfl (lv_at hl 0 rfl) ?_
      refine lv_iload_n hx hb dX10_mended_79 rfl (lv_at hl 1 rfl) ?_
      obtain ⟨v15, hq14, hf⟩ := xb1_e hf
      refine x_callVi (As := [.int w11]) (rest := []) C hm (c_X10_isMarked l E b M6 Lm w11 hq14) rfl cy_0 tc_X10_isMarked tm_RX10_77 ti_X10_isMarked ts_X10_isMarked tn_RX10 td_X10_isMarked rfl rfl ⟨Nat.le_of_ble_eq_true rfl, Nat.le_of_ble_eq_true rfl⟩ rfl hl.1 rfl (Nat.le_of_ble_eq_true rfl) ⟨Nat.zero_le _, Nat.zero_le _⟩ dX10_mended_80 (fun H locs hP16 hm => ?_)
      refine lv_if_ne (tgt := 125) hx hb dX10_mended_83 (by decide) (fun hc17 => ?_) (fun hc17 => ?_)
      · have hf := xif_f hc17 hf
        refine lv_bipush (v := (64 : Int32)) hx hb dX10_mended_125 (by decide) ?_
        refine lv_aload_n hx hb dX10_mended_127 rfl (lv_at hl 0 rfl) ?_
        refine x_get C hm inX10 rfl 0 (by decide) tf_RX10_7 cy_0 rfl dX10_mended_128 ?_
        refine lv_bipush (v := (7 : Int32)) hx hb dX10_mended_131 (by decide) ?_
        refine x_iald (j := 7) C hm cy_1 (by decide) dX10_mended_133 (by decide) ?_
        refine lv_imul hx hb dX10_mended_134 ?_
        refine lv_iload_n hx hb dX10_mended_135 rfl (lv_at hl 1 rfl) ?_
        refine lv_iadd hx hb dX10_mended_136 ?_
        cases hf
        exact x_iret C hm trivial dX10_mended_137
      have hf := xif_t hc17 hf
      refine lv_aload_n hx hb dX10_mended_86 rfl (lv_at hl 0 rfl) ?_
      refine x_get C hm inX10 rfl 0 (by decide) tf_RX10_7 cy_0 rfl dX10_mended_87 ?_
      refine lv_sipush (v := (169 : Int32)) hx hb dX10_mended_90 (by decide) ?_
      refine lv_iload_n hx hb dX10_mended_93 rfl (lv_at hl 1 rfl) ?_
      refine lv_iadd hx hb dX10_mended_94 ?_
      refine lv_iconst (v := (1 : Int32)) hx hb dX10_mended_95 (by decide) ?_
      obtain ⟨hi18, hf⟩ := xif_s hf
      obtain ⟨M19, eM19, hf⟩ := xlet_x hf
      refine x_iast (j := (Int32.toNatClampNeg ((169 : Int32) + w11))) (cf' := cY E b M19 Lm) C hm cy_1 hi18 dX10_mended_96 rfl (by rw [eM19]; exact cyu_1) (by rw [eM19]; exact cY_o) (fun H locs hm => ?_)
      refine lv_aload_n hx hb dX10_mended_97 rfl (lv_at hl 0 rfl) ?_
      refine x_get C hm inX10 rfl 0 (by decide) tf_RX10_7 cy_0 rfl dX10_mended_98 ?_
      refine lv_sipush (v := (233 : Int32)) hx hb dX10_mended_101 (by decide) ?_
      refine lv_aload_n hx hb dX10_mended_104 rfl (lv_at hl 0 rfl) ?_
      refine x_get C hm inX10 rfl 0 (by decide) tf_RX10_7 cy_0 rfl dX10_mended_105 ?_
      refine lv_bipush (v := (8 : Int32)) hx hb dX10_mended_108 (by decide) ?_
      refine x_iald (j := 8) C hm cy_1 (by decide) dX10_mended_110 (by decide) ?_
      refine lv_iadd hx hb dX10_mended_111 ?_
      refine lv_iload_n hx hb dX10_mended_112 rfl (lv_at hl 1 rfl) ?_
      obtain ⟨hi20, hf⟩ := xif_s hf
      obtain ⟨M21, eM21, hf⟩ := xlet_x hf
      refine x_iast (j := (Int32.toNatClampNeg ((233 : Int32) + (M19 1 8)))) (cf' := cY E b M21 Lm) C hm cy_1 hi20 dX10_mended_113 rfl (by rw [eM21]; exact cyu_1) (by rw [eM21]; exact cY_o) (fun H locs hm => ?_)
      refine lv_aload_n hx hb dX10_mended_114 rfl (lv_at hl 0 rfl) ?_
      refine x_get C hm inX10 rfl 0 (by decide) tf_RX10_7 cy_0 rfl dX10_mended_115 ?_
      refine lv_bipush (v := (8 : Int32)) hx hb dX10_mended_118 (by decide) ?_
      refine lv_dup2_11 hx hb dX10_mended_120 rfl rfl ?_
      refine x_iald (j := 8) C hm cy_1 (by decide) dX10_mended_121 (by decide) ?_
      refine lv_iconst (v := (1 : Int32)) hx hb dX10_mended_122 (by decide) ?_
      refine lv_iadd hx hb dX10_mended_123 ?_
      obtain ⟨M22, eM22, hf⟩ := xlet_x hf
      refine x_iast (j := 8) (cf' := cY E b M22 Lm) C hm cy_1 (by decide) dX10_mended_124 (by decide) (by rw [eM22]; exact cyu_1) (by rw [eM22]; exact cY_o) (fun H locs hm => ?_)
      refine lv_bipush (v := (64 : Int32)) hx hb dX10_mended_125 (by decide) ?_
      refine lv_aload_n hx hb dX10_mended_127 rfl (lv_at hl 0 rfl) ?_
      refine x_get C hm inX10 rfl 0 (by decide) tf_RX10_7 cy_0 rfl dX10_mended_128 ?_
      refine lv_bipush (v := (7 : Int32)) hx hb dX10_mended_131 (by decide) ?_
      refine x_iald (j := 7) C hm cy_1 (by decide) dX10_mended_133 (by decide) ?_
      refine lv_imul hx hb dX10_mended_134 ?_
      refine lv_iload_n hx hb dX10_mended_135 rfl (lv_at hl 1 rfl) ?_
      refine lv_iadd hx hb dX10_mended_136 ?_
      cases hf
      exact x_iret C hm trivial dX10_mended_137
    refine lv_icmp_ne (tgt := 67) hx hb dX10_mended_41 (by decide) (fun hc23 => ?_) (fun hc23 => ?_)
    · have hf := xif_f hc23 hf
      exact jk12 v9 H locs ls  hf hm (lv_sub hl [1, 0] rfl)
    have hf := xif_t hc23 hf
    refine lv_aload_n hx hb dX10_mended_44 rfl (lv_at hl 1 rfl) ?_
    refine x_get C hm inX10 rfl 0 (by decide) tf_RX10_7 cy_0 rfl dX10_mended_45 ?_
    refine lv_bipush (v := (105 : Int32)) hx hb dX10_mended_48 (by decide) ?_
    refine lv_iload_n hx hb dX10_mended_50 rfl (lv_at hl 0 rfl) ?_
    refine lv_iadd hx hb dX10_mended_51 ?_
    obtain ⟨hi24, hf⟩ := xif_s hf
    refine x_iald (j := (Int32.toNatClampNeg ((105 : Int32) + v9))) C hm cy_1 hi24 dX10_mended_52 rfl ?_
    refine lv_iconst (v := (-1 : Int32)) hx hb dX10_mended_53 (by decide) ?_
    refine lv_icmp_eq (tgt := 67) hx hb dX10_mended_54 (by decide) (fun hc25 => ?_) (fun hc25 => ?_)
    · have hf := xif_t hc25 hf
      exact jk12 v9 H locs ls  hf hm (lv_sub hl [1, 0] rfl)
    have hf := xif_f hc25 hf
    refine lv_aload_n hx hb dX10_mended_57 rfl (lv_at hl 1 rfl) ?_
    refine x_get C hm inX10 rfl 0 (by decide) tf_RX10_7 cy_0 rfl dX10_mended_58 ?_
    refine lv_bipush (v := (105 : Int32)) hx hb dX10_mended_61 (by decide) ?_
    refine lv_iload_n hx hb dX10_mended_63 rfl (lv_at hl 0 rfl) ?_
    refine lv_iadd hx hb dX10_mended_64 ?_
    refine x_iald (j := (Int32.toNatClampNeg ((105 : Int32) + v9))) C hm cy_1 hi24 dX10_mended_65 rfl ?_
    refine lv_topi (fun v26 ev26 => ?_)
    have hf := xlet_e ev26 hf
    refine lv_istore_n (lv' := [(2, .int v26), (0, .ref (b + 0)), (1, .int a1)]) hx hb dX10_mended_66 rfl hl (by decide) rfl (fun ls hl => ?_)
    exact jk12 v26 H locs ls  hf hm (lv_sub hl [1, 0] rfl)
  refine lv_if_eq (tgt := 27) hx hb dX10_mended_15 (by decide) (fun hc27 => ?_) (fun hc27 => ?_)
  · have hf := xif_t hc27 hf
    exact jk7 M H locs ls  hf hm (lv_sub hl [0, 1] rfl)
  have hf := xif_f hc27 hf
  refine lv_aload_n hx hb dX10_mended_18 rfl (lv_at hl 0 rfl) ?_
  refine lv_aload_n hx hb dX10_mended_19 rfl (lv_at hl 0 rfl) ?_
  refine lv_iload_n hx hb dX10_mended_20 rfl (lv_at hl 1 rfl) ?_
  obtain ⟨v29, hq28, hf⟩ := xb1_e hf
  refine x_callVi (As := [.int a1]) (rest := [.ref (b + 0)]) C hm (c_X10_whereOf l E b M Lm a1 hq28) rfl cy_0 tc_X10_whereOf tm_RX10_331 ti_X10_whereOf ts_X10_whereOf tn_RX10 td_X10_whereOf rfl rfl ⟨Nat.le_of_ble_eq_true rfl, Nat.le_of_ble_eq_true rfl⟩ rfl hl.1 rfl (Nat.le_of_ble_eq_true rfl) ⟨Nat.zero_le _, Nat.zero_le _⟩ dX10_mended_21 (fun H locs hP30 hm => ?_)
  obtain ⟨M32, hq31, hf⟩ := xb1_e hf
  refine x_callVv (As := [.int v29]) (rest := []) C hm (c_X10_moveNow l E b M Lm v29 hq31) rfl cy_0 tc_X10_moveNow tm_RX10_340 ti_X10_moveNow ts_X10_moveNow tn_RX10 td_X10_moveNow rfl rfl ⟨Nat.le_of_ble_eq_true rfl, Nat.le_of_ble_eq_true rfl⟩ rfl hl.1 rfl (Nat.le_of_ble_eq_true rfl) ⟨Nat.zero_le _, Nat.zero_le _⟩ dX10_mended_24 (fun H locs hP33 hm => ?_)
  exact jk7 M32 H locs ls  hf hm (lv_sub hl [0, 1] rfl)
/-! ColouredHeapModel.finishNow(II)I -/
theorem dX10_finishNow_0 : decode cX10_finishNow 0 = .ok (.aload_n 0, 1) := by decide +kernel
theorem dX10_finishNow_1 : decode cX10_finishNow 1 = .ok (.getfield 7, 3) := by decide +kernel
theorem dX10_finishNow_4 : decode cX10_finishNow 4 = .ok (.bipush 37, 2) := by decide +kernel
theorem dX10_finishNow_6 : decode cX10_finishNow 6 = .ok (.iload_n 1, 1) := by decide +kernel
theorem dX10_finishNow_7 : decode cX10_finishNow 7 = .ok (.iadd, 1) := by decide +kernel
theorem dX10_finishNow_8 : decode cX10_finishNow 8 = .ok (.iaload, 1) := by decide +kernel
theorem dX10_finishNow_9 : decode cX10_finishNow 9 = .ok (.istore_n 3, 1) := by decide +kernel
theorem dX10_finishNow_10 : decode cX10_finishNow 10 = .ok (.aload_n 0, 1) := by decide +kernel
theorem dX10_finishNow_11 : decode cX10_finishNow 11 = .ok (.getfield 7, 3) := by decide +kernel
theorem dX10_finishNow_14 : decode cX10_finishNow 14 = .ok (.bipush 39, 2) := by decide +kernel
theorem dX10_finishNow_16 : decode cX10_finishNow 16 = .ok (.iload_n 1, 1) := by decide +kernel
theorem dX10_finishNow_17 : decode cX10_finishNow 17 = .ok (.iadd, 1) := by decide +kernel
theorem dX10_finishNow_18 : decode cX10_finishNow 18 = .ok (.iaload, 1) := by decide +kernel
theorem dX10_finishNow_19 : decode cX10_finishNow 19 = .ok (.istore 4, 2) := by decide +kernel
theorem dX10_finishNow_21 : decode cX10_finishNow 21 = .ok (.aload_n 0, 1) := by decide +kernel
theorem dX10_finishNow_22 : decode cX10_finishNow 22 = .ok (.getfield 7, 3) := by decide +kernel
theorem dX10_finishNow_25 : decode cX10_finishNow 25 = .ok (.bipush 35, 2) := by decide +kernel
theorem dX10_finishNow_27 : decode cX10_finishNow 27 = .ok (.iload_n 1, 1) := by decide +kernel
theorem dX10_finishNow_28 : decode cX10_finishNow 28 = .ok (.iadd, 1) := by decide +kernel
theorem dX10_finishNow_29 : decode cX10_finishNow 29 = .ok (.iaload, 1) := by decide +kernel
theorem dX10_finishNow_30 : decode cX10_finishNow 30 = .ok (.istore 5, 2) := by decide +kernel
theorem dX10_finishNow_32 : decode cX10_finishNow 32 = .ok (.iload 4, 2) := by decide +kernel
theorem dX10_finishNow_34 : decode cX10_finishNow 34 = .ok (.iconst (-1), 1) := by decide +kernel
theorem dX10_finishNow_35 : decode cX10_finishNow 35 = .ok (.if_icmp .eq 25, 3) := by decide +kernel
theorem dX10_finishNow_38 : decode cX10_finishNow 38 = .ok (.aload_n 0, 1) := by decide +kernel
theorem dX10_finishNow_39 : decode cX10_finishNow 39 = .ok (.iload_n 3, 1) := by decide +kernel
theorem dX10_finishNow_40 : decode cX10_finishNow 40 = .ok (.invokevirtual 334, 3) := by decide +kernel
theorem dX10_finishNow_43 : decode cX10_finishNow 43 = .ok (.ifCond .eq 17, 3) := by decide +kernel
theorem dX10_finishNow_46 : decode cX10_finishNow 46 = .ok (.aload_n 0, 1) := by decide +kernel
theorem dX10_finishNow_47 : decode cX10_finishNow 47 = .ok (.aload_n 0, 1) := by decide +kernel
theorem dX10_finishNow_48 : decode cX10_finishNow 48 = .ok (.iload_n 3, 1) := by decide +kernel
theorem dX10_finishNow_49 : decode cX10_finishNow 49 = .ok (.invokevirtual 331, 3) := by decide +kernel
theorem dX10_finishNow_52 : decode cX10_finishNow 52 = .ok (.iload 4, 2) := by decide +kernel
theorem dX10_finishNow_54 : decode cX10_finishNow 54 = .ok (.invokevirtual 322, 3) := by decide +kernel
theorem dX10_finishNow_57 : decode cX10_finishNow 57 = .ok (.goto 15, 3) := by decide +kernel
theorem dX10_finishNow_60 : decode cX10_finishNow 60 = .ok (.iload 4, 2) := by decide +kernel
theorem dX10_finishNow_62 : decode cX10_finishNow 62 = .ok (.iconst (-1), 1) := by decide +kernel
theorem dX10_finishNow_63 : decode cX10_finishNow 63 = .ok (.if_icmp .eq 9, 3) := by decide +kernel
theorem dX10_finishNow_66 : decode cX10_finishNow 66 = .ok (.aload_n 0, 1) := by decide +kernel
theorem dX10_finishNow_67 : decode cX10_finishNow 67 = .ok (.iload 4, 2) := by decide +kernel
theorem dX10_finishNow_69 : decode cX10_finishNow 69 = .ok (.invokevirtual 415, 3) := by decide +kernel
theorem dX10_finishNow_72 : decode cX10_finishNow 72 = .ok (.aload_n 0, 1) := by decide +kernel
theorem dX10_finishNow_73 : decode cX10_finishNow 73 = .ok (.getfield 7, 3) := by decide +kernel
theorem dX10_finishNow_76 : decode cX10_finishNow 76 = .ok (.bipush 35, 2) := by decide +kernel
theorem dX10_finishNow_78 : decode cX10_finishNow 78 = .ok (.iload_n 1, 1) := by decide +kernel
theorem dX10_finishNow_79 : decode cX10_finishNow 79 = .ok (.iadd, 1) := by decide +kernel
theorem dX10_finishNow_80 : decode cX10_finishNow 80 = .ok (.iconst (-1), 1) := by decide +kernel
theorem dX10_finishNow_81 : decode cX10_finishNow 81 = .ok (.iastore, 1) := by decide +kernel
theorem dX10_finishNow_82 : decode cX10_finishNow 82 = .ok (.aload_n 0, 1) := by decide +kernel
theorem dX10_finishNow_83 : decode cX10_finishNow 83 = .ok (.getfield 7, 3) := by decide +kernel
theorem dX10_finishNow_86 : decode cX10_finishNow 86 = .ok (.bipush 37, 2) := by decide +kernel
theorem dX10_finishNow_88 : decode cX10_finishNow 88 = .ok (.iload_n 1, 1) := by decide +kernel
theorem dX10_finishNow_89 : decode cX10_finishNow 89 = .ok (.iadd, 1) := by decide +kernel
theorem dX10_finishNow_90 : decode cX10_finishNow 90 = .ok (.iconst 0, 1) := by decide +kernel
theorem dX10_finishNow_91 : decode cX10_finishNow 91 = .ok (.iastore, 1) := by decide +kernel
theorem dX10_finishNow_92 : decode cX10_finishNow 92 = .ok (.aload_n 0, 1) := by decide +kernel
theorem dX10_finishNow_93 : decode cX10_finishNow 93 = .ok (.getfield 7, 3) := by decide +kernel
theorem dX10_finishNow_96 : decode cX10_finishNow 96 = .ok (.bipush 39, 2) := by decide +kernel
theorem dX10_finishNow_98 : decode cX10_finishNow 98 = .ok (.iload_n 1, 1) := by decide +kernel
theorem dX10_finishNow_99 : decode cX10_finishNow 99 = .ok (.iadd, 1) := by decide +kernel
theorem dX10_finishNow_100 : decode cX10_finishNow 100 = .ok (.iconst 0, 1) := by decide +kernel
theorem dX10_finishNow_101 : decode cX10_finishNow 101 = .ok (.iastore, 1) := by decide +kernel
theorem dX10_finishNow_102 : decode cX10_finishNow 102 = .ok (.aload_n 0, 1) := by decide +kernel
theorem dX10_finishNow_103 : decode cX10_finishNow 103 = .ok (.iload_n 3, 1) := by decide +kernel
theorem dX10_finishNow_104 : decode cX10_finishNow 104 = .ok (.invokevirtual 343, 3) := by decide +kernel
theorem dX10_finishNow_107 : decode cX10_finishNow 107 = .ok (.istore 6, 2) := by decide +kernel
theorem dX10_finishNow_109 : decode cX10_finishNow 109 = .ok (.aload_n 0, 1) := by decide +kernel
theorem dX10_finishNow_110 : decode cX10_finishNow 110 = .ok (.getfield 7, 3) := by decide +kernel
theorem dX10_finishNow_113 : decode cX10_finishNow 113 = .ok (.bipush 41, 2) := by decide +kernel
theorem dX10_finishNow_115 : decode cX10_finishNow 115 = .ok (.iload 5, 2) := by decide +kernel
theorem dX10_finishNow_117 : decode cX10_finishNow 117 = .ok (.iadd, 1) := by decide +kernel
theorem dX10_finishNow_118 : decode cX10_finishNow 118 = .ok (.iaload, 1) := by decide +kernel
theorem dX10_finishNow_119 : decode cX10_finishNow 119 = .ok (.iload_n 3, 1) := by decide +kernel
theorem dX10_finishNow_120 : decode cX10_finishNow 120 = .ok (.if_icmp .ne 28, 3) := by decide +kernel
theorem dX10_finishNow_123 : decode cX10_finishNow 123 = .ok (.iload 6, 2) := by decide +kernel
theorem dX10_finishNow_125 : decode cX10_finishNow 125 = .ok (.iload_n 3, 1) := by decide +kernel
theorem dX10_finishNow_126 : decode cX10_finishNow 126 = .ok (.if_icmp .eq 22, 3) := by decide +kernel
theorem dX10_finishNow_129 : decode cX10_finishNow 129 = .ok (.aload_n 0, 1) := by decide +kernel
theorem dX10_finishNow_130 : decode cX10_finishNow 130 = .ok (.getfield 7, 3) := by decide +kernel
theorem dX10_finishNow_133 : decode cX10_finishNow 133 = .ok (.bipush 41, 2) := by decide +kernel
theorem dX10_finishNow_135 : decode cX10_finishNow 135 = .ok (.iload 5, 2) := by decide +kernel
theorem dX10_finishNow_137 : decode cX10_finishNow 137 = .ok (.iadd, 1) := by decide +kernel
theorem dX10_finishNow_138 : decode cX10_finishNow 138 = .ok (.iload 6, 2) := by decide +kernel
theorem dX10_finishNow_140 : decode cX10_finishNow 140 = .ok (.iastore, 1) := by decide +kernel
theorem dX10_finishNow_141 : decode cX10_finishNow 141 = .ok (.aload_n 0, 1) := by decide +kernel
theorem dX10_finishNow_142 : decode cX10_finishNow 142 = .ok (.iconst 5, 1) := by decide +kernel
theorem dX10_finishNow_143 : decode cX10_finishNow 143 = .ok (.iload 5, 2) := by decide +kernel
theorem dX10_finishNow_145 : decode cX10_finishNow 145 = .ok (.invokevirtual 313, 3) := by decide +kernel
theorem dX10_finishNow_148 : decode cX10_finishNow 148 = .ok (.aload_n 0, 1) := by decide +kernel
theorem dX10_finishNow_149 : decode cX10_finishNow 149 = .ok (.getfield 7, 3) := by decide +kernel
theorem dX10_finishNow_152 : decode cX10_finishNow 152 = .ok (.bipush 29, 2) := by decide +kernel
theorem dX10_finishNow_154 : decode cX10_finishNow 154 = .ok (.iload_n 2, 1) := by decide +kernel
theorem dX10_finishNow_155 : decode cX10_finishNow 155 = .ok (.iadd, 1) := by decide +kernel
theorem dX10_finishNow_156 : decode cX10_finishNow 156 = .ok (.iload 6, 2) := by decide +kernel
theorem dX10_finishNow_158 : decode cX10_finishNow 158 = .ok (.iastore, 1) := by decide +kernel
theorem dX10_finishNow_159 : decode cX10_finishNow 159 = .ok (.iload 6, 2) := by decide +kernel
theorem dX10_finishNow_161 : decode cX10_finishNow 161 = .ok (.ireturn, 1) := by decide +kernel
def f_X10_finishNow (M : xm) (a1 : Int32) (a2 : Int32) : Option (Int32 × xm) := if xin ((37 : Int32) + a1) 9878 = true then xlet (M 1 (Int32.toNatClampNeg ((37 : Int32) + a1))) (fun v2 => if xin ((39 : Int32) + a1) 9878 = true then xlet (M 1 (Int32.toNatClampNeg ((39 : Int32) + a1))) (fun v4 => if xin ((35 : Int32) + a1) 9878 = true then xlet (M 1 (Int32.toNatClampNeg ((35 : Int32) + a1))) (fun v6 => xlet (fun (M7 : xm) => xlet (up2 M7 1 (Int32.toNatClampNeg ((35 : Int32) + a1)) (-1 : Int32)) (fun M9 => xlet (up2 M9 1 (Int32.toNatClampNeg ((37 : Int32) + a1)) (0 : Int32)) (fun M10 => xlet (up2 M10 1 (Int32.toNatClampNeg ((39 : Int32) + a1)) (0 : Int32)) (fun M11 => xb2 (f_X10_mended M11 v2) (fun v13 M14 => if xin ((41 : Int32) + v6) 9878 = true then (if (M14 1 (Int32.toNatClampNeg ((41 : Int32) + v6))) = v2 then (if v13 = v2 then if xin ((29 : Int32) + a2) 9878 = true then xlet (up2 M14 1 (Int32.toNatClampNeg ((29 : Int32) + a2)) v13) (fun M22 => some (v13, M22)) else none else xlet (up2 M14 1 (Int32.toNatClampNeg ((41 : Int32) + v6)) v13) (fun M23 => xb1 (f_X10_write M23 (5 : Int32) v6) (fun M25 => if xin ((29 : Int32) + a2) 9878 = true then xlet (up2 M25 1 (Int32.toNatClampNeg ((29 : Int32) + a2)) v13) (fun M28 => some (v13, M28)) else none))) else if xin ((29 : Int32) + a2) 9878 = true then xlet (up2 M14 1 (Int32.toNatClampNeg ((29 : Int32) + a2)) v13) (fun M19 => some (v13, M19)) else none) else none))))) (fun k8 => xlet ((if v4 = (-1 : Int32) then (k8 M) else xb1 (f_X10_leaveCopy M v4) (fun M32 => (k8 M32)))) (fun k29 => (if v4 = (-1 : Int32) then k29 else xb1 (f_X10_needsMove M v2) (fun v36 => (if v36 = 0 then k29 else xb1 (f_X10_whereOf M v2) (fun v40 => xb1 (f_X10_tellForward M v40 v4) (fun M43 => (k8 M43))))))))) else none) else none) else none
set_option maxHeartbeats 4000000 in
set_option maxRecDepth 20000 in
theorem c_X10_finishNow (l : Launch) (E : xE) (b : Nat) (M : xm) (Lm : xn) (a1 : Int32) (a2 : Int32) {r : Int32} {M' : xm} (hf : f_X10_finishNow M a1 a2 = some (r, M')) :
    xMet l E b NY yX10_finishNow cX10_finishNow 7 (some .int) (xR 6) [.ref (b + 0), .int a1, .int a2] (cY E b M Lm) (some (.int r)) True (cY E b M' Lm) := by
  refine xMet.ofW (own := RX10) (by decide) rfl (Nat.le_of_ble_eq_true rfl) ?_
  intro p e s m below meth c H locs ls C hm hl
  have hx := C.1.1
  have hb := C.1.2.1
  have hl : lv_has ls 7 [(0, .ref (b + 0)), (1, .int a1), (2, .int a2)] := hl
  unfold f_X10_finishNow at hf
  refine lv_aload_n hx hb dX10_finishNow_0 rfl (lv_at hl 0 rfl) ?_
  refine x_get C hm inX10 rfl 0 (by decide) tf_RX10_7 cy_0 rfl dX10_finishNow_1 ?_
  refine lv_bipush (v := (37 : Int32)) hx hb dX10_finishNow_4 (by decide) ?_
  refine lv_iload_n hx hb dX10_finishNow_6 rfl (lv_at hl 1 rfl) ?_
  refine lv_iadd hx hb dX10_finishNow_7 ?_
  obtain ⟨hi1, hf⟩ := xif_s hf
  refine x_iald (j := (Int32.toNatClampNeg ((37 : Int32) + a1))) C hm cy_1 hi1 dX10_finishNow_8 rfl ?_
  refine lv_topi (fun v2 ev2 => ?_)
  have hf := xlet_e ev2 hf
  refine lv_istore_n (lv' := [(3, .int v2), (0, .ref (b + 0)), (1, .int a1), (2, .int a2)]) hx hb dX10_finishNow_9 rfl hl (by decide) rfl (fun ls hl => ?_)
  refine lv_aload_n hx hb dX10_finishNow_10 rfl (lv_at hl 1 rfl) ?_
  refine x_get C hm inX10 rfl 0 (by decide) tf_RX10_7 cy_0 rfl dX10_finishNow_11 ?_
  refine lv_bipush (v := (39 : Int32)) hx hb dX10_finishNow_14 (by decide) ?_
  refine lv_iload_n hx hb dX10_finishNow_16 rfl (lv_at hl 2 rfl) ?_
  refine lv_iadd hx hb dX10_finishNow_17 ?_
  obtain ⟨hi3, hf⟩ := xif_s hf
  refine x_iald (j := (Int32.toNatClampNeg ((39 : Int32) + a1))) C hm cy_1 hi3 dX10_finishNow_18 rfl ?_
  refine lv_topi (fun v4 ev4 => ?_)
  have hf := xlet_e ev4 hf
  refine lv_istore (lv' := [(4, .int v4), (3, .int v2), (0, .ref (b + 0)), (1, .int a1), (2, .int a2)]) hx hb dX10_finishNow_19 hl (by decide) rfl (fun ls hl => ?_)
  refine lv_aload_n hx hb dX10_finishNow_21 rfl (lv_at hl 2 rfl) ?_
  refine x_get C hm inX10 rfl 0 (by decide) tf_RX10_7 cy_0 rfl dX10_finishNow_22 ?_
  refine lv_bipush (v := (35 : Int32)) hx hb dX10_finishNow_25 (by decide) ?_
  refine lv_iload_n hx hb dX10_finishNow_27 rfl (lv_at hl 3 rfl) ?_
  refine lv_iadd hx hb dX10_finishNow_28 ?_
  obtain ⟨hi5, hf⟩ := xif_s hf
  refine x_iald (j := (Int32.toNatClampNeg ((35 : Int32) + a1))) C hm cy_1 hi5 dX10_finishNow_29 rfl ?_
  refine lv_topi (fun v6 ev6 => ?_)
  have hf := xlet_e ev6 hf
  refine lv_istore (lv' := [(5, .int v6), (4, .int v4), (3, .int v2), (0, .ref (b + 0)), (1, .int a1), (2, .int a2)]) hx hb dX10_finishNow_30 hl (by decide) rfl (fun ls hl => ?_)
  refine lv_iload hx hb dX10_finishNow_32 (lv_at hl 1 rfl) ?_
  refine lv_iconst (v := (-1 : Int32)) hx hb dX10_finishNow_34 (by decide) ?_
  obtain ⟨k8, ek8, hf⟩ := xlet_x hf
  have jk8 : ∀ (M7 : xm) (H : Heap) (locs : List Loc) (ls : Array Slot), k8 M7 = some (r, M') → xM E b NY (cY E b M7 Lm) s.heap H locs → lv_has ls 7 [(0, .ref (b + 0)), (1, .int a1), (2, .int a2), (3, .int v2), (5, .int v6)] → W p l e (xR 6) s m ([.ref (b + 0), .int a1, .int a2] : List Value).toArray below meth c H locs 0 0 (MQ below (xQ E b NY (some (.int r)) True (cY E b M' Lm)) ([.ref (b + 0), .int a1, .int a2] : List Value).toArray s 0 0 (xA b NY)) (F0 m 72 ls []) := by
    intro M7 H locs ls hf hm hl
    have hf := xap1 ek8 hf
    refine lv_aload_n hx hb dX10_finishNow_72 rfl (lv_at hl 0 rfl) ?_
    refine x_get C hm inX10 rfl 0 (by decide) tf_RX10_7 cy_0 rfl dX10_finishNow_73 ?_
    refine lv_bipush (v := (35 : Int32)) hx hb dX10_finishNow_76 (by decide) ?_
    refine lv_iload_n hx hb dX10_finishNow_78 rfl (lv_at hl 1 rfl) ?_
    refine lv_iadd hx hb dX10_finishNow_79 ?_
    refine lv_iconst (v := (-1 : Int32)) hx hb dX10_finishNow_80 (by decide) ?_
    obtain ⟨M9, eM9, hf⟩ := xlet_x hf
    refine x_iast (j := (Int32.toNatClampNeg ((35 : Int32) + a1))) (cf' := cY E b M9 Lm) C hm cy_1 hi5 dX10_finishNow_81 rfl (by rw [eM9]; exact cyu_1) (by rw [eM9]; exact cY_o) (fun H locs hm => ?_)
    refine lv_aload_n hx hb dX10_finishNow_82 rfl (lv_at hl 0 rfl) ?_
    refine x_get C hm inX10 rfl 0 (by decide) tf_RX10_7 cy_0 rfl dX10_finishNow_83 ?_
    refine lv_bipush (v := (37 : Int32)) hx hb dX10_finishNow_86 (by decide) ?_
    refine lv_iload_n hx hb dX10_finishNow_88 rfl (lv_at hl 1 rfl) ?_
    refine lv_iadd hx hb dX10_finishNow_89 ?_
    refine lv_iconst (v := (0 : Int32)) hx hb dX10_finishNow_90 (by decide) ?_
    obtain ⟨M10, eM10, hf⟩ := xlet_x hf
    refine x_iast (j := (Int32.toNatClampNeg ((37 : Int32) + a1))) (cf' := cY E b M10 Lm) C hm cy_1 hi1 dX10_finishNow_91 rfl (by rw [eM10]; exact cyu_1) (by rw [eM10]; exact cY_o) (fun H locs hm => ?_)
    refine lv_aload_n hx hb dX10_finishNow_92 rfl (lv_at hl 0 rfl) ?_
    refine x_get C hm inX10 rfl 0 (by decide) tf_RX10_7 cy_0 rfl dX10_finishNow_93 ?_
    refine lv_bipush (v := (39 : Int32)) hx hb dX10_finishNow_96 (by decide) ?_
    refine lv_iload_n hx hb dX10_finishNow_98 rfl (lv_at hl 1 rfl) ?_
    refine lv_iadd hx hb dX10_finishNow_99 ?_
    refine lv_iconst (v := (0 : Int32)) hx hb dX10_finishNow_100 (by decide) ?_
    obtain ⟨M11, eM11, hf⟩ := xlet_x hf
    refine x_iast (j := (Int32.toNatClampNeg ((39 : Int32) + a1))) (cf' := cY E b M11 Lm) C hm cy_1 hi3 dX10_finishNow_101 rfl (by rw [eM11]; exact cyu_1) (by rw [eM11]; exact cY_o) (fun H locs hm => ?_)
    refine lv_aload_n hx hb dX10_finishNow_102 rfl (lv_at hl 0 rfl) ?_
    refine lv_iload_n hx hb dX10_finishNow_103 rfl (lv_at hl 3 rfl) ?_
    obtain ⟨v13, M14, hq12, hf⟩ := xb2_e hf
    refine x_callVi (As := [.int v2]) (rest := []) C hm (c_X10_mended l E b M11 Lm v2 hq12) rfl cy_0 tc_X10_mended tm_RX10_343 ti_X10_mended ts_X10_mended tn_RX10 td_X10_mended rfl rfl ⟨Nat.le_of_ble_eq_true rfl, Nat.le_of_ble_eq_true rfl⟩ rfl hl.1 rfl (Nat.le_of_ble_eq_true rfl) ⟨Nat.zero_le _, Nat.zero_le _⟩ dX10_finishNow_104 (fun H locs hP15 hm => ?_)
    refine lv_istore (lv' := [(6, .int v13), (0, .ref (b + 0)), (1, .int a1), (2, .int a2), (3, .int v2), (5, .int v6)]) hx hb dX10_finishNow_107 hl (by decide) rfl (fun ls hl => ?_)
    refine lv_aload_n hx hb dX10_finishNow_109 rfl (lv_at hl 1 rfl) ?_
    refine x_get C hm inX10 rfl 0 (by decide) tf_RX10_7 cy_0 rfl dX10_finishNow_110 ?_
    refine lv_bipush (v := (41 : Int32)) hx hb dX10_finishNow_113 (by decide) ?_
    refine lv_iload hx hb dX10_finishNow_115 (lv_at hl 5 rfl) ?_
    refine lv_iadd hx hb dX10_finishNow_117 ?_
    obtain ⟨hi16, hf⟩ := xif_s hf
    refine x_iald (j := (Int32.toNatClampNeg ((41 : Int32) + v6))) C hm cy_1 hi16 dX10_finishNow_118 rfl ?_
    refine lv_iload_n hx hb dX10_finishNow_119 rfl (lv_at hl 4 rfl) ?_
    refine lv_icmp_ne (tgt := 148) hx hb dX10_finishNow_120 (by decide) (fun hc17 => ?_) (fun hc17 => ?_)
    · have hf := xif_f hc17 hf
      refine lv_aload_n hx hb dX10_finishNow_148 rfl (lv_at hl 1 rfl) ?_
      refine x_get C hm inX10 rfl 0 (by decide) tf_RX10_7 cy_0 rfl dX10_finishNow_149 ?_
      refine lv_bipush (v := (29 : Int32)) hx hb dX10_finishNow_152 (by decide) ?_
      refine lv_iload_n hx hb dX10_finishNow_154 rfl (lv_at hl 3 rfl) ?_
      refine lv_iadd hx hb dX10_finishNow_155 ?_
      refine lv_iload hx hb dX10_finishNow_156 (lv_at hl 0 rfl) ?_
      obtain ⟨hi18, hf⟩ := xif_s hf
      obtain ⟨M19, eM19, hf⟩ := xlet_x hf
      refine x_iast (j := (Int32.toNatClampNeg ((29 : Int32) + a2))) (cf' := cY E b M19 Lm) C hm cy_1 hi18 dX10_finishNow_158 rfl (by rw [eM19]; exact cyu_1) (by rw [eM19]; exact cY_o) (fun H locs hm => ?_)
      refine lv_iload hx hb dX10_finishNow_159 (lv_at hl 0 rfl) ?_
      cases hf
      exact x_iret C hm trivial dX10_finishNow_161
    have hf := xif_t hc17 hf
    refine lv_iload hx hb dX10_finishNow_123 (lv_at hl 0 rfl) ?_
    refine lv_iload_n hx hb dX10_finishNow_125 rfl (lv_at hl 4 rfl) ?_
    refine lv_icmp_eq (tgt := 148) hx hb dX10_finishNow_126 (by decide) (fun hc20 => ?_) (fun hc20 => ?_)
    · have hf := xif_t hc20 hf
      refine lv_aload_n hx hb dX10_finishNow_148 rfl (lv_at hl 1 rfl) ?_
      refine x_get C hm inX10 rfl 0 (by decide) tf_RX10_7 cy_0 rfl dX10_finishNow_149 ?_
      refine lv_bipush (v := (29 : Int32)) hx hb dX10_finishNow_152 (by decide) ?_
      refine lv_iload_n hx hb dX10_finishNow_154 rfl (lv_at hl 3 rfl) ?_
      refine lv_iadd hx hb dX10_finishNow_155 ?_
      refine lv_iload hx hb dX10_finishNow_156 (lv_at hl 0 rfl) ?_
      obtain ⟨hi21, hf⟩ := xif_s hf
      obtain ⟨M22, eM22, hf⟩ := xlet_x hf
      refine x_iast (j := (Int32.toNatClampNeg ((29 : Int32) + a2))) (cf' := cY E b M22 Lm) C hm cy_1 hi21 dX10_finishNow_158 rfl (by rw [eM22]; exact cyu_1) (by rw [eM22]; exact cY_o) (fun H locs hm => ?_)
      refine lv_iload hx hb dX10_finishNow_159 (lv_at hl 0 rfl) ?_
      cases hf
      exact x_iret C hm trivial dX10_finishNow_161
    have hf := xif_f hc20 hf
    refine lv_aload_n hx hb dX10_finishNow_129 rfl (lv_at hl 1 rfl) ?_
    refine x_get C hm inX10 rfl 0 (by decide) tf_RX10_7 cy_0 rfl dX10_finishNow_130 ?_
    refine lv_bipush (v := (41 : Int32)) hx hb dX10_finishNow_133 (by decide) ?_
    refine lv_iload hx hb dX10_finishNow_135 (lv_at hl 5 rfl) ?_
    refine lv_iadd hx hb dX10_finishNow_137 ?_
    refine lv_iload hx hb dX10_finishNow_138 (lv_at hl 0 rfl) ?_
    obtain ⟨M23, eM23, hf⟩ := xlet_x hf
    refine x_iast (j := (Int32.toNatClampNeg ((41 : Int32) + v6))) (cf' := cY E b M23 Lm) C hm cy_1 hi16 dX10_finishNow_140 rfl (by rw [eM23]; exact cyu_1) (by rw [eM23]; exact cY_o) (fun H locs hm => ?_)
    refine lv_aload_n hx hb dX10_finishNow_141 rfl (lv_at hl 1 rfl) ?_
    refine lv_iconst (v := (5 : Int32)) hx hb dX10_finishNow_142 (by decide) ?_
    refine lv_iload hx hb dX10_finishNow_143 (lv_at hl 5 rfl) ?_
    obtain ⟨M25, hq24, hf⟩ := xb1_e hf
    refine x_callVv (As := [.int (5 : Int32), .int v6]) (rest := []) C hm (c_X10_write l E b M23 Lm (5 : Int32) v6 hq24) rfl cy_0 tc_X10_write tm_RX10_313 ti_X10_write ts_X10_write tn_RX10 td_X10_write rfl rfl ⟨Nat.le_of_ble_eq_true rfl, Nat.le_of_ble_eq_true rfl⟩ rfl hl.1 rfl (Nat.le_of_ble_eq_true rfl) ⟨Nat.zero_le _, Nat.zero_le _⟩ dX10_finishNow_145 (fun H locs hP26 hm => ?_)
    refine lv_aload_n hx hb dX10_finishNow_148 rfl (lv_at hl 1 rfl) ?_
    refine x_get C hm inX10 rfl 0 (by decide) tf_RX10_7 cy_0 rfl dX10_finishNow_149 ?_
    refine lv_bipush (v := (29 : Int32)) hx hb dX10_finishNow_152 (by decide) ?_
    refine lv_iload_n hx hb dX10_finishNow_154 rfl (lv_at hl 3 rfl) ?_
    refine lv_iadd hx hb dX10_finishNow_155 ?_
    refine lv_iload hx hb dX10_finishNow_156 (lv_at hl 0 rfl) ?_
    obtain ⟨hi27, hf⟩ := xif_s hf
    obtain ⟨M28, eM28, hf⟩ := xlet_x hf
    refine x_iast (j := (Int32.toNatClampNeg ((29 : Int32) + a2))) (cf' := cY E b M28 Lm) C hm cy_1 hi27 dX10_finishNow_158 rfl (by rw [eM28]; exact cyu_1) (by rw [eM28]; exact cY_o) (fun H locs hm => ?_)
    refine lv_iload hx hb dX10_finishNow_159 (lv_at hl 0 rfl) ?_
    cases hf
    exact x_iret C hm trivial dX10_finishNow_161
  obtain ⟨k29, ek29, hf⟩ := xlet_x hf
  have jk29 : ∀  (H : Heap) (locs : List Loc) (ls : Array Slot), k29 = some (r, M') → xM E b NY (cY E b M Lm) s.heap H locs → lv_has ls 7 [(0, .ref (b + 0)), (1, .int a1), (2, .int a2), (3, .int v2), (4, .int v4), (5, .int v6)] → W p l e (xR 6) s m ([.ref (b + 0), .int a1, .int a2] : List Value).toArray below meth c H locs 0 0 (MQ below (xQ E b NY (some (.int r)) True (cY E b M' Lm)) ([.ref (b + 0), .int a1, .int a2] : List Value).toArray s 0 0 (xA b NY)) (F0 m 60 ls []) := by
    intro  H locs ls hf hm hl
    have hf := xap0 ek29 hf
    refine lv_iload hx hb dX10_finishNow_60 (lv_at hl 4 rfl) ?_
    refine lv_iconst (v := (-1 : Int32)) hx hb dX10_finishNow_62 (by decide) ?_
    refine lv_icmp_eq (tgt := 72) hx hb dX10_finishNow_63 (by decide) (fun hc30 => ?_) (fun hc30 => ?_)
    · have hf := xif_t hc30 hf
      exact jk8 M H locs ls  hf hm (lv_sub hl [0, 1, 2, 3, 5] rfl)
    have hf := xif_f hc30 hf
    refine lv_aload_n hx hb dX10_finishNow_66 rfl (lv_at hl 0 rfl) ?_
    refine lv_iload hx hb dX10_finishNow_67 (lv_at hl 4 rfl) ?_
    obtain ⟨M32, hq31, hf⟩ := xb1_e hf
    refine x_callVv (As := [.int v4]) (rest := []) C hm (c_X10_leaveCopy l E b M Lm v4 hq31) rfl cy_0 tc_X10_leaveCopy tm_RX10_415 ti_X10_leaveCopy ts_X10_leaveCopy tn_RX10 td_X10_leaveCopy rfl rfl ⟨Nat.le_of_ble_eq_true rfl, Nat.le_of_ble_eq_true rfl⟩ rfl hl.1 rfl (Nat.le_of_ble_eq_true rfl) ⟨Nat.zero_le _, Nat.zero_le _⟩ dX10_finishNow_69 (fun H locs hP33 hm => ?_)
    exact jk8 M32 H locs ls  hf hm (lv_sub hl [0, 1, 2, 3, 5] rfl)
  refine lv_icmp_eq (tgt := 60) hx hb dX10_finishNow_35 (by decide) (fun hc34 => ?_) (fun hc34 => ?_)
  · have hf := xif_t hc34 hf
    exact jk29  H locs ls  hf hm (lv_sub hl [3, 4, 5, 2, 1, 0] rfl)
  have hf := xif_f hc34 hf
  refine lv_aload_n hx hb dX10_finishNow_38 rfl (lv_at hl 3 rfl) ?_
  refine lv_iload_n hx hb dX10_finishNow_39 rfl (lv_at hl 2 rfl) ?_
  obtain ⟨v36, hq35, hf⟩ := xb1_e hf
  refine x_callVi (As := [.int v2]) (rest := []) C hm (c_X10_needsMove l E b M Lm v2 hq35) rfl cy_0 tc_X10_needsMove tm_RX10_334 ti_X10_needsMove ts_X10_needsMove tn_RX10 td_X10_needsMove rfl rfl ⟨Nat.le_of_ble_eq_true rfl, Nat.le_of_ble_eq_true rfl⟩ rfl hl.1 rfl (Nat.le_of_ble_eq_true rfl) ⟨Nat.zero_le _, Nat.zero_le _⟩ dX10_finishNow_40 (fun H locs hP37 hm => ?_)
  refine lv_if_eq (tgt := 60) hx hb dX10_finishNow_43 (by decide) (fun hc38 => ?_) (fun hc38 => ?_)
  · have hf := xif_t hc38 hf
    exact jk29  H locs ls  hf hm (lv_sub hl [3, 4, 5, 2, 1, 0] rfl)
  have hf := xif_f hc38 hf
  refine lv_aload_n hx hb dX10_finishNow_46 rfl (lv_at hl 3 rfl) ?_
  refine lv_aload_n hx hb dX10_finishNow_47 rfl (lv_at hl 3 rfl) ?_
  refine lv_iload_n hx hb dX10_finishNow_48 rfl (lv_at hl 2 rfl) ?_
  obtain ⟨v40, hq39, hf⟩ := xb1_e hf
  refine x_callVi (As := [.int v2]) (rest := [.ref (b + 0)]) C hm (c_X10_whereOf l E b M Lm v2 hq39) rfl cy_0 tc_X10_whereOf tm_RX10_331 ti_X10_whereOf ts_X10_whereOf tn_RX10 td_X10_whereOf rfl rfl ⟨Nat.le_of_ble_eq_true rfl, Nat.le_of_ble_eq_true rfl⟩ rfl hl.1 rfl (Nat.le_of_ble_eq_true rfl) ⟨Nat.zero_le _, Nat.zero_le _⟩ dX10_finishNow_49 (fun H locs hP41 hm => ?_)
  refine lv_iload hx hb dX10_finishNow_52 (lv_at hl 1 rfl) ?_
  obtain ⟨M43, hq42, hf⟩ := xb1_e hf
  refine x_callVv (As := [.int v40, .int v4]) (rest := []) C hm (c_X10_tellForward l E b M Lm v40 v4 hq42) rfl cy_0 tc_X10_tellForward tm_RX10_322 ti_X10_tellForward ts_X10_tellForward tn_RX10 td_X10_tellForward rfl rfl ⟨Nat.le_of_ble_eq_true rfl, Nat.le_of_ble_eq_true rfl⟩ rfl hl.1 rfl (Nat.le_of_ble_eq_true rfl) ⟨Nat.zero_le _, Nat.zero_le _⟩ dX10_finishNow_54 (fun H locs hP44 hm => ?_)
  refine lv_goto (tgt := 72) hx hb dX10_finishNow_57 (by decide) ?_
  exact jk8 M43 H locs ls  hf hm (lv_sub hl [3, 4, 5, 2, 0] rfl)
/-! ColouredHeapModel.leadsAlike(II)Z -/
theorem dX10_leadsAlike_0 : decode cX10_leadsAlike 0 = .ok (.aload_n 0, 1) := by decide +kernel
theorem dX10_leadsAlike_1 : decode cX10_leadsAlike 1 = .ok (.getfield 7, 3) := by decide +kernel
theorem dX10_leadsAlike_4 : decode cX10_leadsAlike 4 = .ok (.bipush 29, 2) := by decide +kernel
theorem dX10_leadsAlike_6 : decode cX10_leadsAlike 6 = .ok (.iload_n 1, 1) := by decide +kernel
theorem dX10_leadsAlike_7 : decode cX10_leadsAlike 7 = .ok (.iadd, 1) := by decide +kernel
theorem dX10_leadsAlike_8 : decode cX10_leadsAlike 8 = .ok (.iaload, 1) := by decide +kernel
theorem dX10_leadsAlike_9 : decode cX10_leadsAlike 9 = .ok (.istore_n 3, 1) := by decide +kernel
theorem dX10_leadsAlike_10 : decode cX10_leadsAlike 10 = .ok (.aload_n 0, 1) := by decide +kernel
theorem dX10_leadsAlike_11 : decode cX10_leadsAlike 11 = .ok (.getfield 7, 3) := by decide +kernel
theorem dX10_leadsAlike_14 : decode cX10_leadsAlike 14 = .ok (.bipush 41, 2) := by decide +kernel
theorem dX10_leadsAlike_16 : decode cX10_leadsAlike 16 = .ok (.iload_n 2, 1) := by decide +kernel
theorem dX10_leadsAlike_17 : decode cX10_leadsAlike 17 = .ok (.iadd, 1) := by decide +kernel
theorem dX10_leadsAlike_18 : decode cX10_leadsAlike 18 = .ok (.iaload, 1) := by decide +kernel
theorem dX10_leadsAlike_19 : decode cX10_leadsAlike 19 = .ok (.istore 4, 2) := by decide +kernel
theorem dX10_leadsAlike_21 : decode cX10_leadsAlike 21 = .ok (.iload_n 3, 1) := by decide +kernel
theorem dX10_leadsAlike_22 : decode cX10_leadsAlike 22 = .ok (.iconst (-1), 1) := by decide +kernel
theorem dX10_leadsAlike_23 : decode cX10_leadsAlike 23 = .ok (.if_icmp .eq 8, 3) := by decide +kernel
theorem dX10_leadsAlike_26 : decode cX10_leadsAlike 26 = .ok (.iload 4, 2) := by decide +kernel
theorem dX10_leadsAlike_28 : decode cX10_leadsAlike 28 = .ok (.ifCond .ge 17, 3) := by decide +kernel
theorem dX10_leadsAlike_31 : decode cX10_leadsAlike 31 = .ok (.iload_n 3, 1) := by decide +kernel
theorem dX10_leadsAlike_32 : decode cX10_leadsAlike 32 = .ok (.iload 4, 2) := by decide +kernel
theorem dX10_leadsAlike_34 : decode cX10_leadsAlike 34 = .ok (.if_icmp .ne 7, 3) := by decide +kernel
theorem dX10_leadsAlike_37 : decode cX10_leadsAlike 37 = .ok (.iconst 1, 1) := by decide +kernel
theorem dX10_leadsAlike_38 : decode cX10_leadsAlike 38 = .ok (.goto 26, 3) := by decide +kernel
theorem dX10_leadsAlike_41 : decode cX10_leadsAlike 41 = .ok (.iconst 0, 1) := by decide +kernel
theorem dX10_leadsAlike_42 : decode cX10_leadsAlike 42 = .ok (.goto 22, 3) := by decide +kernel
theorem dX10_leadsAlike_45 : decode cX10_leadsAlike 45 = .ok (.aload_n 0, 1) := by decide +kernel
theorem dX10_leadsAlike_46 : decode cX10_leadsAlike 46 = .ok (.iload_n 3, 1) := by decide +kernel
theorem dX10_leadsAlike_47 : decode cX10_leadsAlike 47 = .ok (.invokevirtual 331, 3) := by decide +kernel
theorem dX10_leadsAlike_50 : decode cX10_leadsAlike 50 = .ok (.aload_n 0, 1) := by decide +kernel
theorem dX10_leadsAlike_51 : decode cX10_leadsAlike 51 = .ok (.iload 4, 2) := by decide +kernel
theorem dX10_leadsAlike_53 : decode cX10_leadsAlike 53 = .ok (.invokevirtual 331, 3) := by decide +kernel
theorem dX10_leadsAlike_56 : decode cX10_leadsAlike 56 = .ok (.if_icmp .ne 7, 3) := by decide +kernel
theorem dX10_leadsAlike_59 : decode cX10_leadsAlike 59 = .ok (.iconst 1, 1) := by decide +kernel
theorem dX10_leadsAlike_60 : decode cX10_leadsAlike 60 = .ok (.goto 4, 3) := by decide +kernel
theorem dX10_leadsAlike_63 : decode cX10_leadsAlike 63 = .ok (.iconst 0, 1) := by decide +kernel
theorem dX10_leadsAlike_64 : decode cX10_leadsAlike 64 = .ok (.ireturn, 1) := by decide +kernel
def f_X10_leadsAlike (M : xm) (a1 : Int32) (a2 : Int32) : Option (Int32) := if xin ((29 : Int32) + a1) 9878 = true then xlet (M 1 (Int32.toNatClampNeg ((29 : Int32) + a1))) (fun v2 => if xin ((41 : Int32) + a2) 9878 = true then xlet (M 1 (Int32.toNatClampNeg ((41 : Int32) + a2))) (fun v4 => xlet ((if v2 = v4 then some (1 : Int32) else some (0 : Int32))) (fun k5 => (if v2 = (-1 : Int32) then k5 else (if 0 ≤ v4 then xb1 (f_X10_whereOf M v2) (fun v10 => xb1 (f_X10_whereOf M v4) (fun v13 => (if v10 = v13 then some (1 : Int32) else some (0 : Int32)))) else k5)))) else none) else none
set_option maxHeartbeats 4000000 in
set_option maxRecDepth 20000 in
theorem c_X10_leadsAlike (l : Launch) (E : xE) (b : Nat) (M : xm) (Lm : xn) (a1 : Int32) (a2 : Int32) {r : Int32} (hf : f_X10_leadsAlike M a1 a2 = some r) :
    xMet l E b NY yX10_leadsAlike cX10_leadsAlike 5 (some .boolean) (xR 3) [.ref (b + 0), .int a1, .int a2] (cY E b M Lm) (some (.int r)) (xbo r = true) (cY E b M Lm) := by
  refine xMet.ofW (own := RX10) (by decide) rfl (Nat.le_of_ble_eq_true rfl) ?_
  intro p e s m below meth c H locs ls C hm hl
  have hx := C.1.1
  have hb := C.1.2.1
  have hl : lv_has ls 5 [(0, .ref (b + 0)), (1, .int a1), (2, .int a2)] := hl
  unfold f_X10_leadsAlike at hf
  refine lv_aload_n hx hb dX10_leadsAlike_0 rfl (lv_at hl 0 rfl) ?_
  refine x_get C hm inX10 rfl 0 (by decide) tf_RX10_7 cy_0 rfl dX10_leadsAlike_1 ?_
  refine lv_bipush (v := (29 : Int32)) hx hb dX10_leadsAlike_4 (by decide) ?_
  refine lv_iload_n hx hb dX10_leadsAlike_6 rfl (lv_at hl 1 rfl) ?_
  refine lv_iadd hx hb dX10_leadsAlike_7 ?_
  obtain ⟨hi1, hf⟩ := xif_s hf
  refine x_iald (j := (Int32.toNatClampNeg ((29 : Int32) + a1))) C hm cy_1 hi1 dX10_leadsAlike_8 rfl ?_
  refine lv_topi (fun v2 ev2 => ?_)
  have hf := xlet_e ev2 hf
  refine lv_istore_n (lv' := [(3, .int v2), (0, .ref (b + 0)), (1, .int a1), (2, .int a2)]) hx hb dX10_leadsAlike_9 rfl hl (by decide) rfl (fun ls hl => ?_)
  refine lv_aload_n hx hb dX10_leadsAlike_10 rfl (lv_at hl 1 rfl) ?_
  refine x_get C hm inX10 rfl 0 (by decide) tf_RX10_7 cy_0 rfl dX10_leadsAlike_11 ?_
  refine lv_bipush (v := (41 : Int32)) hx hb dX10_leadsAlike_14 (by decide) ?_
  refine lv_iload_n hx hb dX10_leadsAlike_16 rfl (lv_at hl 3 rfl) ?_
  refine lv_iadd hx hb dX10_leadsAlike_17 ?_
  obtain ⟨hi3, hf⟩ := xif_s hf
  refine x_iald (j := (Int32.toNatClampNeg ((41 : Int32) + a2))) C hm cy_1 hi3 dX10_leadsAlike_18 rfl ?_
  refine lv_topi (fun v4 ev4 => ?_)
  have hf := xlet_e ev4 hf
  refine lv_istore (lv' := [(4, .int v4), (3, .int v2), (0, .ref (b + 0)), (1, .int a1), (2, .int a2)]) hx hb dX10_leadsAlike_19 hl (by decide) rfl (fun ls hl => ?_)
  refine lv_iload_n hx hb dX10_leadsAlike_21 rfl (lv_at hl 1 rfl) ?_
  refine lv_iconst (v := (-1 : Int32)) hx hb dX10_leadsAlike_22 (by decide) ?_
  obtain ⟨k5, ek5, hf⟩ := xlet_x hf
  have jk5 : ∀  (H : Heap) (locs : List Loc) (ls : Array Slot), k5 = some r → xM E b NY (cY E b M Lm) s.heap H locs → lv_has ls 5 [(3, .int v2), (4, .int v4)] → W p l e (xR 3) s m ([.ref (b + 0), .int a1, .int a2] : List Value).toArray below meth c H locs 0 0 (MQ below (xQ E b NY (some (.int r)) (xbo r = true) (cY E b M Lm)) ([.ref (b + 0), .int a1, .int a2] : List Value).toArray s 0 0 (xA b NY)) (F0 m 31 ls []) := by
    intro  H locs ls hf hm hl
    have hf := xap0 ek5 hf
    refine lv_iload_n hx hb dX10_leadsAlike_31 rfl (lv_at hl 0 rfl) ?_
    refine lv_iload hx hb dX10_leadsAlike_32 (lv_at hl 1 rfl) ?_
    refine lv_icmp_ne (tgt := 41) hx hb dX10_leadsAlike_34 (by decide) (fun hc6 => ?_) (fun hc6 => ?_)
    · have hf := xif_f hc6 hf
      refine lv_iconst (v := (0 : Int32)) hx hb dX10_leadsAlike_41 (by decide) ?_
      refine lv_goto (tgt := 64) hx hb dX10_leadsAlike_42 (by decide) ?_
      cases hf
      exact x_zret C hm (by decide) (by decide) dX10_leadsAlike_64
    have hf := xif_t hc6 hf
    refine lv_iconst (v := (1 : Int32)) hx hb dX10_leadsAlike_37 (by decide) ?_
    refine lv_goto (tgt := 64) hx hb dX10_leadsAlike_38 (by decide) ?_
    cases hf
    exact x_zret C hm (by decide) (by decide) dX10_leadsAlike_64
  refine lv_icmp_eq (tgt := 31) hx hb dX10_leadsAlike_23 (by decide) (fun hc7 => ?_) (fun hc7 => ?_)
  · have hf := xif_t hc7 hf
    exact jk5  H locs ls  hf hm (lv_sub hl [1, 0] rfl)
  have hf := xif_f hc7 hf
  refine lv_iload hx hb dX10_leadsAlike_26 (lv_at hl 0 rfl) ?_
  refine lv_if_ge (tgt := 45) hx hb dX10_leadsAlike_28 (by decide) (fun hc8 => ?_) (fun hc8 => ?_)
  rotate_left
  · have hf := xif_f hc8 hf
    exact jk5  H locs ls  hf hm (lv_sub hl [1, 0] rfl)
  have hf := xif_t hc8 hf
  refine lv_aload_n hx hb dX10_leadsAlike_45 rfl (lv_at hl 2 rfl) ?_
  refine lv_iload_n hx hb dX10_leadsAlike_46 rfl (lv_at hl 1 rfl) ?_
  obtain ⟨v10, hq9, hf⟩ := xb1_e hf
  refine x_callVi (As := [.int v2]) (rest := []) C hm (c_X10_whereOf l E b M Lm v2 hq9) rfl cy_0 tc_X10_whereOf tm_RX10_331 ti_X10_whereOf ts_X10_whereOf tn_RX10 td_X10_whereOf rfl rfl ⟨Nat.le_of_ble_eq_true rfl, Nat.le_of_ble_eq_true rfl⟩ rfl hl.1 rfl (Nat.le_of_ble_eq_true rfl) ⟨Nat.zero_le _, Nat.zero_le _⟩ dX10_leadsAlike_47 (fun H locs hP11 hm => ?_)
  refine lv_aload_n hx hb dX10_leadsAlike_50 rfl (lv_at hl 2 rfl) ?_
  refine lv_iload hx hb dX10_leadsAlike_51 (lv_at hl 0 rfl) ?_
  obtain ⟨v13, hq12, hf⟩ := xb1_e hf
  refine x_callVi (As := [.int v4]) (rest := [.int v10]) C hm (c_X10_whereOf l E b M Lm v4 hq12) rfl cy_0 tc_X10_whereOf tm_RX10_331 ti_X10_whereOf ts_X10_whereOf tn_RX10 td_X10_whereOf rfl rfl ⟨Nat.le_of_ble_eq_true rfl, Nat.le_of_ble_eq_true rfl⟩ rfl hl.1 rfl (Nat.le_of_ble_eq_true rfl) ⟨Nat.zero_le _, Nat.zero_le _⟩ dX10_leadsAlike_53 (fun H locs hP14 hm => ?_)
  refine lv_icmp_ne (tgt := 63) hx hb dX10_leadsAlike_56 (by decide) (fun hc15 => ?_) (fun hc15 => ?_)
  · have hf := xif_f hc15 hf
    refine lv_iconst (v := (0 : Int32)) hx hb dX10_leadsAlike_63 (by decide) ?_
    cases hf
    exact x_zret C hm (by decide) (by decide) dX10_leadsAlike_64
  have hf := xif_t hc15 hf
  refine lv_iconst (v := (1 : Int32)) hx hb dX10_leadsAlike_59 (by decide) ?_
  refine lv_goto (tgt := 64) hx hb dX10_leadsAlike_60 (by decide) ?_
  cases hf
  exact x_zret C hm (by decide) (by decide) dX10_leadsAlike_64
/-! ColouredHeapModel.putAside()V -/
theorem dX10_putAside_0 : decode cX10_putAside 0 = .ok (.iconst 0, 1) := by decide +kernel
theorem dX10_putAside_1 : decode cX10_putAside 1 = .ok (.istore_n 1, 1) := by decide +kernel
theorem dX10_putAside_2 : decode cX10_putAside 2 = .ok (.iload_n 1, 1) := by decide +kernel
theorem dX10_putAside_3 : decode cX10_putAside 3 = .ok (.sipush 318, 3) := by decide +kernel
theorem dX10_putAside_6 : decode cX10_putAside 6 = .ok (.if_icmp .ge 23, 3) := by decide +kernel
theorem dX10_putAside_9 : decode cX10_putAside 9 = .ok (.aload_n 0, 1) := by decide +kernel
theorem dX10_putAside_10 : decode cX10_putAside 10 = .ok (.getfield 43, 3) := by decide +kernel
theorem dX10_putAside_13 : decode cX10_putAside 13 = .ok (.iload_n 1, 1) := by decide +kernel
theorem dX10_putAside_14 : decode cX10_putAside 14 = .ok (.aload_n 0, 1) := by decide +kernel
theorem dX10_putAside_15 : decode cX10_putAside 15 = .ok (.getfield 7, 3) := by decide +kernel
theorem dX10_putAside_18 : decode cX10_putAside 18 = .ok (.iconst 4, 1) := by decide +kernel
theorem dX10_putAside_19 : decode cX10_putAside 19 = .ok (.iload_n 1, 1) := by decide +kernel
theorem dX10_putAside_20 : decode cX10_putAside 20 = .ok (.iadd, 1) := by decide +kernel
theorem dX10_putAside_21 : decode cX10_putAside 21 = .ok (.iaload, 1) := by decide +kernel
theorem dX10_putAside_22 : decode cX10_putAside 22 = .ok (.iastore, 1) := by decide +kernel
theorem dX10_putAside_23 : decode cX10_putAside 23 = .ok (.iinc 1 1, 3) := by decide +kernel
theorem dX10_putAside_26 : decode cX10_putAside 26 = .ok (.goto (-24), 3) := by decide +kernel
theorem dX10_putAside_29 : decode cX10_putAside 29 = .ok (.return_, 1) := by decide +kernel
def g_X10_putAside_2  : Nat → xm → Int32 → Option ((xm))
  | 0, _, _ => none
  | n + 1, M2, x1 => (if (318 : Int32) ≤ x1 then some (M2) else if xin ((4 : Int32) + x1) 9878 = true then if xin x1 318 = true then xlet (up2 M2 9 (Int32.toNatClampNeg x1) (M2 1 (Int32.toNatClampNeg ((4 : Int32) + x1)))) (fun M7 => xlet (x1 + (1 : Int32)) (fun v8 => g_X10_putAside_2 n M7 v8)) else none else none)
def f_X10_putAside (M : xm) : Option (xm) := xb1 (g_X10_putAside_2 xfuel M (0 : Int32)) (fun M9 => some M9)
set_option maxHeartbeats 4000000 in
set_option maxRecDepth 20000 in
theorem j_X10_putAside_2 {p : Program} {l : Launch} {e : Env} {s : State} {m : MethodId} {args : Array Value} {below : List Frame} {meth : Method} {c : Code} {Q : State → Prop} {E : xE} {b : Nat} (C : xC p s m args meth c cX10_putAside 2 RX10 none E b) {Lm : xn} {y3 : xm}
    (kx0 : ∀ (H : Heap) (locs : List Loc) (ls : Array Slot), xM E b NY (cY E b y3 Lm) s.heap H locs → lv_has ls 2 [] → W p l e (xR 1) s m args below meth c H locs 0 0 Q (F0 m 29 ls [])) :
    ∀ (n : Nat) (M2 : xm) (x1 : Int32) (H : Heap) (locs : List Loc) (ls : Array Slot), g_X10_putAside_2 n M2 x1 = some y3 → xM E b NY (cY E b M2 Lm) s.heap H locs → lv_has ls 2 [(0, .ref (b + 0)), (1, .int x1)] → W p l e (xR 1) s m args below meth c H locs 0 0 Q (F0 m 2 ls []) := by
  have hx := C.1.1
  have hb := C.1.2.1
  intro n
  induction n with
  | zero =>
    intro M2 x1 H locs ls hf hm hl
    rw [g_X10_putAside_2] at hf
    cases hf
  | succ n ih =>
    intro M2 x1 H locs ls hf hm hl
    rw [g_X10_putAside_2] at hf
    refine lv_iload_n hx hb dX10_putAside_2 rfl (lv_at hl 1 rfl) ?_
    refine lv_sipush (v := (318 : Int32)) hx hb dX10_putAside_3 (by decide) ?_
    refine lv_icmp_ge (tgt := 29) hx hb dX10_putAside_6 (by decide) (fun hc4 => ?_) (fun hc4 => ?_)
    · have hf := xif_t hc4 hf
      cases hf
      exact kx0 H locs ls hm (lv_sub hl [] rfl)
    have hf := xif_f hc4 hf
    refine lv_aload_n hx hb dX10_putAside_9 rfl (lv_at hl 0 rfl) ?_
    refine x_get C hm inX10 rfl 23 (by decide) tf_RX10_43 cy_0 rfl dX10_putAside_10 ?_
    refine lv_iload_n hx hb dX10_putAside_13 rfl (lv_at hl 1 rfl) ?_
    refine lv_aload_n hx hb dX10_putAside_14 rfl (lv_at hl 0 rfl) ?_
    refine x_get C hm inX10 rfl 0 (by decide) tf_RX10_7 cy_0 rfl dX10_putAside_15 ?_
    refine lv_iconst (v := (4 : Int32)) hx hb dX10_putAside_18 (by decide) ?_
    refine lv_iload_n hx hb dX10_putAside_19 rfl (lv_at hl 1 rfl) ?_
    refine lv_iadd hx hb dX10_putAside_20 ?_
    obtain ⟨hi5, hf⟩ := xif_s hf
    refine x_iald (j := (Int32.toNatClampNeg ((4 : Int32) + x1))) C hm cy_1 hi5 dX10_putAside_21 rfl ?_
    obtain ⟨hi6, hf⟩ := xif_s hf
    obtain ⟨M7, eM7, hf⟩ := xlet_x hf
    refine x_iast (j := (Int32.toNatClampNeg x1)) (cf' := cY E b M7 Lm) C hm cy_9 hi6 dX10_putAside_22 rfl (by rw [eM7]; exact cyu_9) (by rw [eM7]; exact cY_o) (fun H locs hm => ?_)
    obtain ⟨v8, ev8, hf⟩ := xlet_x hf
    refine lv_iinc (v := v8) (lv' := [(1, .int v8), (0, .ref (b + 0))]) hx hb dX10_putAside_23 hl (k := 1) rfl (by rw [ev8]; rfl) (by decide) rfl (fun ls hl => ?_)
    refine lv_goto (tgt := 2) hx hb dX10_putAside_26 (by decide) ?_
    exact ih M7 v8 H locs ls hf hm (lv_sub hl [1, 0] rfl)
set_option maxHeartbeats 4000000 in
set_option maxRecDepth 20000 in
theorem c_X10_putAside (l : Launch) (E : xE) (b : Nat) (M : xm) (Lm : xn) {M' : xm} (hf : f_X10_putAside M = some M') :
    xMet l E b NY yX10_putAside cX10_putAside 2 none (xR 1) [.ref (b + 0)] (cY E b M Lm) none True (cY E b M' Lm) := by
  refine xMet.ofW (own := RX10) (by decide) rfl (Nat.le_of_ble_eq_true rfl) ?_
  intro p e s m below meth c H locs ls C hm hl
  have hx := C.1.1
  have hb := C.1.2.1
  have hl : lv_has ls 2 [(0, .ref (b + 0))] := hl
  unfold f_X10_putAside at hf
  refine lv_iconst (v := (0 : Int32)) hx hb dX10_putAside_0 (by decide) ?_
  refine lv_istore_n (lv' := [(1, .int (0 : Int32)), (0, .ref (b + 0))]) hx hb dX10_putAside_1 rfl hl (by decide) rfl (fun ls hl => ?_)
  obtain ⟨M9, hq, hf⟩ := xb1_e hf
  refine j_X10_putAside_2 C (fun H locs ls hm hl => ?_) xfuel M (0 : Int32) H locs ls hq hm (lv_sub hl [1, 0] rfl)
  cases hf
  exact x_vret C hm trivial dX10_putAside_29
/-! ColouredHeapModel.isAlikeBy(I)Z -/
theorem dX10_isAlikeBy_0 : decode cX10_isAlikeBy 0 = .ok (.aload_n 0, 1) := by decide +kernel
theorem dX10_isAlikeBy_1 : decode cX10_isAlikeBy 1 = .ok (.getfield 7, 3) := by decide +kernel
theorem dX10_isAlikeBy_4 : decode cX10_isAlikeBy 4 = .ok (.bipush 35, 2) := by decide +kernel
theorem dX10_isAlikeBy_6 : decode cX10_isAlikeBy 6 = .ok (.iaload, 1) := by decide +kernel
theorem dX10_isAlikeBy_7 : decode cX10_isAlikeBy 7 = .ok (.istore_n 2, 1) := by decide +kernel
theorem dX10_isAlikeBy_8 : decode cX10_isAlikeBy 8 = .ok (.aload_n 0, 1) := by decide +kernel
theorem dX10_isAlikeBy_9 : decode cX10_isAlikeBy 9 = .ok (.getfield 7, 3) := by decide +kernel
theorem dX10_isAlikeBy_12 : decode cX10_isAlikeBy 12 = .ok (.bipush 36, 2) := by decide +kernel
theorem dX10_isAlikeBy_14 : decode cX10_isAlikeBy 14 = .ok (.iaload, 1) := by decide +kernel
theorem dX10_isAlikeBy_15 : decode cX10_isAlikeBy 15 = .ok (.istore_n 3, 1) := by decide +kernel
theorem dX10_isAlikeBy_16 : decode cX10_isAlikeBy 16 = .ok (.aload_n 0, 1) := by decide +kernel
theorem dX10_isAlikeBy_17 : decode cX10_isAlikeBy 17 = .ok (.invokevirtual 451, 3) := by decide +kernel
theorem dX10_isAlikeBy_20 : decode cX10_isAlikeBy 20 = .ok (.aload_n 0, 1) := by decide +kernel
theorem dX10_isAlikeBy_21 : decode cX10_isAlikeBy 21 = .ok (.iload_n 1, 1) := by decide +kernel
theorem dX10_isAlikeBy_22 : decode cX10_isAlikeBy 22 = .ok (.iload_n 1, 1) := by decide +kernel
theorem dX10_isAlikeBy_23 : decode cX10_isAlikeBy 23 = .ok (.invokevirtual 418, 3) := by decide +kernel
theorem dX10_isAlikeBy_26 : decode cX10_isAlikeBy 26 = .ok (.pop, 1) := by decide +kernel
theorem dX10_isAlikeBy_27 : decode cX10_isAlikeBy 27 = .ok (.aload_n 0, 1) := by decide +kernel
theorem dX10_isAlikeBy_28 : decode cX10_isAlikeBy 28 = .ok (.iconst 1, 1) := by decide +kernel
theorem dX10_isAlikeBy_29 : decode cX10_isAlikeBy 29 = .ok (.iload_n 1, 1) := by decide +kernel
theorem dX10_isAlikeBy_30 : decode cX10_isAlikeBy 30 = .ok (.isub, 1) := by decide +kernel
theorem dX10_isAlikeBy_31 : decode cX10_isAlikeBy 31 = .ok (.iconst 1, 1) := by decide +kernel
theorem dX10_isAlikeBy_32 : decode cX10_isAlikeBy 32 = .ok (.iload_n 1, 1) := by decide +kernel
theorem dX10_isAlikeBy_33 : decode cX10_isAlikeBy 33 = .ok (.isub, 1) := by decide +kernel
theorem dX10_isAlikeBy_34 : decode cX10_isAlikeBy 34 = .ok (.invokevirtual 418, 3) := by decide +kernel
theorem dX10_isAlikeBy_37 : decode cX10_isAlikeBy 37 = .ok (.pop, 1) := by decide +kernel
theorem dX10_isAlikeBy_38 : decode cX10_isAlikeBy 38 = .ok (.aload_n 0, 1) := by decide +kernel
theorem dX10_isAlikeBy_39 : decode cX10_isAlikeBy 39 = .ok (.iconst 0, 1) := by decide +kernel
theorem dX10_isAlikeBy_40 : decode cX10_isAlikeBy 40 = .ok (.iload_n 2, 1) := by decide +kernel
theorem dX10_isAlikeBy_41 : decode cX10_isAlikeBy 41 = .ok (.invokevirtual 480, 3) := by decide +kernel
theorem dX10_isAlikeBy_44 : decode cX10_isAlikeBy 44 = .ok (.ifCond .eq 16, 3) := by decide +kernel
theorem dX10_isAlikeBy_47 : decode cX10_isAlikeBy 47 = .ok (.aload_n 0, 1) := by decide +kernel
theorem dX10_isAlikeBy_48 : decode cX10_isAlikeBy 48 = .ok (.iconst 1, 1) := by decide +kernel
theorem dX10_isAlikeBy_49 : decode cX10_isAlikeBy 49 = .ok (.iload_n 3, 1) := by decide +kernel
theorem dX10_isAlikeBy_50 : decode cX10_isAlikeBy 50 = .ok (.invokevirtual 480, 3) := by decide +kernel
theorem dX10_isAlikeBy_53 : decode cX10_isAlikeBy 53 = .ok (.ifCond .eq 7, 3) := by decide +kernel
theorem dX10_isAlikeBy_56 : decode cX10_isAlikeBy 56 = .ok (.iconst 1, 1) := by decide +kernel
theorem dX10_isAlikeBy_57 : decode cX10_isAlikeBy 57 = .ok (.goto 4, 3) := by decide +kernel
theorem dX10_isAlikeBy_60 : decode cX10_isAlikeBy 60 = .ok (.iconst 0, 1) := by decide +kernel
theorem dX10_isAlikeBy_61 : decode cX10_isAlikeBy 61 = .ok (.istore 4, 2) := by decide +kernel
theorem dX10_isAlikeBy_63 : decode cX10_isAlikeBy 63 = .ok (.aload_n 0, 1) := by decide +kernel
theorem dX10_isAlikeBy_64 : decode cX10_isAlikeBy 64 = .ok (.invokevirtual 454, 3) := by decide +kernel
theorem dX10_isAlikeBy_67 : decode cX10_isAlikeBy 67 = .ok (.iload 4, 2) := by decide +kernel
theorem dX10_isAlikeBy_69 : decode cX10_isAlikeBy 69 = .ok (.ireturn, 1) := by decide +kernel
def f_X10_isAlikeBy (M : xm) (a1 : Int32) : Option (Int32 × xm) := xlet (M 1 35) (fun v1 => xlet (M 1 36) (fun v2 => xb1 (f_X10_putAside M) (fun M4 => xb2 (f_X10_finishNow M4 a1 a1) (fun v7 M8 => xb2 (f_X10_finishNow M8 ((1 : Int32) - a1) ((1 : Int32) - a1)) (fun v11 M12 => xb1 (f_X10_leadsAlike M12 (0 : Int32) v1) (fun v15 => xlet (fun (w17 : Int32) => xb1 (f_X10_bringBack M12) (fun M20 => if xbo w17 = true then some (w17, M20) else none)) (fun k18 => xlet ((k18 (0 : Int32))) (fun k23 => (if v15 = 0 then k23 else xb1 (f_X10_leadsAlike M12 (1 : Int32) v2) (fun v26 => (if v26 = 0 then k23 else (k18 (1 : Int32)))))))))))))
set_option maxHeartbeats 4000000 in
set_option maxRecDepth 20000 in
theorem c_X10_isAlikeBy (l : Launch) (E : xE) (b : Nat) (M : xm) (Lm : xn) (a1 : Int32) {r : Int32} {M' : xm} (hf : f_X10_isAlikeBy M a1 = some (r, M')) :
    xMet l E b NY yX10_isAlikeBy cX10_isAlikeBy 5 (some .boolean) (xR 7) [.ref (b + 0), .int a1] (cY E b M Lm) (some (.int r)) (xbo r = true) (cY E b M' Lm) := by
  refine xMet.ofW (own := RX10) (by decide) rfl (Nat.le_of_ble_eq_true rfl) ?_
  intro p e s m below meth c H locs ls C hm hl
  have hx := C.1.1
  have hb := C.1.2.1
  have hl : lv_has ls 5 [(0, .ref (b + 0)), (1, .int a1)] := hl
  unfold f_X10_isAlikeBy at hf
  refine lv_aload_n hx hb dX10_isAlikeBy_0 rfl (lv_at hl 0 rfl) ?_
  refine x_get C hm inX10 rfl 0 (by decide) tf_RX10_7 cy_0 rfl dX10_isAlikeBy_1 ?_
  refine lv_bipush (v := (35 : Int32)) hx hb dX10_isAlikeBy_4 (by decide) ?_
  refine x_iald (j := 35) C hm cy_1 (by decide) dX10_isAlikeBy_6 (by decide) ?_
  refine lv_topi (fun v1 ev1 => ?_)
  have hf := xlet_e ev1 hf
  refine lv_istore_n (lv' := [(2, .int v1), (0, .ref (b + 0)), (1, .int a1)]) hx hb dX10_isAlikeBy_7 rfl hl (by decide) rfl (fun ls hl => ?_)
  refine lv_aload_n hx hb dX10_isAlikeBy_8 rfl (lv_at hl 1 rfl) ?_
  refine x_get C hm inX10 rfl 0 (by decide) tf_RX10_7 cy_0 rfl dX10_isAlikeBy_9 ?_
  refine lv_bipush (v := (36 : Int32)) hx hb dX10_isAlikeBy_12 (by decide) ?_
  refine x_iald (j := 36) C hm cy_1 (by decide) dX10_isAlikeBy_14 (by decide) ?_
  refine lv_topi (fun v2 ev2 => ?_)
  have hf := xlet_e ev2 hf
  refine lv_istore_n (lv' := [(3, .int v2), (2, .int v1), (0, .ref (b + 0)), (1, .int a1)]) hx hb dX10_isAlikeBy_15 rfl hl (by decide) rfl (fun ls hl => ?_)
  refine lv_aload_n hx hb dX10_isAlikeBy_16 rfl (lv_at hl 2 rfl) ?_
  obtain ⟨M4, hq3, hf⟩ := xb1_e hf
  refine x_callVv (As := []) (rest := []) C hm (c_X10_putAside l E b M Lm hq3) rfl cy_0 tc_X10_putAside tm_RX10_451 ti_X10_putAside ts_X10_putAside tn_RX10 td_X10_putAside rfl rfl ⟨Nat.le_of_ble_eq_true rfl, Nat.le_of_ble_eq_true rfl⟩ rfl hl.1 rfl (Nat.le_of_ble_eq_true rfl) ⟨Nat.zero_le _, Nat.zero_le _⟩ dX10_isAlikeBy_17 (fun H locs hP5 hm => ?_)
  refine lv_aload_n hx hb dX10_isAlikeBy_20 rfl (lv_at hl 2 rfl) ?_
  refine lv_iload_n hx hb dX10_isAlikeBy_21 rfl (lv_at hl 3 rfl) ?_
  refine lv_iload_n hx hb dX10_isAlikeBy_22 rfl (lv_at hl 3 rfl) ?_
  obtain ⟨v7, M8, hq6, hf⟩ := xb2_e hf
  refine x_callVi (As := [.int a1, .int a1]) (rest := []) C hm (c_X10_finishNow l E b M4 Lm a1 a1 hq6) rfl cy_0 tc_X10_finishNow tm_RX10_418 ti_X10_finishNow ts_X10_finishNow tn_RX10 td_X10_finishNow rfl rfl ⟨Nat.le_of_ble_eq_true rfl, Nat.le_of_ble_eq_true rfl⟩ rfl hl.1 rfl (Nat.le_of_ble_eq_true rfl) ⟨Nat.zero_le _, Nat.zero_le _⟩ dX10_isAlikeBy_23 (fun H locs hP9 hm => ?_)
  refine lv_pop hx hb dX10_isAlikeBy_26 rfl ?_
  refine lv_aload_n hx hb dX10_isAlikeBy_27 rfl (lv_at hl 2 rfl) ?_
  refine lv_iconst (v := (1 : Int32)) hx hb dX10_isAlikeBy_28 (by decide) ?_
  refine lv_iload_n hx hb dX10_isAlikeBy_29 rfl (lv_at hl 3 rfl) ?_
  refine lv_isub hx hb dX10_isAlikeBy_30 ?_
  refine lv_iconst (v := (1 : Int32)) hx hb dX10_isAlikeBy_31 (by decide) ?_
  refine lv_iload_n hx hb dX10_isAlikeBy_32 rfl (lv_at hl 3 rfl) ?_
  refine lv_isub hx hb dX10_isAlikeBy_33 ?_
  obtain ⟨v11, M12, hq10, hf⟩ := xb2_e hf
  refine x_callVi (As := [.int ((1 : Int32) - a1), .int ((1 : Int32) - a1)]) (rest := []) C hm (c_X10_finishNow l E b M8 Lm ((1 : Int32) - a1) ((1 : Int32) - a1) hq10) rfl cy_0 tc_X10_finishNow tm_RX10_418 ti_X10_finishNow ts_X10_finishNow tn_RX10 td_X10_finishNow rfl rfl ⟨Nat.le_of_ble_eq_true rfl, Nat.le_of_ble_eq_true rfl⟩ rfl hl.1 rfl (Nat.le_of_ble_eq_true rfl) ⟨Nat.zero_le _, Nat.zero_le _⟩ dX10_isAlikeBy_34 (fun H locs hP13 hm => ?_)
  refine lv_pop hx hb dX10_isAlikeBy_37 rfl ?_
  refine lv_aload_n hx hb dX10_isAlikeBy_38 rfl (lv_at hl 2 rfl) ?_
  refine lv_iconst (v := (0 : Int32)) hx hb dX10_isAlikeBy_39 (by decide) ?_
  refine lv_iload_n hx hb dX10_isAlikeBy_40 rfl (lv_at hl 1 rfl) ?_
  obtain ⟨v15, hq14, hf⟩ := xb1_e hf
  refine x_callVi (As := [.int (0 : Int32), .int v1]) (rest := []) C hm (c_X10_leadsAlike l E b M12 Lm (0 : Int32) v1 hq14) rfl cy_0 tc_X10_leadsAlike tm_RX10_480 ti_X10_leadsAlike ts_X10_leadsAlike tn_RX10 td_X10_leadsAlike rfl rfl ⟨Nat.le_of_ble_eq_true rfl, Nat.le_of_ble_eq_true rfl⟩ rfl hl.1 rfl (Nat.le_of_ble_eq_true rfl) ⟨Nat.zero_le _, Nat.zero_le _⟩ dX10_isAlikeBy_41 (fun H locs hP16 hm => ?_)
  obtain ⟨k18, ek18, hf⟩ := xlet_x hf
  have jk18 : ∀ (w17 : Int32) (H : Heap) (locs : List Loc) (ls : Array Slot), k18 w17 = some (r, M') → xM E b NY (cY E b M12 Lm) s.heap H locs → lv_has ls 5 [(0, .ref (b + 0))] → W p l e (xR 7) s m ([.ref (b + 0), .int a1] : List Value).toArray below meth c H locs 0 0 (MQ below (xQ E b NY (some (.int r)) (xbo r = true) (cY E b M' Lm)) ([.ref (b + 0), .int a1] : List Value).toArray s 0 0 (xA b NY)) (F0 m 61 ls [.int w17]) := by
    intro w17 H locs ls hf hm hl
    have hf := xap1 ek18 hf
    refine lv_istore (lv' := [(4, .int w17), (0, .ref (b + 0))]) hx hb dX10_isAlikeBy_61 hl (by decide) rfl (fun ls hl => ?_)
    refine lv_aload_n hx hb dX10_isAlikeBy_63 rfl (lv_at hl 1 rfl) ?_
    obtain ⟨M20, hq19, hf⟩ := xb1_e hf
    refine x_callVv (As := []) (rest := []) C hm (c_X10_bringBack l E b M12 Lm hq19) rfl cy_0 tc_X10_bringBack tm_RX10_454 ti_X10_bringBack ts_X10_bringBack tn_RX10 td_X10_bringBack rfl rfl ⟨Nat.le_of_ble_eq_true rfl, Nat.le_of_ble_eq_true rfl⟩ rfl hl.1 rfl (Nat.le_of_ble_eq_true rfl) ⟨Nat.zero_le _, Nat.zero_le _⟩ dX10_isAlikeBy_64 (fun H locs hP21 hm => ?_)
    refine lv_iload hx hb dX10_isAlikeBy_67 (lv_at hl 0 rfl) ?_
    obtain ⟨hb22, hf⟩ := xif_s hf
    cases hf
    exact x_zret C hm hb22 hb22 dX10_isAlikeBy_69
  obtain ⟨k23, ek23, hf⟩ := xlet_x hf
  have jk23 : ∀  (H : Heap) (locs : List Loc) (ls : Array Slot), k23 = some (r, M') → xM E b NY (cY E b M12 Lm) s.heap H locs → lv_has ls 5 [(0, .ref (b + 0))] → W p l e (xR 7) s m ([.ref (b + 0), .int a1] : List Value).toArray below meth c H locs 0 0 (MQ below (xQ E b NY (some (.int r)) (xbo r = true) (cY E b M' Lm)) ([.ref (b + 0), .int a1] : List Value).toArray s 0 0 (xA b NY)) (F0 m 60 ls []) := by
    intro  H locs ls hf hm hl
    have hf := xap0 ek23 hf
    refine lv_iconst (v := (0 : Int32)) hx hb dX10_isAlikeBy_60 (by decide) ?_
    exact jk18 (0 : Int32) H locs ls  hf hm (lv_sub hl [0] rfl)
  refine lv_if_eq (tgt := 60) hx hb dX10_isAlikeBy_44 (by decide) (fun hc24 => ?_) (fun hc24 => ?_)
  · have hf := xif_t hc24 hf
    exact jk23  H locs ls  hf hm (lv_sub hl [2] rfl)
  have hf := xif_f hc24 hf
  refine lv_aload_n hx hb dX10_isAlikeBy_47 rfl (lv_at hl 2 rfl) ?_
  refine lv_iconst (v := (1 : Int32)) hx hb dX10_isAlikeBy_48 (by decide) ?_
  refine lv_iload_n hx hb dX10_isAlikeBy_49 rfl (lv_at hl 0 rfl) ?_
  obtain ⟨v26, hq25, hf⟩ := xb1_e hf
  refine x_callVi (As := [.int (1 : Int32), .int v2]) (rest := []) C hm (c_X10_leadsAlike l E b M12 Lm (1 : Int32) v2 hq25) rfl cy_0 tc_X10_leadsAlike tm_RX10_480 ti_X10_leadsAlike ts_X10_leadsAlike tn_RX10 td_X10_leadsAlike rfl rfl ⟨Nat.le_of_ble_eq_true rfl, Nat.le_of_ble_eq_true rfl⟩ rfl hl.1 rfl (Nat.le_of_ble_eq_true rfl) ⟨Nat.zero_le _, Nat.zero_le _⟩ dX10_isAlikeBy_50 (fun H locs hP27 hm => ?_)
  refine lv_if_eq (tgt := 60) hx hb dX10_isAlikeBy_53 (by decide) (fun hc28 => ?_) (fun hc28 => ?_)
  · have hf := xif_t hc28 hf
    exact jk23  H locs ls  hf hm (lv_sub hl [2] rfl)
  have hf := xif_f hc28 hf
  refine lv_iconst (v := (1 : Int32)) hx hb dX10_isAlikeBy_56 (by decide) ?_
  refine lv_goto (tgt := 61) hx hb dX10_isAlikeBy_57 (by decide) ?_
  exact jk18 (1 : Int32) H locs ls  hf hm (lv_sub hl [2] rfl)
/-! ColouredHeapModel.alike()I -/
theorem dX10_alike_0 : decode cX10_alike 0 = .ok (.aload_n 0, 1) := by decide +kernel
theorem dX10_alike_1 : decode cX10_alike 1 = .ok (.iconst 0, 1) := by decide +kernel
theorem dX10_alike_2 : decode cX10_alike 2 = .ok (.invokevirtual 71, 3) := by decide +kernel
theorem dX10_alike_5 : decode cX10_alike 5 = .ok (.ifCond .eq 11, 3) := by decide +kernel
theorem dX10_alike_8 : decode cX10_alike 8 = .ok (.aload_n 0, 1) := by decide +kernel
theorem dX10_alike_9 : decode cX10_alike 9 = .ok (.iconst 1, 1) := by decide +kernel
theorem dX10_alike_10 : decode cX10_alike 10 = .ok (.invokevirtual 71, 3) := by decide +kernel
theorem dX10_alike_13 : decode cX10_alike 13 = .ok (.ifCond .ne 5, 3) := by decide +kernel
theorem dX10_alike_16 : decode cX10_alike 16 = .ok (.iconst (-1), 1) := by decide +kernel
theorem dX10_alike_17 : decode cX10_alike 17 = .ok (.ireturn, 1) := by decide +kernel
theorem dX10_alike_18 : decode cX10_alike 18 = .ok (.aload_n 0, 1) := by decide +kernel
theorem dX10_alike_19 : decode cX10_alike 19 = .ok (.iconst 0, 1) := by decide +kernel
theorem dX10_alike_20 : decode cX10_alike 20 = .ok (.invokevirtual 483, 3) := by decide +kernel
theorem dX10_alike_23 : decode cX10_alike 23 = .ok (.ifCond .eq 15, 3) := by decide +kernel
theorem dX10_alike_26 : decode cX10_alike 26 = .ok (.aload_n 0, 1) := by decide +kernel
theorem dX10_alike_27 : decode cX10_alike 27 = .ok (.iconst 1, 1) := by decide +kernel
theorem dX10_alike_28 : decode cX10_alike 28 = .ok (.invokevirtual 483, 3) := by decide +kernel
theorem dX10_alike_31 : decode cX10_alike 31 = .ok (.ifCond .eq 7, 3) := by decide +kernel
theorem dX10_alike_34 : decode cX10_alike 34 = .ok (.iconst 1, 1) := by decide +kernel
theorem dX10_alike_35 : decode cX10_alike 35 = .ok (.goto 4, 3) := by decide +kernel
theorem dX10_alike_38 : decode cX10_alike 38 = .ok (.iconst 0, 1) := by decide +kernel
theorem dX10_alike_39 : decode cX10_alike 39 = .ok (.ireturn, 1) := by decide +kernel
def f_X10_alike (M : xm) : Option (Int32 × xm) := xb1 (f_X10_isBegun M (0 : Int32)) (fun v2 => (if v2 = 0 then some ((-1 : Int32), M) else xb1 (f_X10_isBegun M (1 : Int32)) (fun v6 => (if v6 = 0 then some ((-1 : Int32), M) else xb2 (f_X10_isAlikeBy M (0 : Int32)) (fun v10 M11 => (if v10 = 0 then some ((0 : Int32), M11) else xb2 (f_X10_isAlikeBy M11 (1 : Int32)) (fun v15 M16 => (if v15 = 0 then some ((0 : Int32), M16) else some ((1 : Int32), M16)))))))))
set_option maxHeartbeats 4000000 in
set_option maxRecDepth 20000 in
theorem c_X10_alike (l : Launch) (E : xE) (b : Nat) (M : xm) (Lm : xn) {r : Int32} {M' : xm} (hf : f_X10_alike M = some (r, M')) :
    xMet l E b NY yX10_alike cX10_alike 1 (some .int) (xR 8) [.ref (b + 0)] (cY E b M Lm) (some (.int r)) True (cY E b M' Lm) := by
  refine xMet.ofW (own := RX10) (by decide) rfl (Nat.le_of_ble_eq_true rfl) ?_
  intro p e s m below meth c H locs ls C hm hl
  have hx := C.1.1
  have hb := C.1.2.1
  have hl : lv_has ls 1 [(0, .ref (b + 0))] := hl
  unfold f_X10_alike at hf
  refine lv_aload_n hx hb dX10_alike_0 rfl (lv_at hl 0 rfl) ?_
  refine lv_iconst (v := (0 : Int32)) hx hb dX10_alike_1 (by decide) ?_
  obtain ⟨v2, hq1, hf⟩ := xb1_e hf
  refine x_callVi (As := [.int (0 : Int32)]) (rest := []) C hm (c_X10_isBegun l E b M Lm (0 : Int32) hq1) rfl cy_0 tc_X10_isBegun tm_RX10_71 ti_X10_isBegun ts_X10_isBegun tn_RX10 td_X10_isBegun rfl rfl ⟨Nat.le_of_ble_eq_true rfl, Nat.le_of_ble_eq_true rfl⟩ rfl hl.1 rfl (Nat.le_of_ble_eq_true rfl) ⟨Nat.zero_le _, Nat.zero_le _⟩ dX10_alike_2 (fun H locs hP3 hm => ?_)
  refine lv_if_eq (tgt := 16) hx hb dX10_alike_5 (by decide) (fun hc4 => ?_) (fun hc4 => ?_)
  · have hf := xif_t hc4 hf
    refine lv_iconst (v := (-1 : Int32)) hx hb dX10_alike_16 (by decide) ?_
    cases hf
    exact x_iret C hm trivial dX10_alike_17
  have hf := xif_f hc4 hf
  refine lv_aload_n hx hb dX10_alike_8 rfl (lv_at hl 0 rfl) ?_
  refine lv_iconst (v := (1 : Int32)) hx hb dX10_alike_9 (by decide) ?_
  obtain ⟨v6, hq5, hf⟩ := xb1_e hf
  refine x_callVi (As := [.int (1 : Int32)]) (rest := []) C hm (c_X10_isBegun l E b M Lm (1 : Int32) hq5) rfl cy_0 tc_X10_isBegun tm_RX10_71 ti_X10_isBegun ts_X10_isBegun tn_RX10 td_X10_isBegun rfl rfl ⟨Nat.le_of_ble_eq_true rfl, Nat.le_of_ble_eq_true rfl⟩ rfl hl.1 rfl (Nat.le_of_ble_eq_true rfl) ⟨Nat.zero_le _, Nat.zero_le _⟩ dX10_alike_10 (fun H locs hP7 hm => ?_)
  refine lv_if_ne (tgt := 18) hx hb dX10_alike_13 (by decide) (fun hc8 => ?_) (fun hc8 => ?_)
  rotate_left
  · have hf := xif_t hc8 hf
    refine lv_iconst (v := (-1 : Int32)) hx hb dX10_alike_16 (by decide) ?_
    cases hf
    exact x_iret C hm trivial dX10_alike_17
  have hf := xif_f hc8 hf
  refine lv_aload_n hx hb dX10_alike_18 rfl (lv_at hl 0 rfl) ?_
  refine lv_iconst (v := (0 : Int32)) hx hb dX10_alike_19 (by decide) ?_
  obtain ⟨v10, M11, hq9, hf⟩ := xb2_e hf
  refine x_callVi (As := [.int (0 : Int32)]) (rest := []) C hm (c_X10_isAlikeBy l E b M Lm (0 : Int32) hq9) rfl cy_0 tc_X10_isAlikeBy tm_RX10_483 ti_X10_isAlikeBy ts_X10_isAlikeBy tn_RX10 td_X10_isAlikeBy rfl rfl ⟨Nat.le_of_ble_eq_true rfl, Nat.le_of_ble_eq_true rfl⟩ rfl hl.1 rfl (Nat.le_of_ble_eq_true rfl) ⟨Nat.zero_le _, Nat.zero_le _⟩ dX10_alike_20 (fun H locs hP12 hm => ?_)
  refine lv_if_eq (tgt := 38) hx hb dX10_alike_23 (by decide) (fun hc13 => ?_) (fun hc13 => ?_)
  · have hf := xif_t hc13 hf
    refine lv_iconst (v := (0 : Int32)) hx hb dX10_alike_38 (by decide) ?_
    cases hf
    exact x_iret C hm trivial dX10_alike_39
  have hf := xif_f hc13 hf
  refine lv_aload_n hx hb dX10_alike_26 rfl (lv_at hl 0 rfl) ?_
  refine lv_iconst (v := (1 : Int32)) hx hb dX10_alike_27 (by decide) ?_
  obtain ⟨v15, M16, hq14, hf⟩ := xb2_e hf
  refine x_callVi (As := [.int (1 : Int32)]) (rest := []) C hm (c_X10_isAlikeBy l E b M11 Lm (1 : Int32) hq14) rfl cy_0 tc_X10_isAlikeBy tm_RX10_483 ti_X10_isAlikeBy ts_X10_isAlikeBy tn_RX10 td_X10_isAlikeBy rfl rfl ⟨Nat.le_of_ble_eq_true rfl, Nat.le_of_ble_eq_true rfl⟩ rfl hl.1 rfl (Nat.le_of_ble_eq_true rfl) ⟨Nat.zero_le _, Nat.zero_le _⟩ dX10_alike_28 (fun H locs hP17 hm => ?_)
  refine lv_if_eq (tgt := 38) hx hb dX10_alike_31 (by decide) (fun hc18 => ?_) (fun hc18 => ?_)
  · have hf := xif_t hc18 hf
    refine lv_iconst (v := (0 : Int32)) hx hb dX10_alike_38 (by decide) ?_
    cases hf
    exact x_iret C hm trivial dX10_alike_39
  have hf := xif_f hc18 hf
  refine lv_iconst (v := (1 : Int32)) hx hb dX10_alike_34 (by decide) ?_
  refine lv_goto (tgt := 39) hx hb dX10_alike_35 (by decide) ?_
  cases hf
  exact x_iret C hm trivial dX10_alike_39
/-! ColouredHeapModel.anew()V -/
theorem dX10_anew_0 : decode cX10_anew 0 = .ok (.aload_n 0, 1) := by decide +kernel
theorem dX10_anew_1 : decode cX10_anew 1 = .ok (.getfield 7, 3) := by decide +kernel
theorem dX10_anew_4 : decode cX10_anew 4 = .ok (.iconst 5, 1) := by decide +kernel
theorem dX10_anew_5 : decode cX10_anew 5 = .ok (.aload_n 0, 1) := by decide +kernel
theorem dX10_anew_6 : decode cX10_anew 6 = .ok (.getfield 7, 3) := by decide +kernel
theorem dX10_anew_9 : decode cX10_anew 9 = .ok (.iconst 5, 1) := by decide +kernel
theorem dX10_anew_10 : decode cX10_anew 10 = .ok (.iaload, 1) := by decide +kernel
theorem dX10_anew_11 : decode cX10_anew 11 = .ok (.i2l, 1) := by decide +kernel
theorem dX10_anew_12 : decode cX10_anew 12 = .ok (.ldc2_w 304, 3) := by decide +kernel
theorem dX10_anew_15 : decode cX10_anew 15 = .ok (.lmul, 1) := by decide +kernel
theorem dX10_anew_16 : decode cX10_anew 16 = .ok (.ldc2_w 306, 3) := by decide +kernel
theorem dX10_anew_19 : decode cX10_anew 19 = .ok (.ladd, 1) := by decide +kernel
theorem dX10_anew_20 : decode cX10_anew 20 = .ok (.ldc2_w 308, 3) := by decide +kernel
theorem dX10_anew_23 : decode cX10_anew 23 = .ok (.lrem, 1) := by decide +kernel
theorem dX10_anew_24 : decode cX10_anew 24 = .ok (.l2i, 1) := by decide +kernel
theorem dX10_anew_25 : decode cX10_anew 25 = .ok (.iastore, 1) := by decide +kernel
theorem dX10_anew_26 : decode cX10_anew 26 = .ok (.return_, 1) := by decide +kernel
def f_X10_anew (M : xm) : Option (xm) := xlet (up2 M 1 5 ((xremL ((((M 1 5).toInt64) * (733 : Int64)) + (599 : Int64)) (31063 : Int64)).toInt32)) (fun M1 => some M1)
set_option maxHeartbeats 4000000 in
set_option maxRecDepth 20000 in
theorem c_X10_anew (l : Launch) (E : xE) (b : Nat) (M : xm) (Lm : xn) {M' : xm} (hf : f_X10_anew M = some M') :
    xMet l E b NY yX10_anew cX10_anew 1 none (xR 1) [.ref (b + 0)] (cY E b M Lm) none True (cY E b M' Lm) := by
  refine xMet.ofW (own := RX10) (by decide) rfl (Nat.le_of_ble_eq_true rfl) ?_
  intro p e s m below meth c H locs ls C hm hl
  have hx := C.1.1
  have hb := C.1.2.1
  have hl : lv_has ls 1 [(0, .ref (b + 0))] := hl
  unfold f_X10_anew at hf
  refine lv_aload_n hx hb dX10_anew_0 rfl (lv_at hl 0 rfl) ?_
  refine x_get C hm inX10 rfl 0 (by decide) tf_RX10_7 cy_0 rfl dX10_anew_1 ?_
  refine lv_iconst (v := (5 : Int32)) hx hb dX10_anew_4 (by decide) ?_
  refine lv_aload_n hx hb dX10_anew_5 rfl (lv_at hl 0 rfl) ?_
  refine x_get C hm inX10 rfl 0 (by decide) tf_RX10_7 cy_0 rfl dX10_anew_6 ?_
  refine lv_iconst (v := (5 : Int32)) hx hb dX10_anew_9 (by decide) ?_
  refine x_iald (j := 5) C hm cy_1 (by decide) dX10_anew_10 (by decide) ?_
  refine lv_i2l hx hb dX10_anew_11 rfl ?_
  refine lv_ldc2 (v := (733 : Int64)) hx hb C.1.2.2.2.1 (C.1.2.2.2.2 _ tk_RX10_304) dX10_anew_12 ?_
  refine lv_lmul hx hb dX10_anew_15 ?_
  refine lv_ldc2 (v := (599 : Int64)) hx hb C.1.2.2.2.1 (C.1.2.2.2.2 _ tk_RX10_306) dX10_anew_16 ?_
  refine lv_ladd hx hb dX10_anew_19 ?_
  refine lv_ldc2 (v := (31063 : Int64)) hx hb C.1.2.2.2.1 (C.1.2.2.2.2 _ tk_RX10_308) dX10_anew_20 ?_
  refine lv_lrem hx hb dX10_anew_23 (by decide) ?_
  refine lv_l2i hx hb dX10_anew_24 rfl ?_
  obtain ⟨M1, eM1, hf⟩ := xlet_x hf
  refine x_iast (j := 5) (cf' := cY E b M1 Lm) C hm cy_1 (by decide) dX10_anew_25 (by decide) (by rw [eM1]; exact cyu_1) (by rw [eM1]; exact cY_o) (fun H locs hm => ?_)
  cases hf
  exact x_vret C hm trivial dX10_anew_26
