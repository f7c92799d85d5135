/-! ColouredHeap$Reader.lawClause(I)V -/
theorem dX4_lawClause_0 : decode cX4_lawClause 0 = .ok (.iload_n 1, 1) := by decide +kernel
theorem dX4_lawClause_1 : decode cX4_lawClause 1 = .ok (.ifCond .lt 8, 3) := by decide +kernel
theorem dX4_lawClause_4 : decode cX4_lawClause 4 = .ok (.iload_n 1, 1) := by decide +kernel
theorem dX4_lawClause_5 : decode cX4_lawClause 5 = .ok (.iconst 2, 1) := by decide +kernel
theorem dX4_lawClause_6 : decode cX4_lawClause 6 = .ok (.if_icmp .lt 4, 3) := by decide +kernel
theorem dX4_lawClause_9 : decode cX4_lawClause 9 = .ok (.return_, 1) := by decide +kernel
theorem dX4_lawClause_10 : decode cX4_lawClause 10 = .ok (.aload_n 0, 1) := by decide +kernel
theorem dX4_lawClause_11 : decode cX4_lawClause 11 = .ok (.iload_n 1, 1) := by decide +kernel
theorem dX4_lawClause_12 : decode cX4_lawClause 12 = .ok (.putfield 47, 3) := by decide +kernel
theorem dX4_lawClause_15 : decode cX4_lawClause 15 = .ok (.aload_n 0, 1) := by decide +kernel
theorem dX4_lawClause_16 : decode cX4_lawClause 16 = .ok (.getfield 27, 3) := by decide +kernel
theorem dX4_lawClause_19 : decode cX4_lawClause 19 = .ok (.getfield 136, 3) := by decide +kernel
theorem dX4_lawClause_22 : decode cX4_lawClause 22 = .ok (.iload_n 1, 1) := by decide +kernel
theorem dX4_lawClause_23 : decode cX4_lawClause 23 = .ok (.aload_n 0, 1) := by decide +kernel
theorem dX4_lawClause_24 : decode cX4_lawClause 24 = .ok (.getfield 27, 3) := by decide +kernel
theorem dX4_lawClause_27 : decode cX4_lawClause 27 = .ok (.getfield 139, 3) := by decide +kernel
theorem dX4_lawClause_30 : decode cX4_lawClause 30 = .ok (.iastore, 1) := by decide +kernel
theorem dX4_lawClause_31 : decode cX4_lawClause 31 = .ok (.aload_n 0, 1) := by decide +kernel
theorem dX4_lawClause_32 : decode cX4_lawClause 32 = .ok (.iconst 0, 1) := by decide +kernel
theorem dX4_lawClause_33 : decode cX4_lawClause 33 = .ok (.invokevirtual 142, 3) := by decide +kernel
theorem dX4_lawClause_36 : decode cX4_lawClause 36 = .ok (.aload_n 0, 1) := by decide +kernel
theorem dX4_lawClause_37 : decode cX4_lawClause 37 = .ok (.getfield 27, 3) := by decide +kernel
theorem dX4_lawClause_40 : decode cX4_lawClause 40 = .ok (.getfield 145, 3) := by decide +kernel
theorem dX4_lawClause_43 : decode cX4_lawClause 43 = .ok (.iload_n 1, 1) := by decide +kernel
theorem dX4_lawClause_44 : decode cX4_lawClause 44 = .ok (.aload_n 0, 1) := by decide +kernel
theorem dX4_lawClause_45 : decode cX4_lawClause 45 = .ok (.getfield 27, 3) := by decide +kernel
theorem dX4_lawClause_48 : decode cX4_lawClause 48 = .ok (.getfield 139, 3) := by decide +kernel
theorem dX4_lawClause_51 : decode cX4_lawClause 51 = .ok (.iastore, 1) := by decide +kernel
theorem dX4_lawClause_52 : decode cX4_lawClause 52 = .ok (.aload_n 0, 1) := by decide +kernel
theorem dX4_lawClause_53 : decode cX4_lawClause 53 = .ok (.getfield 27, 3) := by decide +kernel
theorem dX4_lawClause_56 : decode cX4_lawClause 56 = .ok (.iload_n 1, 1) := by decide +kernel
theorem dX4_lawClause_57 : decode cX4_lawClause 57 = .ok (.iconst 0, 1) := by decide +kernel
theorem dX4_lawClause_58 : decode cX4_lawClause 58 = .ok (.iconst 0, 1) := by decide +kernel
theorem dX4_lawClause_59 : decode cX4_lawClause 59 = .ok (.iconst 0, 1) := by decide +kernel
theorem dX4_lawClause_60 : decode cX4_lawClause 60 = .ok (.invokevirtual 148, 3) := by decide +kernel
theorem dX4_lawClause_63 : decode cX4_lawClause 63 = .ok (.return_, 1) := by decide +kernel
def f_X4_lawClause (M : xm) (a1 : Int32) : Option (xm) := (if a1 < 0 then some M else (if a1 < (2 : Int32) then xlet (up2 M 990 10 a1) (fun M3 => if xin a1 2 = true then xlet (up2 M3 ((990 + 5) + 7) (Int32.toNatClampNeg a1) (M3 (990 + 5) 9)) (fun M5 => xb1 (f_X4_sum M5 (0 : Int32)) (fun M7 => xlet (up2 M7 ((990 + 5) + 8) (Int32.toNatClampNeg a1) (M7 (990 + 5) 9)) (fun M9 => xb1 (f_X7_addClause (990 + 5) M9 a1 (0 : Int32) (0 : Int32) (0 : Int32)) (fun M11 => some M11)))) else none) else some M))
set_option maxHeartbeats 4000000 in
set_option maxRecDepth 20000 in
theorem c_X4_lawClause (l : Launch) (E : xE) (b : Nat) (M : xm) (a1 : Int32) {M' : xm} (hf : f_X4_lawClause M a1 = some M') :
    xMet l E b NX yX4_lawClause cX4_lawClause 2 none (xR 209) [.ref (b + 990), .int a1] (cX E b M) none True (cX E b M') := by
  refine xMet.ofW (own := RX4) (by decide) rfl (Nat.le_of_ble_eq_true rfl) ?_
  intro p e s m below meth c H locs ls C hm hl
  have hx := C.1.1
  have hb := C.1.2.1
  have hl : lv_has ls 2 [(0, .ref (b + 990)), (1, .int a1)] := hl
  unfold f_X4_lawClause at hf
  refine lv_iload_n hx hb dX4_lawClause_0 rfl (lv_at hl 1 rfl) ?_
  refine lv_if_lt (tgt := 9) hx hb dX4_lawClause_1 (by decide) (fun hc1 => ?_) (fun hc1 => ?_)
  · have hf := xif_t hc1 hf
    cases hf
    exact x_vret C hm trivial dX4_lawClause_9
  have hf := xif_f hc1 hf
  refine lv_iload_n hx hb dX4_lawClause_4 rfl (lv_at hl 1 rfl) ?_
  refine lv_iconst (v := (2 : Int32)) hx hb dX4_lawClause_5 (by decide) ?_
  refine lv_icmp_lt (tgt := 10) hx hb dX4_lawClause_6 (by decide) (fun hc2 => ?_) (fun hc2 => ?_)
  rotate_left
  · have hf := xif_f hc2 hf
    cases hf
    exact x_vret C hm trivial dX4_lawClause_9
  have hf := xif_t hc2 hf
  refine lv_aload_n hx hb dX4_lawClause_10 rfl (lv_at hl 0 rfl) ?_
  refine lv_iload_n hx hb dX4_lawClause_11 rfl (lv_at hl 1 rfl) ?_
  obtain ⟨M3, eM3, hf⟩ := xlet_x hf
  refine x_put (cf' := cX E b M3) C hm inX4 tyX4 tyX4_ok nmX4 rfl 10 (by decide) tf_RX4_47 rfl rfl rfl (cx_Reader (LX_reader 0 _ rfl)) (Nat.le_of_ble_eq_true rfl) (by rw [eM3]; exact cu_Reader_10 (LX_reader 0 _ rfl)) (by rw [eM3]; exact cX_o) dX4_lawClause_12 (fun H locs hm => ?_)
  refine lv_aload_n hx hb dX4_lawClause_15 rfl (lv_at hl 0 rfl) ?_
  refine x_get C hm inX4 rfl 4 (by decide) tf_RX4_27 (cx_Reader (LX_reader 0 _ rfl)) rfl dX4_lawClause_16 ?_
  refine x_get C hm inX7 rfl 6 (by decide) tf_RX4_136 (cx_Text ((lat_draft LX_reader) 0 _ rfl)) rfl dX4_lawClause_19 ?_
  refine lv_iload_n hx hb dX4_lawClause_22 rfl (lv_at hl 1 rfl) ?_
  refine lv_aload_n hx hb dX4_lawClause_23 rfl (lv_at hl 0 rfl) ?_
  refine x_get C hm inX4 rfl 4 (by decide) tf_RX4_27 (cx_Reader (LX_reader 0 _ rfl)) rfl dX4_lawClause_24 ?_
  refine x_get C hm inX7 rfl 9 (by decide) tf_RX4_139 (cx_Text ((lat_draft LX_reader) 0 _ rfl)) rfl dX4_lawClause_27 ?_
  obtain ⟨hi4, hf⟩ := xif_s hf
  obtain ⟨M5, eM5, hf⟩ := xlet_x hf
  refine x_iast (j := (Int32.toNatClampNeg a1)) (cf' := cX E b M5) C hm (cx_I ((lat_draft LX_reader) 7 _ rfl)) hi4 dX4_lawClause_30 rfl (by rw [eM5]; exact cu_I ((lat_draft LX_reader) 7 _ rfl)) (by rw [eM5]; exact cX_o) (fun H locs hm => ?_)
  refine lv_aload_n hx hb dX4_lawClause_31 rfl (lv_at hl 0 rfl) ?_
  refine lv_iconst (v := (0 : Int32)) hx hb dX4_lawClause_32 (by decide) ?_
  obtain ⟨M7, hq6, hf⟩ := xb1_e hf
  refine x_callVv (As := [.int (0 : Int32)]) (rest := []) C hm (c_X4_sum l E b M5 (0 : Int32) hq6) rfl (cx_Reader (LX_reader 0 _ rfl)) tc_X4_sum tm_RX4_142 ti_X4_sum ts_X4_sum tn_RX4 td_X4_sum rfl rfl ⟨Nat.le_of_ble_eq_true rfl, Nat.le_of_ble_eq_true rfl⟩ rfl hl.1 rfl (Nat.le_of_ble_eq_true rfl) dX4_lawClause_33 (fun H locs hP8 hm => ?_)
  refine lv_aload_n hx hb dX4_lawClause_36 rfl (lv_at hl 0 rfl) ?_
  refine x_get C hm inX4 rfl 4 (by decide) tf_RX4_27 (cx_Reader (LX_reader 0 _ rfl)) rfl dX4_lawClause_37 ?_
  refine x_get C hm inX7 rfl 7 (by decide) tf_RX4_145 (cx_Text ((lat_draft LX_reader) 0 _ rfl)) rfl dX4_lawClause_40 ?_
  refine lv_iload_n hx hb dX4_lawClause_43 rfl (lv_at hl 1 rfl) ?_
  refine lv_aload_n hx hb dX4_lawClause_44 rfl (lv_at hl 0 rfl) ?_
  refine x_get C hm inX4 rfl 4 (by decide) tf_RX4_27 (cx_Reader (LX_reader 0 _ rfl)) rfl dX4_lawClause_45 ?_
  refine x_get C hm inX7 rfl 9 (by decide) tf_RX4_139 (cx_Text ((lat_draft LX_reader) 0 _ rfl)) rfl dX4_lawClause_48 ?_
  obtain ⟨M9, eM9, hf⟩ := xlet_x hf
  refine x_iast (j := (Int32.toNatClampNeg a1)) (cf' := cX E b M9) C hm (cx_I ((lat_draft LX_reader) 8 _ rfl)) hi4 dX4_lawClause_51 rfl (by rw [eM9]; exact cu_I ((lat_draft LX_reader) 8 _ rfl)) (by rw [eM9]; exact cX_o) (fun H locs hm => ?_)
  refine lv_aload_n hx hb dX4_lawClause_52 rfl (lv_at hl 0 rfl) ?_
  refine x_get C hm inX4 rfl 4 (by decide) tf_RX4_27 (cx_Reader (LX_reader 0 _ rfl)) rfl dX4_lawClause_53 ?_
  refine lv_iload_n hx hb dX4_lawClause_56 rfl (lv_at hl 1 rfl) ?_
  refine lv_iconst (v := (0 : Int32)) hx hb dX4_lawClause_57 (by decide) ?_
  refine lv_iconst (v := (0 : Int32)) hx hb dX4_lawClause_58 (by decide) ?_
  refine lv_iconst (v := (0 : Int32)) hx hb dX4_lawClause_59 (by decide) ?_
  obtain ⟨M11, hq10, hf⟩ := xb1_e hf
  refine x_callVv (As := [.int a1, .int (0 : Int32), .int (0 : Int32), .int (0 : Int32)]) (rest := []) C hm (c_X7_addClause l E b (lat_draft LX_reader) M9 a1 (0 : Int32) (0 : Int32) (0 : Int32) hq10) rfl (cx_Text ((lat_draft LX_reader) 0 _ rfl)) tc_X7_addClause tm_RX4_148 ti_X7_addClause ts_X7_addClause tn_RX7 td_X7_addClause rfl rfl ⟨Nat.le_of_ble_eq_true rfl, Nat.le_of_ble_eq_true rfl⟩ rfl hl.1 rfl (Nat.le_of_ble_eq_true rfl) dX4_lawClause_60 (fun H locs hP12 hm => ?_)
  cases hf
  exact x_vret C hm trivial dX4_lawClause_63
/-! ColouredHeap$Reader.clause()V -/
theorem dX4_clause_0 : decode cX4_clause 0 = .ok (.aload_n 0, 1) := by decide +kernel
theorem dX4_clause_1 : decode cX4_clause 1 = .ok (.invokevirtual 111, 3) := by decide +kernel
theorem dX4_clause_4 : decode cX4_clause 4 = .ok (.istore_n 1, 1) := by decide +kernel
theorem dX4_clause_5 : decode cX4_clause 5 = .ok (.iload_n 1, 1) := by decide +kernel
theorem dX4_clause_6 : decode cX4_clause 6 = .ok (.bipush 6, 2) := by decide +kernel
theorem dX4_clause_8 : decode cX4_clause 8 = .ok (.if_icmp .le 11, 3) := by decide +kernel
theorem dX4_clause_11 : decode cX4_clause 11 = .ok (.aload_n 0, 1) := by decide +kernel
theorem dX4_clause_12 : decode cX4_clause 12 = .ok (.iconst 1, 1) := by decide +kernel
theorem dX4_clause_13 : decode cX4_clause 13 = .ok (.invokevirtual 114, 3) := by decide +kernel
theorem dX4_clause_16 : decode cX4_clause 16 = .ok (.goto 77, 3) := by decide +kernel
theorem dX4_clause_19 : decode cX4_clause 19 = .ok (.aload_n 0, 1) := by decide +kernel
theorem dX4_clause_20 : decode cX4_clause 20 = .ok (.getfield 27, 3) := by decide +kernel
theorem dX4_clause_23 : decode cX4_clause 23 = .ok (.iload_n 1, 1) := by decide +kernel
theorem dX4_clause_24 : decode cX4_clause 24 = .ok (.invokevirtual 121, 3) := by decide +kernel
theorem dX4_clause_27 : decode cX4_clause 27 = .ok (.ifCond .eq 11, 3) := by decide +kernel
theorem dX4_clause_30 : decode cX4_clause 30 = .ok (.aload_n 0, 1) := by decide +kernel
theorem dX4_clause_31 : decode cX4_clause 31 = .ok (.iconst 4, 1) := by decide +kernel
theorem dX4_clause_32 : decode cX4_clause 32 = .ok (.invokevirtual 114, 3) := by decide +kernel
theorem dX4_clause_35 : decode cX4_clause 35 = .ok (.goto 58, 3) := by decide +kernel
theorem dX4_clause_38 : decode cX4_clause 38 = .ok (.aload_n 0, 1) := by decide +kernel
theorem dX4_clause_39 : decode cX4_clause 39 = .ok (.getfield 27, 3) := by decide +kernel
theorem dX4_clause_42 : decode cX4_clause 42 = .ok (.getfield 124, 3) := by decide +kernel
theorem dX4_clause_45 : decode cX4_clause 45 = .ok (.bipush 24, 2) := by decide +kernel
theorem dX4_clause_47 : decode cX4_clause 47 = .ok (.if_icmp .lt 12, 3) := by decide +kernel
theorem dX4_clause_50 : decode cX4_clause 50 = .ok (.aload_n 0, 1) := by decide +kernel
theorem dX4_clause_51 : decode cX4_clause 51 = .ok (.bipush 6, 2) := by decide +kernel
theorem dX4_clause_53 : decode cX4_clause 53 = .ok (.invokevirtual 114, 3) := by decide +kernel
theorem dX4_clause_56 : decode cX4_clause 56 = .ok (.goto 37, 3) := by decide +kernel
theorem dX4_clause_59 : decode cX4_clause 59 = .ok (.aload_n 0, 1) := by decide +kernel
theorem dX4_clause_60 : decode cX4_clause 60 = .ok (.dup, 1) := by decide +kernel
theorem dX4_clause_61 : decode cX4_clause 61 = .ok (.getfield 44, 3) := by decide +kernel
theorem dX4_clause_64 : decode cX4_clause 64 = .ok (.iconst 1, 1) := by decide +kernel
theorem dX4_clause_65 : decode cX4_clause 65 = .ok (.iadd, 1) := by decide +kernel
theorem dX4_clause_66 : decode cX4_clause 66 = .ok (.putfield 44, 3) := by decide +kernel
theorem dX4_clause_69 : decode cX4_clause 69 = .ok (.iload_n 1, 1) := by decide +kernel
theorem dX4_clause_70 : decode cX4_clause 70 = .ok (.iconst 1, 1) := by decide +kernel
theorem dX4_clause_71 : decode cX4_clause 71 = .ok (.if_icmp .gt 11, 3) := by decide +kernel
theorem dX4_clause_74 : decode cX4_clause 74 = .ok (.aload_n 0, 1) := by decide +kernel
theorem dX4_clause_75 : decode cX4_clause 75 = .ok (.iload_n 1, 1) := by decide +kernel
theorem dX4_clause_76 : decode cX4_clause 76 = .ok (.invokevirtual 127, 3) := by decide +kernel
theorem dX4_clause_79 : decode cX4_clause 79 = .ok (.goto 8, 3) := by decide +kernel
theorem dX4_clause_82 : decode cX4_clause 82 = .ok (.aload_n 0, 1) := by decide +kernel
theorem dX4_clause_83 : decode cX4_clause 83 = .ok (.iload_n 1, 1) := by decide +kernel
theorem dX4_clause_84 : decode cX4_clause 84 = .ok (.invokevirtual 130, 3) := by decide +kernel
theorem dX4_clause_87 : decode cX4_clause 87 = .ok (.aload_n 0, 1) := by decide +kernel
theorem dX4_clause_88 : decode cX4_clause 88 = .ok (.bipush 37, 2) := by decide +kernel
theorem dX4_clause_90 : decode cX4_clause 90 = .ok (.invokevirtual 133, 3) := by decide +kernel
theorem dX4_clause_93 : decode cX4_clause 93 = .ok (.return_, 1) := by decide +kernel
def f_X4_clause (M : xm) : Option (xm) := xb1 (f_X4_nextKind M) (fun v2 => (if v2 ≤ (6 : Int32) then xb1 (f_X7_hasLaw (990 + 5) M v2) (fun v6 => (if v6 = 0 then (if (M (990 + 5) 8) < (24 : Int32) then xlet (up2 M 990 9 ((M 990 9) + (1 : Int32))) (fun M10 => (if (1 : Int32) < v2 then xb1 (f_X4_deedClause M10 v2) (fun M13 => xb1 (f_X4_want M13 (37 : Int32)) (fun M16 => some M16)) else xb1 (f_X4_lawClause M10 v2) (fun M19 => xb1 (f_X4_want M19 (37 : Int32)) (fun M22 => some M22)))) else xb1 (f_X4_refuse M (6 : Int32)) (fun M25 => some M25)) else xb1 (f_X4_refuse M (4 : Int32)) (fun M28 => some M28))) else xb1 (f_X4_refuse M (1 : Int32)) (fun M31 => some M31)))
set_option maxHeartbeats 4000000 in
set_option maxRecDepth 20000 in
theorem c_X4_clause (l : Launch) (E : xE) (b : Nat) (M : xm) {M' : xm} (hf : f_X4_clause M = some M') :
    xMet l E b NX yX4_clause cX4_clause 2 none (xR 210) [.ref (b + 990)] (cX E b M) none True (cX E b M') := by
  refine xMet.ofW (own := RX4) (by decide) rfl (Nat.le_of_ble_eq_true rfl) ?_
  intro p e s m below meth c H locs ls C hm hl
  have hx := C.1.1
  have hb := C.1.2.1
  have hl : lv_has ls 2 [(0, .ref (b + 990))] := hl
  unfold f_X4_clause at hf
  refine lv_aload_n hx hb dX4_clause_0 rfl (lv_at hl 0 rfl) ?_
  obtain ⟨v2, hq1, hf⟩ := xb1_e hf
  refine x_callVi (As := []) (rest := []) C hm (c_X4_nextKind l E b M hq1) rfl (cx_Reader (LX_reader 0 _ rfl)) tc_X4_nextKind tm_RX4_111 ti_X4_nextKind ts_X4_nextKind tn_RX4 td_X4_nextKind rfl rfl ⟨Nat.le_of_ble_eq_true rfl, Nat.le_of_ble_eq_true rfl⟩ rfl hl.1 rfl (Nat.le_of_ble_eq_true rfl) dX4_clause_1 (fun H locs hP3 hm => ?_)
  refine lv_istore_n (lv' := [(1, .int v2), (0, .ref (b + 990))]) hx hb dX4_clause_4 rfl hl (by decide) rfl (fun ls hl => ?_)
  refine lv_iload_n hx hb dX4_clause_5 rfl (lv_at hl 0 rfl) ?_
  refine lv_bipush (v := (6 : Int32)) hx hb dX4_clause_6 (by decide) ?_
  refine lv_icmp_le (tgt := 19) hx hb dX4_clause_8 (by decide) (fun hc4 => ?_) (fun hc4 => ?_)
  rotate_left
  · have hf := xif_f hc4 hf
    refine lv_aload_n hx hb dX4_clause_11 rfl (lv_at hl 1 rfl) ?_
    refine lv_iconst (v := (1 : Int32)) hx hb dX4_clause_12 (by decide) ?_
    obtain ⟨M31, hq30, hf⟩ := xb1_e hf
    refine x_callVv (As := [.int (1 : Int32)]) (rest := []) C hm (c_X4_refuse l E b M (1 : Int32) hq30) rfl (cx_Reader (LX_reader 0 _ rfl)) tc_X4_refuse tm_RX4_114 ti_X4_refuse ts_X4_refuse tn_RX4 td_X4_refuse rfl rfl ⟨Nat.le_of_ble_eq_true rfl, Nat.le_of_ble_eq_true rfl⟩ rfl hl.1 rfl (Nat.le_of_ble_eq_true rfl) dX4_clause_13 (fun H locs hP32 hm => ?_)
    refine lv_goto (tgt := 93) hx hb dX4_clause_16 (by decide) ?_
    cases hf
    exact x_vret C hm trivial dX4_clause_93
  have hf := xif_t hc4 hf
  refine lv_aload_n hx hb dX4_clause_19 rfl (lv_at hl 1 rfl) ?_
  refine x_get C hm inX4 rfl 4 (by decide) tf_RX4_27 (cx_Reader (LX_reader 0 _ rfl)) rfl dX4_clause_20 ?_
  refine lv_iload_n hx hb dX4_clause_23 rfl (lv_at hl 0 rfl) ?_
  obtain ⟨v6, hq5, hf⟩ := xb1_e hf
  refine x_callVi (As := [.int v2]) (rest := []) C hm (c_X7_hasLaw l E b (lat_draft LX_reader) M v2 hq5) rfl (cx_Text ((lat_draft LX_reader) 0 _ rfl)) tc_X7_hasLaw tm_RX4_121 ti_X7_hasLaw ts_X7_hasLaw tn_RX7 td_X7_hasLaw rfl rfl ⟨Nat.le_of_ble_eq_true rfl, Nat.le_of_ble_eq_true rfl⟩ rfl hl.1 rfl (Nat.le_of_ble_eq_true rfl) dX4_clause_24 (fun H locs hP7 hm => ?_)
  refine lv_if_eq (tgt := 38) hx hb dX4_clause_27 (by decide) (fun hc8 => ?_) (fun hc8 => ?_)
  rotate_left
  · have hf := xif_f hc8 hf
    refine lv_aload_n hx hb dX4_clause_30 rfl (lv_at hl 1 rfl) ?_
    refine lv_iconst (v := (4 : Int32)) hx hb dX4_clause_31 (by decide) ?_
    obtain ⟨M28, hq27, hf⟩ := xb1_e hf
    refine x_callVv (As := [.int (4 : Int32)]) (rest := []) C hm (c_X4_refuse l E b M (4 : Int32) hq27) rfl (cx_Reader (LX_reader 0 _ rfl)) tc_X4_refuse tm_RX4_114 ti_X4_refuse ts_X4_refuse tn_RX4 td_X4_refuse rfl rfl ⟨Nat.le_of_ble_eq_true rfl, Nat.le_of_ble_eq_true rfl⟩ rfl hl.1 rfl (Nat.le_of_ble_eq_true rfl) dX4_clause_32 (fun H locs hP29 hm => ?_)
    refine lv_goto (tgt := 93) hx hb dX4_clause_35 (by decide) ?_
    cases hf
    exact x_vret C hm trivial dX4_clause_93
  have hf := xif_t hc8 hf
  refine lv_aload_n hx hb dX4_clause_38 rfl (lv_at hl 1 rfl) ?_
  refine x_get C hm inX4 rfl 4 (by decide) tf_RX4_27 (cx_Reader (LX_reader 0 _ rfl)) rfl dX4_clause_39 ?_
  refine x_get C hm inX7 rfl 8 (by decide) tf_RX4_124 (cx_Text ((lat_draft LX_reader) 0 _ rfl)) rfl dX4_clause_42 ?_
  refine lv_bipush (v := (24 : Int32)) hx hb dX4_clause_45 (by decide) ?_
  refine lv_icmp_lt (tgt := 59) hx hb dX4_clause_47 (by decide) (fun hc9 => ?_) (fun hc9 => ?_)
  rotate_left
  · have hf := xif_f hc9 hf
    refine lv_aload_n hx hb dX4_clause_50 rfl (lv_at hl 1 rfl) ?_
    refine lv_bipush (v := (6 : Int32)) hx hb dX4_clause_51 (by decide) ?_
    obtain ⟨M25, hq24, hf⟩ := xb1_e hf
    refine x_callVv (As := [.int (6 : Int32)]) (rest := []) C hm (c_X4_refuse l E b M (6 : Int32) hq24) rfl (cx_Reader (LX_reader 0 _ rfl)) tc_X4_refuse tm_RX4_114 ti_X4_refuse ts_X4_refuse tn_RX4 td_X4_refuse rfl rfl ⟨Nat.le_of_ble_eq_true rfl, Nat.le_of_ble_eq_true rfl⟩ rfl hl.1 rfl (Nat.le_of_ble_eq_true rfl) dX4_clause_53 (fun H locs hP26 hm => ?_)
    refine lv_goto (tgt := 93) hx hb dX4_clause_56 (by decide) ?_
    cases hf
    exact x_vret C hm trivial dX4_clause_93
  have hf := xif_t hc9 hf
  refine lv_aload_n hx hb dX4_clause_59 rfl (lv_at hl 1 rfl) ?_
  refine lv_dup hx hb dX4_clause_60 rfl ?_
  refine x_get C hm inX4 rfl 9 (by decide) tf_RX4_44 (cx_Reader (LX_reader 0 _ rfl)) rfl dX4_clause_61 ?_
  refine lv_iconst (v := (1 : Int32)) hx hb dX4_clause_64 (by decide) ?_
  refine lv_iadd hx hb dX4_clause_65 ?_
  obtain ⟨M10, eM10, hf⟩ := xlet_x hf
  refine x_put (cf' := cX E b M10) C hm inX4 tyX4 tyX4_ok nmX4 rfl 9 (by decide) tf_RX4_44 rfl rfl rfl (cx_Reader (LX_reader 0 _ rfl)) (Nat.le_of_ble_eq_true rfl) (by rw [eM10]; exact cu_Reader_9 (LX_reader 0 _ rfl)) (by rw [eM10]; exact cX_o) dX4_clause_66 (fun H locs hm => ?_)
  refine lv_iload_n hx hb dX4_clause_69 rfl (lv_at hl 0 rfl) ?_
  refine lv_iconst (v := (1 : Int32)) hx hb dX4_clause_70 (by decide) ?_
  refine lv_icmp_gt (tgt := 82) hx hb dX4_clause_71 (by decide) (fun hc11 => ?_) (fun hc11 => ?_)
  · have hf := xif_t hc11 hf
    refine lv_aload_n hx hb dX4_clause_82 rfl (lv_at hl 1 rfl) ?_
    refine lv_iload_n hx hb dX4_clause_83 rfl (lv_at hl 0 rfl) ?_
    obtain ⟨M13, hq12, hf⟩ := xb1_e hf
    refine x_callVv (As := [.int v2]) (rest := []) C hm (c_X4_deedClause l E b M10 v2 hq12) rfl (cx_Reader (LX_reader 0 _ rfl)) tc_X4_deedClause tm_RX4_130 ti_X4_deedClause ts_X4_deedClause tn_RX4 td_X4_deedClause rfl rfl ⟨Nat.le_of_ble_eq_true rfl, Nat.le_of_ble_eq_true rfl⟩ rfl hl.1 rfl (Nat.le_of_ble_eq_true rfl) dX4_clause_84 (fun H locs hP14 hm => ?_)
    refine lv_aload_n hx hb dX4_clause_87 rfl (lv_at hl 1 rfl) ?_
    refine lv_bipush (v := (37 : Int32)) hx hb dX4_clause_88 (by decide) ?_
    obtain ⟨M16, hq15, hf⟩ := xb1_e hf
    refine x_callVv (As := [.int (37 : Int32)]) (rest := []) C hm (c_X4_want l E b M13 (37 : Int32) hq15) rfl (cx_Reader (LX_reader 0 _ rfl)) tc_X4_want tm_RX4_133 ti_X4_want ts_X4_want tn_RX4 td_X4_want rfl rfl ⟨Nat.le_of_ble_eq_true rfl, Nat.le_of_ble_eq_true rfl⟩ rfl hl.1 rfl (Nat.le_of_ble_eq_true rfl) dX4_clause_90 (fun H locs hP17 hm => ?_)
    cases hf
    exact x_vret C hm trivial dX4_clause_93
  have hf := xif_f hc11 hf
  refine lv_aload_n hx hb dX4_clause_74 rfl (lv_at hl 1 rfl) ?_
  refine lv_iload_n hx hb dX4_clause_75 rfl (lv_at hl 0 rfl) ?_
  obtain ⟨M19, hq18, hf⟩ := xb1_e hf
  refine x_callVv (As := [.int v2]) (rest := []) C hm (c_X4_lawClause l E b M10 v2 hq18) rfl (cx_Reader (LX_reader 0 _ rfl)) tc_X4_lawClause tm_RX4_127 ti_X4_lawClause ts_X4_lawClause tn_RX4 td_X4_lawClause rfl rfl ⟨Nat.le_of_ble_eq_true rfl, Nat.le_of_ble_eq_true rfl⟩ rfl hl.1 rfl (Nat.le_of_ble_eq_true rfl) dX4_clause_76 (fun H locs hP20 hm => ?_)
  refine lv_goto (tgt := 87) hx hb dX4_clause_79 (by decide) ?_
  refine lv_aload_n hx hb dX4_clause_87 rfl (lv_at hl 1 rfl) ?_
  refine lv_bipush (v := (37 : Int32)) hx hb dX4_clause_88 (by decide) ?_
  obtain ⟨M22, hq21, hf⟩ := xb1_e hf
  refine x_callVv (As := [.int (37 : Int32)]) (rest := []) C hm (c_X4_want l E b M19 (37 : Int32) hq21) rfl (cx_Reader (LX_reader 0 _ rfl)) tc_X4_want tm_RX4_133 ti_X4_want ts_X4_want tn_RX4 td_X4_want rfl rfl ⟨Nat.le_of_ble_eq_true rfl, Nat.le_of_ble_eq_true rfl⟩ rfl hl.1 rfl (Nat.le_of_ble_eq_true rfl) dX4_clause_90 (fun H locs hP23 hm => ?_)
  cases hf
  exact x_vret C hm trivial dX4_clause_93
/-! ColouredHeap$Reader.isDigit(I)Z -/
theorem dX4_isDigit_0 : decode cX4_isDigit 0 = .ok (.iload_n 0, 1) := by decide +kernel
theorem dX4_isDigit_1 : decode cX4_isDigit 1 = .ok (.bipush 48, 2) := by decide +kernel
theorem dX4_isDigit_3 : decode cX4_isDigit 3 = .ok (.if_icmp .lt 13, 3) := by decide +kernel
theorem dX4_isDigit_6 : decode cX4_isDigit 6 = .ok (.iload_n 0, 1) := by decide +kernel
theorem dX4_isDigit_7 : decode cX4_isDigit 7 = .ok (.bipush 57, 2) := by decide +kernel
theorem dX4_isDigit_9 : decode cX4_isDigit 9 = .ok (.if_icmp .gt 7, 3) := by decide +kernel
theorem dX4_isDigit_12 : decode cX4_isDigit 12 = .ok (.iconst 1, 1) := by decide +kernel
theorem dX4_isDigit_13 : decode cX4_isDigit 13 = .ok (.goto 4, 3) := by decide +kernel
theorem dX4_isDigit_16 : decode cX4_isDigit 16 = .ok (.iconst 0, 1) := by decide +kernel
theorem dX4_isDigit_17 : decode cX4_isDigit 17 = .ok (.ireturn, 1) := by decide +kernel
def f_X4_isDigit (a0 : Int32) : Int32 := (if a0 < (48 : Int32) then (0 : Int32) else (if (57 : Int32) < a0 then (0 : Int32) else (1 : Int32)))
set_option maxHeartbeats 4000000 in
set_option maxRecDepth 20000 in
theorem c_X4_isDigit (l : Launch) (E : xE) (b : Nat) (M : xm) (a0 : Int32) {r : Int32} (hf : f_X4_isDigit a0 = r) :
    xMet l E b NX yX4_isDigit cX4_isDigit 1 (some .boolean) (xR 1) [.int a0] (cX E b M) (some (.int r)) (xbo r = true) (cX E b M) := by
  refine xMet.ofW (own := RX4) (by decide) rfl (Nat.le_of_ble_eq_true rfl) ?_
  intro p e s m below meth c H locs ls C hm hl
  have hx := C.1.1
  have hb := C.1.2.1
  have hl : lv_has ls 1 [(0, .int a0)] := hl
  unfold f_X4_isDigit at hf
  refine lv_iload_n hx hb dX4_isDigit_0 rfl (lv_at hl 0 rfl) ?_
  refine lv_bipush (v := (48 : Int32)) hx hb dX4_isDigit_1 (by decide) ?_
  refine lv_icmp_lt (tgt := 16) hx hb dX4_isDigit_3 (by decide) (fun hc1 => ?_) (fun hc1 => ?_)
  · have hf := xif_t hc1 hf
    refine lv_iconst (v := (0 : Int32)) hx hb dX4_isDigit_16 (by decide) ?_
    cases hf
    exact x_zret C hm (by decide) (by decide) dX4_isDigit_17
  have hf := xif_f hc1 hf
  refine lv_iload_n hx hb dX4_isDigit_6 rfl (lv_at hl 0 rfl) ?_
  refine lv_bipush (v := (57 : Int32)) hx hb dX4_isDigit_7 (by decide) ?_
  refine lv_icmp_gt (tgt := 16) hx hb dX4_isDigit_9 (by decide) (fun hc2 => ?_) (fun hc2 => ?_)
  · have hf := xif_t hc2 hf
    refine lv_iconst (v := (0 : Int32)) hx hb dX4_isDigit_16 (by decide) ?_
    cases hf
    exact x_zret C hm (by decide) (by decide) dX4_isDigit_17
  have hf := xif_f hc2 hf
  refine lv_iconst (v := (1 : Int32)) hx hb dX4_isDigit_12 (by decide) ?_
  refine lv_goto (tgt := 17) hx hb dX4_isDigit_13 (by decide) ?_
  cases hf
  exact x_zret C hm (by decide) (by decide) dX4_isDigit_17
/-! ColouredHeap$Reader.isLetter(I)Z -/
theorem dX4_isLetter_0 : decode cX4_isLetter 0 = .ok (.iload_n 0, 1) := by decide +kernel
theorem dX4_isLetter_1 : decode cX4_isLetter 1 = .ok (.bipush 97, 2) := by decide +kernel
theorem dX4_isLetter_3 : decode cX4_isLetter 3 = .ok (.if_icmp .lt 9, 3) := by decide +kernel
theorem dX4_isLetter_6 : decode cX4_isLetter 6 = .ok (.iload_n 0, 1) := by decide +kernel
theorem dX4_isLetter_7 : decode cX4_isLetter 7 = .ok (.bipush 122, 2) := by decide +kernel
theorem dX4_isLetter_9 : decode cX4_isLetter 9 = .ok (.if_icmp .le 15, 3) := by decide +kernel
theorem dX4_isLetter_12 : decode cX4_isLetter 12 = .ok (.iload_n 0, 1) := by decide +kernel
theorem dX4_isLetter_13 : decode cX4_isLetter 13 = .ok (.bipush 65, 2) := by decide +kernel
theorem dX4_isLetter_15 : decode cX4_isLetter 15 = .ok (.if_icmp .lt 13, 3) := by decide +kernel
theorem dX4_isLetter_18 : decode cX4_isLetter 18 = .ok (.iload_n 0, 1) := by decide +kernel
theorem dX4_isLetter_19 : decode cX4_isLetter 19 = .ok (.bipush 90, 2) := by decide +kernel
theorem dX4_isLetter_21 : decode cX4_isLetter 21 = .ok (.if_icmp .gt 7, 3) := by decide +kernel
theorem dX4_isLetter_24 : decode cX4_isLetter 24 = .ok (.iconst 1, 1) := by decide +kernel
theorem dX4_isLetter_25 : decode cX4_isLetter 25 = .ok (.goto 4, 3) := by decide +kernel
theorem dX4_isLetter_28 : decode cX4_isLetter 28 = .ok (.iconst 0, 1) := by decide +kernel
theorem dX4_isLetter_29 : decode cX4_isLetter 29 = .ok (.ireturn, 1) := by decide +kernel
def f_X4_isLetter (a0 : Int32) : Int32 := xlet ((if a0 < (65 : Int32) then (0 : Int32) else (if (90 : Int32) < a0 then (0 : Int32) else (1 : Int32)))) (fun k1 => (if a0 < (97 : Int32) then k1 else (if a0 ≤ (122 : Int32) then (1 : Int32) else k1)))
set_option maxHeartbeats 4000000 in
set_option maxRecDepth 20000 in
theorem c_X4_isLetter (l : Launch) (E : xE) (b : Nat) (M : xm) (a0 : Int32) {r : Int32} (hf : f_X4_isLetter a0 = r) :
    xMet l E b NX yX4_isLetter cX4_isLetter 1 (some .boolean) (xR 1) [.int a0] (cX E b M) (some (.int r)) (xbo r = true) (cX E b M) := by
  refine xMet.ofW (own := RX4) (by decide) rfl (Nat.le_of_ble_eq_true rfl) ?_
  intro p e s m below meth c H locs ls C hm hl
  have hx := C.1.1
  have hb := C.1.2.1
  have hl : lv_has ls 1 [(0, .int a0)] := hl
  unfold f_X4_isLetter at hf
  refine lv_iload_n hx hb dX4_isLetter_0 rfl (lv_at hl 0 rfl) ?_
  refine lv_bipush (v := (97 : Int32)) hx hb dX4_isLetter_1 (by decide) ?_
  obtain ⟨k1, ek1, hf⟩ := xlet_x hf
  have jk1 : ∀  (H : Heap) (locs : List Loc) (ls : Array Slot), k1 = r → xM E b NX (cX E b M) s.heap H locs → lv_has ls 1 [(0, .int a0)] → W p l e (xR 1) s m ([.int a0] : List Value).toArray below meth c H locs 0 0 (MQ below (xQ E b NX (some (.int r)) (xbo r = true) (cX E b M)) ([.int a0] : List Value).toArray s 0 0 (xA b NX)) (F0 m 12 ls []) := by
    intro  H locs ls hf hm hl
    have hf := xap0 ek1 hf
    refine lv_iload_n hx hb dX4_isLetter_12 rfl (lv_at hl 0 rfl) ?_
    refine lv_bipush (v := (65 : Int32)) hx hb dX4_isLetter_13 (by decide) ?_
    refine lv_icmp_lt (tgt := 28) hx hb dX4_isLetter_15 (by decide) (fun hc2 => ?_) (fun hc2 => ?_)
    · have hf := xif_t hc2 hf
      refine lv_iconst (v := (0 : Int32)) hx hb dX4_isLetter_28 (by decide) ?_
      cases hf
      exact x_zret C hm (by decide) (by decide) dX4_isLetter_29
    have hf := xif_f hc2 hf
    refine lv_iload_n hx hb dX4_isLetter_18 rfl (lv_at hl 0 rfl) ?_
    refine lv_bipush (v := (90 : Int32)) hx hb dX4_isLetter_19 (by decide) ?_
    refine lv_icmp_gt (tgt := 28) hx hb dX4_isLetter_21 (by decide) (fun hc3 => ?_) (fun hc3 => ?_)
    · have hf := xif_t hc3 hf
      refine lv_iconst (v := (0 : Int32)) hx hb dX4_isLetter_28 (by decide) ?_
      cases hf
      exact x_zret C hm (by decide) (by decide) dX4_isLetter_29
    have hf := xif_f hc3 hf
    refine lv_iconst (v := (1 : Int32)) hx hb dX4_isLetter_24 (by decide) ?_
    refine lv_goto (tgt := 29) hx hb dX4_isLetter_25 (by decide) ?_
    cases hf
    exact x_zret C hm (by decide) (by decide) dX4_isLetter_29
  refine lv_icmp_lt (tgt := 12) hx hb dX4_isLetter_3 (by decide) (fun hc4 => ?_) (fun hc4 => ?_)
  · have hf := xif_t hc4 hf
    exact jk1  H locs ls  hf hm (lv_sub hl [0] rfl)
  have hf := xif_f hc4 hf
  refine lv_iload_n hx hb dX4_isLetter_6 rfl (lv_at hl 0 rfl) ?_
  refine lv_bipush (v := (122 : Int32)) hx hb dX4_isLetter_7 (by decide) ?_
  refine lv_icmp_le (tgt := 24) hx hb dX4_isLetter_9 (by decide) (fun hc5 => ?_) (fun hc5 => ?_)
  rotate_left
  · have hf := xif_f hc5 hf
    exact jk1  H locs ls  hf hm (lv_sub hl [0] rfl)
  have hf := xif_t hc5 hf
  refine lv_iconst (v := (1 : Int32)) hx hb dX4_isLetter_24 (by decide) ?_
  refine lv_goto (tgt := 29) hx hb dX4_isLetter_25 (by decide) ?_
  cases hf
  exact x_zret C hm (by decide) (by decide) dX4_isLetter_29
/-! ColouredHeap$Text.clear()V -/
theorem dX7_clear_0 : decode cX7_clear 0 = .ok (.aload_n 0, 1) := by decide +kernel
theorem dX7_clear_1 : decode cX7_clear 1 = .ok (.iconst 0, 1) := by decide +kernel
theorem dX7_clear_2 : decode cX7_clear 2 = .ok (.putfield 36, 3) := by decide +kernel
theorem dX7_clear_5 : decode cX7_clear 5 = .ok (.aload_n 0, 1) := by decide +kernel
theorem dX7_clear_6 : decode cX7_clear 6 = .ok (.iconst 0, 1) := by decide +kernel
theorem dX7_clear_7 : decode cX7_clear 7 = .ok (.putfield 40, 3) := by decide +kernel
theorem dX7_clear_10 : decode cX7_clear 10 = .ok (.aload_n 0, 1) := by decide +kernel
theorem dX7_clear_11 : decode cX7_clear 11 = .ok (.getfield 30, 3) := by decide +kernel
theorem dX7_clear_14 : decode cX7_clear 14 = .ok (.iconst (-1), 1) := by decide +kernel
theorem dX7_clear_15 : decode cX7_clear 15 = .ok (.invokestatic 49, 3) := by decide +kernel
theorem dX7_clear_18 : decode cX7_clear 18 = .ok (.aload_n 0, 1) := by decide +kernel
theorem dX7_clear_19 : decode cX7_clear 19 = .ok (.getfield 33, 3) := by decide +kernel
theorem dX7_clear_22 : decode cX7_clear 22 = .ok (.iconst (-1), 1) := by decide +kernel
theorem dX7_clear_23 : decode cX7_clear 23 = .ok (.invokestatic 49, 3) := by decide +kernel
theorem dX7_clear_26 : decode cX7_clear 26 = .ok (.return_, 1) := by decide +kernel
def f_X7_clear (u0 : Nat) (M : xm) : Option (xm) := xlet (up2 M u0 8 (0 : Int32)) (fun M1 => xlet (up2 M1 u0 9 (0 : Int32)) (fun M2 => xb1 (f_J7_fill_53178 (u0 + 7) 2 M2 (-1 : Int32)) (fun M4 => xb1 (f_J7_fill_53178 (u0 + 8) 2 M4 (-1 : Int32)) (fun M7 => some M7))))
set_option maxHeartbeats 4000000 in
set_option maxRecDepth 20000 in
theorem c_X7_clear (l : Launch) (E : xE) (b : Nat) {u0 : Nat} (L_u0 : lat u0 pText) (M : xm) {M' : xm} (hf : f_X7_clear u0 M = some M') :
    xMet l E b NX yX7_clear cX7_clear 1 none (xR 2) [.ref (b + u0)] (cX E b M) none True (cX E b M') := by
  refine xMet.ofW (own := RX7) (by decide) rfl (Nat.le_of_ble_eq_true rfl) ?_
  intro p e s m below meth c H locs ls C hm hl
  have hx := C.1.1
  have hb := C.1.2.1
  have hl : lv_has ls 1 [(0, .ref (b + u0))] := hl
  unfold f_X7_clear at hf
  refine lv_aload_n hx hb dX7_clear_0 rfl (lv_at hl 0 rfl) ?_
  refine lv_iconst (v := (0 : Int32)) hx hb dX7_clear_1 (by decide) ?_
  obtain ⟨M1, eM1, hf⟩ := xlet_x hf
  refine x_put (cf' := cX E b M1) C hm inX7 tyX7 tyX7_ok nmX7 rfl 8 (by decide) tf_RX7_36 rfl rfl rfl (cx_Text (L_u0 0 _ rfl)) (Nat.le_of_ble_eq_true rfl) (by rw [eM1]; exact cu_Text_8 (L_u0 0 _ rfl)) (by rw [eM1]; exact cX_o) dX7_clear_2 (fun H locs hm => ?_)
  refine lv_aload_n hx hb dX7_clear_5 rfl (lv_at hl 0 rfl) ?_
  refine lv_iconst (v := (0 : Int32)) hx hb dX7_clear_6 (by decide) ?_
  obtain ⟨M2, eM2, hf⟩ := xlet_x hf
  refine x_put (cf' := cX E b M2) C hm inX7 tyX7 tyX7_ok nmX7 rfl 9 (by decide) tf_RX7_40 rfl rfl rfl (cx_Text (L_u0 0 _ rfl)) (Nat.le_of_ble_eq_true rfl) (by rw [eM2]; exact cu_Text_9 (L_u0 0 _ rfl)) (by rw [eM2]; exact cX_o) dX7_clear_7 (fun H locs hm => ?_)
  refine lv_aload_n hx hb dX7_clear_10 rfl (lv_at hl 0 rfl) ?_
  refine x_get C hm inX7 rfl 6 (by decide) tf_RX7_30 (cx_Text (L_u0 0 _ rfl)) rfl dX7_clear_11 ?_
  refine lv_iconst (v := (-1 : Int32)) hx hb dX7_clear_14 (by decide) ?_
  obtain ⟨M4, hq3, hf⟩ := xb1_e hf
  refine x_callSv (As := [.ref (b + (u0 + 7)), .int (-1 : Int32)]) (rest := []) C hm (c_J7_fill_53178 l E b (L_u0 7 _ rfl) M2 (-1 : Int32) hq3) tc_J7_fill_53178 tm_RX7_49 tz_J7_fill_53178 tn_RJ7 td_J7_fill_53178 rfl rfl ⟨Nat.le_of_ble_eq_true rfl, Nat.le_of_ble_eq_true rfl⟩ rfl hl.1 rfl (Nat.le_of_ble_eq_true rfl) dX7_clear_15 (fun H locs hP5 hm => ?_)
  refine lv_aload_n hx hb dX7_clear_18 rfl (lv_at hl 0 rfl) ?_
  refine x_get C hm inX7 rfl 7 (by decide) tf_RX7_33 (cx_Text (L_u0 0 _ rfl)) rfl dX7_clear_19 ?_
  refine lv_iconst (v := (-1 : Int32)) hx hb dX7_clear_22 (by decide) ?_
  obtain ⟨M7, hq6, hf⟩ := xb1_e hf
  refine x_callSv (As := [.ref (b + (u0 + 8)), .int (-1 : Int32)]) (rest := []) C hm (c_J7_fill_53178 l E b (L_u0 8 _ rfl) M4 (-1 : Int32) hq6) tc_J7_fill_53178 tm_RX7_49 tz_J7_fill_53178 tn_RJ7 td_J7_fill_53178 rfl rfl ⟨Nat.le_of_ble_eq_true rfl, Nat.le_of_ble_eq_true rfl⟩ rfl hl.1 rfl (Nat.le_of_ble_eq_true rfl) dX7_clear_23 (fun H locs hP8 hm => ?_)
  cases hf
  exact x_vret C hm trivial dX7_clear_26
/-! ColouredHeap$Steps.keep()V -/
theorem dX5_keep_0 : decode cX5_keep 0 = .ok (.aload_n 0, 1) := by decide +kernel
theorem dX5_keep_1 : decode cX5_keep 1 = .ok (.getfield 21, 3) := by decide +kernel
theorem dX5_keep_4 : decode cX5_keep 4 = .ok (.bipush 30, 2) := by decide +kernel
theorem dX5_keep_6 : decode cX5_keep 6 = .ok (.if_icmp .ge 16, 3) := by decide +kernel
theorem dX5_keep_9 : decode cX5_keep 9 = .ok (.aload_n 0, 1) := by decide +kernel
theorem dX5_keep_10 : decode cX5_keep 10 = .ok (.dup, 1) := by decide +kernel
theorem dX5_keep_11 : decode cX5_keep 11 = .ok (.getfield 21, 3) := by decide +kernel
theorem dX5_keep_14 : decode cX5_keep 14 = .ok (.iconst 1, 1) := by decide +kernel
theorem dX5_keep_15 : decode cX5_keep 15 = .ok (.iadd, 1) := by decide +kernel
theorem dX5_keep_16 : decode cX5_keep 16 = .ok (.putfield 21, 3) := by decide +kernel
theorem dX5_keep_19 : decode cX5_keep 19 = .ok (.goto 16, 3) := by decide +kernel
theorem dX5_keep_22 : decode cX5_keep 22 = .ok (.aload_n 0, 1) := by decide +kernel
theorem dX5_keep_23 : decode cX5_keep 23 = .ok (.aload_n 0, 1) := by decide +kernel
theorem dX5_keep_24 : decode cX5_keep 24 = .ok (.getfield 17, 3) := by decide +kernel
theorem dX5_keep_27 : decode cX5_keep 27 = .ok (.iconst 1, 1) := by decide +kernel
theorem dX5_keep_28 : decode cX5_keep 28 = .ok (.iadd, 1) := by decide +kernel
theorem dX5_keep_29 : decode cX5_keep 29 = .ok (.bipush 31, 2) := by decide +kernel
theorem dX5_keep_31 : decode cX5_keep 31 = .ok (.irem, 1) := by decide +kernel
theorem dX5_keep_32 : decode cX5_keep 32 = .ok (.putfield 17, 3) := by decide +kernel
theorem dX5_keep_35 : decode cX5_keep 35 = .ok (.return_, 1) := by decide +kernel
def f_X5_keep (u0 : Nat) (M : xm) : Option (xm) := (if (30 : Int32) ≤ (M u0 2) then xlet (up2 M u0 1 (xrem ((M u0 1) + (1 : Int32)) (31 : Int32))) (fun M2 => some M2) else xlet (up2 M u0 2 ((M u0 2) + (1 : Int32))) (fun M3 => some M3))
set_option maxHeartbeats 4000000 in
set_option maxRecDepth 20000 in
theorem c_X5_keep (l : Launch) (E : xE) (b : Nat) {u0 : Nat} (L_u0 : lat u0 pSteps) (M : xm) {M' : xm} (hf : f_X5_keep u0 M = some M') :
    xMet l E b NX yX5_keep cX5_keep 1 none (xR 1) [.ref (b + u0)] (cX E b M) none True (cX E b M') := by
  refine xMet.ofW (own := RX5) (by decide) rfl (Nat.le_of_ble_eq_true rfl) ?_
  intro p e s m below meth c H locs ls C hm hl
  have hx := C.1.1
  have hb := C.1.2.1
  have hl : lv_has ls 1 [(0, .ref (b + u0))] := hl
  unfold f_X5_keep at hf
  refine lv_aload_n hx hb dX5_keep_0 rfl (lv_at hl 0 rfl) ?_
  refine x_get C hm inX5 rfl 2 (by decide) tf_RX5_21 (cx_Steps (L_u0 0 _ rfl)) rfl dX5_keep_1 ?_
  refine lv_bipush (v := (30 : Int32)) hx hb dX5_keep_4 (by decide) ?_
  refine lv_icmp_ge (tgt := 22) hx hb dX5_keep_6 (by decide) (fun hc1 => ?_) (fun hc1 => ?_)
  rotate_left
  · have hf := xif_f hc1 hf
    refine lv_aload_n hx hb dX5_keep_9 rfl (lv_at hl 0 rfl) ?_
    refine lv_dup hx hb dX5_keep_10 rfl ?_
    refine x_get C hm inX5 rfl 2 (by decide) tf_RX5_21 (cx_Steps (L_u0 0 _ rfl)) rfl dX5_keep_11 ?_
    refine lv_iconst (v := (1 : Int32)) hx hb dX5_keep_14 (by decide) ?_
    refine lv_iadd hx hb dX5_keep_15 ?_
    obtain ⟨M3, eM3, hf⟩ := xlet_x hf
    refine x_put (cf' := cX E b M3) C hm inX5 tyX5 tyX5_ok nmX5 rfl 2 (by decide) tf_RX5_21 rfl rfl rfl (cx_Steps (L_u0 0 _ rfl)) (Nat.le_of_ble_eq_true rfl) (by rw [eM3]; exact cu_Steps_2 (L_u0 0 _ rfl)) (by rw [eM3]; exact cX_o) dX5_keep_16 (fun H locs hm => ?_)
    refine lv_goto (tgt := 35) hx hb dX5_keep_19 (by decide) ?_
    cases hf
    exact x_vret C hm trivial dX5_keep_35
  have hf := xif_t hc1 hf
  refine lv_aload_n hx hb dX5_keep_22 rfl (lv_at hl 0 rfl) ?_
  refine lv_aload_n hx hb dX5_keep_23 rfl (lv_at hl 0 rfl) ?_
  refine x_get C hm inX5 rfl 1 (by decide) tf_RX5_17 (cx_Steps (L_u0 0 _ rfl)) rfl dX5_keep_24 ?_
  refine lv_iconst (v := (1 : Int32)) hx hb dX5_keep_27 (by decide) ?_
  refine lv_iadd hx hb dX5_keep_28 ?_
  refine lv_bipush (v := (31 : Int32)) hx hb dX5_keep_29 (by decide) ?_
  refine lv_irem hx hb dX5_keep_31 (by decide) ?_
  obtain ⟨M2, eM2, hf⟩ := xlet_x hf
  refine x_put (cf' := cX E b M2) C hm inX5 tyX5 tyX5_ok nmX5 rfl 1 (by decide) tf_RX5_17 rfl rfl rfl (cx_Steps (L_u0 0 _ rfl)) (Nat.le_of_ble_eq_true rfl) (by rw [eM2]; exact cu_Steps_1 (L_u0 0 _ rfl)) (by rw [eM2]; exact cX_o) dX5_keep_32 (fun H locs hm => ?_)
  cases hf
  exact x_vret C hm trivial dX5_keep_35
/-! ColouredHeap$Steps.row(I)LColouredHeap$Heap; -/
theorem dX5_row_0 : decode cX5_row 0 = .ok (.aload_n 0, 1) := by decide +kernel
theorem dX5_row_1 : decode cX5_row 1 = .ok (.getfield 17, 3) := by decide +kernel
theorem dX5_row_4 : decode cX5_row 4 = .ok (.iload_n 1, 1) := by decide +kernel
theorem dX5_row_5 : decode cX5_row 5 = .ok (.iadd, 1) := by decide +kernel
theorem dX5_row_6 : decode cX5_row 6 = .ok (.bipush 31, 2) := by decide +kernel
theorem dX5_row_8 : decode cX5_row 8 = .ok (.irem, 1) := by decide +kernel
theorem dX5_row_9 : decode cX5_row 9 = .ok (.istore_n 2, 1) := by decide +kernel
theorem dX5_row_10 : decode cX5_row 10 = .ok (.iload_n 2, 1) := by decide +kernel
theorem dX5_row_11 : decode cX5_row 11 = .ok (.ifCond .lt 12, 3) := by decide +kernel
theorem dX5_row_14 : decode cX5_row 14 = .ok (.aload_n 0, 1) := by decide +kernel
theorem dX5_row_15 : decode cX5_row 15 = .ok (.getfield 13, 3) := by decide +kernel
theorem dX5_row_18 : decode cX5_row 18 = .ok (.iload_n 2, 1) := by decide +kernel
theorem dX5_row_19 : decode cX5_row 19 = .ok (.aaload, 1) := by decide +kernel
theorem dX5_row_20 : decode cX5_row 20 = .ok (.goto 4, 3) := by decide +kernel
theorem dX5_row_23 : decode cX5_row 23 = .ok (.aconst_null, 1) := by decide +kernel
theorem dX5_row_24 : decode cX5_row 24 = .ok (.areturn, 1) := by decide +kernel
def f_X5_row (u0 : Nat) (M : xm) (a1 : Int32) : Option (Option Nat) := xlet (xrem ((M u0 1) + a1) (31 : Int32)) (fun v1 => (if v1 < 0 then some none else if xin v1 31 = true then some (some ((u0 + 1) + (1 + 15 * (Int32.toNatClampNeg v1)))) else none))
set_option maxHeartbeats 4000000 in
set_option maxRecDepth 20000 in
theorem c_X5_row (l : Launch) (E : xE) (b : Nat) {u0 : Nat} (L_u0 : lat u0 pSteps) (M : xm) (a1 : Int32) {r : Option Nat} (hf : f_X5_row u0 M a1 = some r) :
    xMet l E b NX yX5_row cX5_row 3 (some (.object "ColouredHeap$Heap")) (xR 1) [.ref (b + u0), .int a1] (cX E b M) (some (xrf b r)) True (cX E b M) := by
  refine xMet.ofW (own := RX5) (by decide) rfl (Nat.le_of_ble_eq_true rfl) ?_
  intro p e s m below meth c H locs ls C hm hl
  have hx := C.1.1
  have hb := C.1.2.1
  have hl : lv_has ls 3 [(0, .ref (b + u0)), (1, .int a1)] := hl
  unfold f_X5_row at hf
  refine lv_aload_n hx hb dX5_row_0 rfl (lv_at hl 0 rfl) ?_
  refine x_get C hm inX5 rfl 1 (by decide) tf_RX5_17 (cx_Steps (L_u0 0 _ rfl)) rfl dX5_row_1 ?_
  refine lv_iload_n hx hb dX5_row_4 rfl (lv_at hl 1 rfl) ?_
  refine lv_iadd hx hb dX5_row_5 ?_
  refine lv_bipush (v := (31 : Int32)) hx hb dX5_row_6 (by decide) ?_
  refine lv_irem hx hb dX5_row_8 (by decide) ?_
  refine lv_topi (fun v1 ev1 => ?_)
  have hf := xlet_e ev1 hf
  refine lv_istore_n (lv' := [(2, .int v1), (0, .ref (b + u0)), (1, .int a1)]) hx hb dX5_row_9 rfl hl (by decide) rfl (fun ls hl => ?_)
  refine lv_iload_n hx hb dX5_row_10 rfl (lv_at hl 0 rfl) ?_
  refine lv_if_lt (tgt := 23) hx hb dX5_row_11 (by decide) (fun hc2 => ?_) (fun hc2 => ?_)
  · have hf := xif_t hc2 hf
    refine lv_null hx hb dX5_row_23 ?_
    cases hf
    exact x_aret C hm trivial (Or.inl ⟨_, rfl⟩) (Or.inl rfl) dX5_row_24
  have hf := xif_f hc2 hf
  refine lv_aload_n hx hb dX5_row_14 rfl (lv_at hl 1 rfl) ?_
  refine x_get C hm inX5 rfl 0 (by decide) tf_RX5_13 (cx_Steps (L_u0 0 _ rfl)) rfl dX5_row_15 ?_
  refine lv_iload_n hx hb dX5_row_18 rfl (lv_at hl 0 rfl) ?_
  obtain ⟨hi3, hf⟩ := xif_s hf
  refine x_aald (t0 := 3) (Cn := "ColouredHeap$Heap") (d := (fun i => (u0 + 1) + (1 + 15 * i))) C hm (cx_H (L_u0 1 _ rfl)) rfl hi3 rfl dX5_row_19 ?_
  refine lv_goto (tgt := 24) hx hb dX5_row_20 (by decide) ?_
  cases hf
  exact x_aret C hm trivial (Or.inl ⟨_, rfl⟩) (Or.inr ⟨_, rfl⟩) dX5_row_24
theorem X5_row_lat {q : Nat} (L : lat q pSteps) {M : xm} {i : Int32} {o : Option Nat} (h : f_X5_row q M i = some o) : ∀ k, o = some k → lat k pHeap := by
  intro k hk
  subst hk
  unfold f_X5_row xlet at h
  split at h
  · cases h
  · split at h
    · next h2 => cases h; exact lat_rowE L (xin_lt h2)
    · cases h
/-! ColouredHeap$Steps.prepare(LColouredHeap$Heap;)V -/
theorem dX5_prepare_0 : decode cX5_prepare 0 = .ok (.aload_n 0, 1) := by decide +kernel
theorem dX5_prepare_1 : decode cX5_prepare 1 = .ok (.aload_n 0, 1) := by decide +kernel
theorem dX5_prepare_2 : decode cX5_prepare 2 = .ok (.getfield 21, 3) := by decide +kernel
theorem dX5_prepare_5 : decode cX5_prepare 5 = .ok (.invokevirtual 25, 3) := by decide +kernel
theorem dX5_prepare_8 : decode cX5_prepare 8 = .ok (.astore_n 2, 1) := by decide +kernel
theorem dX5_prepare_9 : decode cX5_prepare 9 = .ok (.aload_n 2, 1) := by decide +kernel
theorem dX5_prepare_10 : decode cX5_prepare 10 = .ok (.ifnull 8, 3) := by decide +kernel
theorem dX5_prepare_13 : decode cX5_prepare 13 = .ok (.aload_n 2, 1) := by decide +kernel
theorem dX5_prepare_14 : decode cX5_prepare 14 = .ok (.aload_n 1, 1) := by decide +kernel
theorem dX5_prepare_15 : decode cX5_prepare 15 = .ok (.invokevirtual 29, 3) := by decide +kernel
theorem dX5_prepare_18 : decode cX5_prepare 18 = .ok (.return_, 1) := by decide +kernel
def f_X5_prepare (u0 : Nat) (u1 : Nat) (M : xm) : Option (xm) := xb1 (f_X5_row u0 M (M u0 2)) (fun o2 => xopt o2 (some M) (fun o4 => xb1 (f_X1_takeOver o4 u1 M) (fun M7 => some M7)))
set_option maxHeartbeats 4000000 in
set_option maxRecDepth 20000 in
theorem c_X5_prepare (l : Launch) (E : xE) (b : Nat) {u0 : Nat} (L_u0 : lat u0 pSteps) {u1 : Nat} (L_u1 : lat u1 pHeap) (M : xm) {M' : xm} (hf : f_X5_prepare u0 u1 M = some M') :
    xMet l E b NX yX5_prepare cX5_prepare 3 none (xR 4) [.ref (b + u0), .ref (b + u1)] (cX E b M) none True (cX E b M') := by
  refine xMet.ofW (own := RX5) (by decide) rfl (Nat.le_of_ble_eq_true rfl) ?_
  intro p e s m below meth c H locs ls C hm hl
  have hx := C.1.1
  have hb := C.1.2.1
  have hl : lv_has ls 3 [(0, .ref (b + u0)), (1, .ref (b + u1))] := hl
  unfold f_X5_prepare at hf
  refine lv_aload_n hx hb dX5_prepare_0 rfl (lv_at hl 0 rfl) ?_
  refine lv_aload_n hx hb dX5_prepare_1 rfl (lv_at hl 0 rfl) ?_
  refine x_get C hm inX5 rfl 2 (by decide) tf_RX5_21 (cx_Steps (L_u0 0 _ rfl)) rfl dX5_prepare_2 ?_
  obtain ⟨o2, hq1, hf⟩ := xb1_e hf
  refine x_callVr (As := [.int (M u0 2)]) (rest := []) C hm (c_X5_row l E b L_u0 M (M u0 2) hq1) rfl (cx_Steps (L_u0 0 _ rfl)) tc_X5_row tm_RX5_25 ti_X5_row ts_X5_row tn_RX5 td_X5_row rfl rfl ⟨Nat.le_of_ble_eq_true rfl, Nat.le_of_ble_eq_true rfl⟩ rfl hl.1 rfl (Nat.le_of_ble_eq_true rfl) dX5_prepare_5 (fun H locs hP3 hm => ?_)
  refine x_astoreQ_n (b := b) (o := o2) (lv' := [(2, xrf b o2), (0, .ref (b + u0)), (1, .ref (b + u1))]) hx hb dX5_prepare_8 rfl hl (by decide) (by cases o2 <;> rfl) (fun ls hl => ?_)
  refine x_aloadQ_n (b := b) (o := o2) hx hb dX5_prepare_9 rfl (lv_at hl 0 rfl) ?_
  refine x_ifnullQ (b := b) (o := o2) (tgt := 18) hx hb dX5_prepare_10 (by decide) (fun hn5 => ?_) (fun o4 hn5 => ?_)
  · subst hn5
    have hf := xopt_n hf
    have hl := lv_sub (l' := [(0, .ref (b + u0)), (1, .ref (b + u1))]) hl [1, 2] rfl
    cases hf
    exact x_vret C hm trivial dX5_prepare_18
  subst hn5
  have hf := xopt_s hf
  have hl : lv_has ls 3 [(2, .ref (b + o4)), (0, .ref (b + u0)), (1, .ref (b + u1))] := hl
  refine lv_aload_n hx hb dX5_prepare_13 rfl (lv_at hl 0 rfl) ?_
  refine lv_aload_n hx hb dX5_prepare_14 rfl (lv_at hl 2 rfl) ?_
  obtain ⟨M7, hq6, hf⟩ := xb1_e hf
  refine x_callVv (As := [.ref (b + u1)]) (rest := []) C hm (c_X1_takeOver l E b ((X5_row_lat L_u0 hq1) o4 rfl) L_u1 M hq6) rfl (cx_Heap (((X5_row_lat L_u0 hq1) o4 rfl) 0 _ rfl)) tc_X1_takeOver tm_RX5_29 ti_X1_takeOver ts_X1_takeOver tn_RX1 td_X1_takeOver rfl rfl ⟨Nat.le_of_ble_eq_true rfl, Nat.le_of_ble_eq_true rfl⟩ rfl hl.1 rfl (Nat.le_of_ble_eq_true rfl) dX5_prepare_15 (fun H locs hP8 hm => ?_)
  cases hf
  exact x_vret C hm trivial dX5_prepare_18
/-! ColouredHeap$Steps.takeBack(LColouredHeap$Heap;)V -/
theorem dX5_takeBack_0 : decode cX5_takeBack 0 = .ok (.aload_n 0, 1) := by decide +kernel
theorem dX5_takeBack_1 : decode cX5_takeBack 1 = .ok (.getfield 21, 3) := by decide +kernel
theorem dX5_takeBack_4 : decode cX5_takeBack 4 = .ok (.iconst 1, 1) := by decide +kernel
theorem dX5_takeBack_5 : decode cX5_takeBack 5 = .ok (.if_icmp .ge 4, 3) := by decide +kernel
theorem dX5_takeBack_8 : decode cX5_takeBack 8 = .ok (.return_, 1) := by decide +kernel
theorem dX5_takeBack_9 : decode cX5_takeBack 9 = .ok (.aload_n 0, 1) := by decide +kernel
theorem dX5_takeBack_10 : decode cX5_takeBack 10 = .ok (.dup, 1) := by decide +kernel
theorem dX5_takeBack_11 : decode cX5_takeBack 11 = .ok (.getfield 21, 3) := by decide +kernel
theorem dX5_takeBack_14 : decode cX5_takeBack 14 = .ok (.iconst 1, 1) := by decide +kernel
theorem dX5_takeBack_15 : decode cX5_takeBack 15 = .ok (.isub, 1) := by decide +kernel
theorem dX5_takeBack_16 : decode cX5_takeBack 16 = .ok (.putfield 21, 3) := by decide +kernel
theorem dX5_takeBack_19 : decode cX5_takeBack 19 = .ok (.aload_n 0, 1) := by decide +kernel
theorem dX5_takeBack_20 : decode cX5_takeBack 20 = .ok (.aload_n 0, 1) := by decide +kernel
theorem dX5_takeBack_21 : decode cX5_takeBack 21 = .ok (.getfield 21, 3) := by decide +kernel
theorem dX5_takeBack_24 : decode cX5_takeBack 24 = .ok (.invokevirtual 25, 3) := by decide +kernel
theorem dX5_takeBack_27 : decode cX5_takeBack 27 = .ok (.astore_n 2, 1) := by decide +kernel
theorem dX5_takeBack_28 : decode cX5_takeBack 28 = .ok (.aload_n 2, 1) := by decide +kernel
theorem dX5_takeBack_29 : decode cX5_takeBack 29 = .ok (.ifnull 8, 3) := by decide +kernel
theorem dX5_takeBack_32 : decode cX5_takeBack 32 = .ok (.aload_n 1, 1) := by decide +kernel
theorem dX5_takeBack_33 : decode cX5_takeBack 33 = .ok (.aload_n 2, 1) := by decide +kernel
theorem dX5_takeBack_34 : decode cX5_takeBack 34 = .ok (.invokevirtual 29, 3) := by decide +kernel
theorem dX5_takeBack_37 : decode cX5_takeBack 37 = .ok (.return_, 1) := by decide +kernel
def f_X5_takeBack (u0 : Nat) (u1 : Nat) (M : xm) : Option (xm) := (if (1 : Int32) ≤ (M u0 2) then xlet (up2 M u0 2 ((M u0 2) - (1 : Int32))) (fun M2 => xb1 (f_X5_row u0 M2 (M2 u0 2)) (fun o4 => xopt o4 (some M2) (fun o6 => xb1 (f_X1_takeOver u1 o6 M2) (fun M9 => some M9)))) else some M)
set_option maxHeartbeats 4000000 in
set_option maxRecDepth 20000 in
theorem c_X5_takeBack (l : Launch) (E : xE) (b : Nat) {u0 : Nat} (L_u0 : lat u0 pSteps) {u1 : Nat} (L_u1 : lat u1 pHeap) (M : xm) {M' : xm} (hf : f_X5_takeBack u0 u1 M = some M') :
    xMet l E b NX yX5_takeBack cX5_takeBack 3 none (xR 4) [.ref (b + u0), .ref (b + u1)] (cX E b M) none True (cX E b M') := by
  refine xMet.ofW (own := RX5) (by decide) rfl (Nat.le_of_ble_eq_true rfl) ?_
  intro p e s m below meth c H locs ls C hm hl
  have hx := C.1.1
  have hb := C.1.2.1
  have hl : lv_has ls 3 [(0, .ref (b + u0)), (1, .ref (b + u1))] := hl
  unfold f_X5_takeBack at hf
  refine lv_aload_n hx hb dX5_takeBack_0 rfl (lv_at hl 0 rfl) ?_
  refine x_get C hm inX5 rfl 2 (by decide) tf_RX5_21 (cx_Steps (L_u0 0 _ rfl)) rfl dX5_takeBack_1 ?_
  refine lv_iconst (v := (1 : Int32)) hx hb dX5_takeBack_4 (by decide) ?_
  refine lv_icmp_ge (tgt := 9) hx hb dX5_takeBack_5 (by decide) (fun hc1 => ?_) (fun hc1 => ?_)
  rotate_left
  · have hf := xif_f hc1 hf
    cases hf
    exact x_vret C hm trivial dX5_takeBack_8
  have hf := xif_t hc1 hf
  refine lv_aload_n hx hb dX5_takeBack_9 rfl (lv_at hl 0 rfl) ?_
  refine lv_dup hx hb dX5_takeBack_10 rfl ?_
  refine x_get C hm inX5 rfl 2 (by decide) tf_RX5_21 (cx_Steps (L_u0 0 _ rfl)) rfl dX5_takeBack_11 ?_
  refine lv_iconst (v := (1 : Int32)) hx hb dX5_takeBack_14 (by decide) ?_
  refine lv_isub hx hb dX5_takeBack_15 ?_
  obtain ⟨M2, eM2, hf⟩ := xlet_x hf
  refine x_put (cf' := cX E b M2) C hm inX5 tyX5 tyX5_ok nmX5 rfl 2 (by decide) tf_RX5_21 rfl rfl rfl (cx_Steps (L_u0 0 _ rfl)) (Nat.le_of_ble_eq_true rfl) (by rw [eM2]; exact cu_Steps_2 (L_u0 0 _ rfl)) (by rw [eM2]; exact cX_o) dX5_takeBack_16 (fun H locs hm => ?_)
  refine lv_aload_n hx hb dX5_takeBack_19 rfl (lv_at hl 0 rfl) ?_
  refine lv_aload_n hx hb dX5_takeBack_20 rfl (lv_at hl 0 rfl) ?_
  refine x_get C hm inX5 rfl 2 (by decide) tf_RX5_21 (cx_Steps (L_u0 0 _ rfl)) rfl dX5_takeBack_21 ?_
  obtain ⟨o4, hq3, hf⟩ := xb1_e hf
  refine x_callVr (As := [.int (M2 u0 2)]) (rest := []) C hm (c_X5_row l E b L_u0 M2 (M2 u0 2) hq3) rfl (cx_Steps (L_u0 0 _ rfl)) tc_X5_row tm_RX5_25 ti_X5_row ts_X5_row tn_RX5 td_X5_row rfl rfl ⟨Nat.le_of_ble_eq_true rfl, Nat.le_of_ble_eq_true rfl⟩ rfl hl.1 rfl (Nat.le_of_ble_eq_true rfl) dX5_takeBack_24 (fun H locs hP5 hm => ?_)
  refine x_astoreQ_n (b := b) (o := o4) (lv' := [(2, xrf b o4), (0, .ref (b + u0)), (1, .ref (b + u1))]) hx hb dX5_takeBack_27 rfl hl (by decide) (by cases o4 <;> rfl) (fun ls hl => ?_)
  refine x_aloadQ_n (b := b) (o := o4) hx hb dX5_takeBack_28 rfl (lv_at hl 0 rfl) ?_
  refine x_ifnullQ (b := b) (o := o4) (tgt := 37) hx hb dX5_takeBack_29 (by decide) (fun hn7 => ?_) (fun o6 hn7 => ?_)
  · subst hn7
    have hf := xopt_n hf
    have hl := lv_sub (l' := [(0, .ref (b + u0)), (1, .ref (b + u1))]) hl [1, 2] rfl
    cases hf
    exact x_vret C hm trivial dX5_takeBack_37
  subst hn7
  have hf := xopt_s hf
  have hl : lv_has ls 3 [(2, .ref (b + o6)), (0, .ref (b + u0)), (1, .ref (b + u1))] := hl
  refine lv_aload_n hx hb dX5_takeBack_32 rfl (lv_at hl 2 rfl) ?_
  refine lv_aload_n hx hb dX5_takeBack_33 rfl (lv_at hl 0 rfl) ?_
  obtain ⟨M9, hq8, hf⟩ := xb1_e hf
  refine x_callVv (As := [.ref (b + o6)]) (rest := []) C hm (c_X1_takeOver l E b L_u1 ((X5_row_lat L_u0 hq3) o6 rfl) M2 hq8) rfl (cx_Heap (L_u1 0 _ rfl)) tc_X1_takeOver tm_RX5_29 ti_X1_takeOver ts_X1_takeOver tn_RX1 td_X1_takeOver rfl rfl ⟨Nat.le_of_ble_eq_true rfl, Nat.le_of_ble_eq_true rfl⟩ rfl hl.1 rfl (Nat.le_of_ble_eq_true rfl) dX5_takeBack_34 (fun H locs hP10 hm => ?_)
  cases hf
  exact x_vret C hm trivial dX5_takeBack_37
/-! ColouredHeap$Steps.takeOver(LColouredHeap$Steps;)V -/
theorem dX5_takeOver_0 : decode cX5_takeOver 0 = .ok (.aload_n 0, 1) := by decide +kernel
theorem dX5_takeOver_1 : decode cX5_takeOver 1 = .ok (.iconst 0, 1) := by decide +kernel
theorem dX5_takeOver_2 : decode cX5_takeOver 2 = .ok (.putfield 17, 3) := by decide +kernel
theorem dX5_takeOver_5 : decode cX5_takeOver 5 = .ok (.aload_n 0, 1) := by decide +kernel
theorem dX5_takeOver_6 : decode cX5_takeOver 6 = .ok (.aload_n 1, 1) := by decide +kernel
theorem dX5_takeOver_7 : decode cX5_takeOver 7 = .ok (.getfield 21, 3) := by decide +kernel
theorem dX5_takeOver_10 : decode cX5_takeOver 10 = .ok (.putfield 21, 3) := by decide +kernel
theorem dX5_takeOver_13 : decode cX5_takeOver 13 = .ok (.iconst 0, 1) := by decide +kernel
theorem dX5_takeOver_14 : decode cX5_takeOver 14 = .ok (.istore_n 2, 1) := by decide +kernel
theorem dX5_takeOver_15 : decode cX5_takeOver 15 = .ok (.iload_n 2, 1) := by decide +kernel
theorem dX5_takeOver_16 : decode cX5_takeOver 16 = .ok (.aload_n 0, 1) := by decide +kernel
theorem dX5_takeOver_17 : decode cX5_takeOver 17 = .ok (.getfield 21, 3) := by decide +kernel
theorem dX5_takeOver_20 : decode cX5_takeOver 20 = .ok (.if_icmp .ge 37, 3) := by decide +kernel
theorem dX5_takeOver_23 : decode cX5_takeOver 23 = .ok (.aload_n 0, 1) := by decide +kernel
theorem dX5_takeOver_24 : decode cX5_takeOver 24 = .ok (.iload_n 2, 1) := by decide +kernel
theorem dX5_takeOver_25 : decode cX5_takeOver 25 = .ok (.invokevirtual 25, 3) := by decide +kernel
theorem dX5_takeOver_28 : decode cX5_takeOver 28 = .ok (.astore_n 3, 1) := by decide +kernel
theorem dX5_takeOver_29 : decode cX5_takeOver 29 = .ok (.aload_n 1, 1) := by decide +kernel
theorem dX5_takeOver_30 : decode cX5_takeOver 30 = .ok (.iload_n 2, 1) := by decide +kernel
theorem dX5_takeOver_31 : decode cX5_takeOver 31 = .ok (.invokevirtual 25, 3) := by decide +kernel
theorem dX5_takeOver_34 : decode cX5_takeOver 34 = .ok (.astore 4, 2) := by decide +kernel
theorem dX5_takeOver_36 : decode cX5_takeOver 36 = .ok (.aload_n 3, 1) := by decide +kernel
theorem dX5_takeOver_37 : decode cX5_takeOver 37 = .ok (.ifnull 14, 3) := by decide +kernel
theorem dX5_takeOver_40 : decode cX5_takeOver 40 = .ok (.aload 4, 2) := by decide +kernel
theorem dX5_takeOver_42 : decode cX5_takeOver 42 = .ok (.ifnull 9, 3) := by decide +kernel
theorem dX5_takeOver_45 : decode cX5_takeOver 45 = .ok (.aload_n 3, 1) := by decide +kernel
theorem dX5_takeOver_46 : decode cX5_takeOver 46 = .ok (.aload 4, 2) := by decide +kernel
theorem dX5_takeOver_48 : decode cX5_takeOver 48 = .ok (.invokevirtual 29, 3) := by decide +kernel
theorem dX5_takeOver_51 : decode cX5_takeOver 51 = .ok (.iinc 2 1, 3) := by decide +kernel
theorem dX5_takeOver_54 : decode cX5_takeOver 54 = .ok (.goto (-39), 3) := by decide +kernel
theorem dX5_takeOver_57 : decode cX5_takeOver 57 = .ok (.return_, 1) := by decide +kernel
def g_X5_takeOver_15 (o3 : Nat) (o4 : Nat) : Nat → xm → Int32 → Option ((xm))
  | 0, _, _ => none
  | n + 1, M6, x5 => (if (M6 o3 2) ≤ x5 then some (M6) else xb1 (f_X5_row o3 M6 x5) (fun o10 => xb1 (f_X5_row o4 M6 x5) (fun o13 => xopt o10 (xlet (x5 + (1 : Int32)) (fun v17 => g_X5_takeOver_15 o3 o4 n M6 v17)) (fun o15 => xopt o13 (xlet (x5 + (1 : Int32)) (fun v20 => g_X5_takeOver_15 o3 o4 n M6 v20)) (fun o18 => xb1 (f_X1_takeOver o15 o18 M6) (fun M22 => xlet (x5 + (1 : Int32)) (fun v24 => g_X5_takeOver_15 o3 o4 n M22 v24)))))))
def f_X5_takeOver (u0 : Nat) (u1 : Nat) (M : xm) : Option (xm) := xlet (up2 M u0 1 (0 : Int32)) (fun M1 => xlet (up2 M1 u0 2 (M1 u1 2)) (fun M2 => xb1 (g_X5_takeOver_15 u0 u1 xfuel M2 (0 : Int32)) (fun M25 => some M25)))
set_option maxHeartbeats 4000000 in
set_option maxRecDepth 20000 in
theorem j_X5_takeOver_15 {p : Program} {l : Launch} {e : Env} {s : State} {m : MethodId} {args : Array Value} {below : List Frame} {meth : Method} {c : Code} {Q : State → Prop} {E : xE} {b : Nat} (C : xC p s m args meth c cX5_takeOver 5 RX5 none E) {o3 : Nat} (L_o3 : lat o3 pSteps) {o4 : Nat} (L_o4 : lat o4 pSteps) {y7 : xm}
    (kx0 : ∀ (H : Heap) (locs : List Loc) (ls : Array Slot), xM E b NX (cX E b y7) s.heap H locs → lv_has ls 5 [] → W p l e (xR 4) s m args below meth c H locs 0 0 Q (F0 m 57 ls [])) :
    ∀ (n : Nat) (M6 : xm) (x5 : Int32) (H : Heap) (locs : List Loc) (ls : Array Slot), g_X5_takeOver_15 o3 o4 n M6 x5 = some y7 → xM E b NX (cX E b M6) s.heap H locs → lv_has ls 5 [(0, .ref (b + o3)), (1, .ref (b + o4)), (2, .int x5)] → W p l e (xR 4) s m args below meth c H locs 0 0 Q (F0 m 15 ls []) := by
  have hx := C.1.1
  have hb := C.1.2.1
  intro n
  induction n with
  | zero =>
    intro M6 x5 H locs ls hf hm hl
    rw [g_X5_takeOver_15] at hf
    cases hf
  | succ n ih =>
    intro M6 x5 H locs ls hf hm hl
    rw [g_X5_takeOver_15] at hf
    refine lv_iload_n hx hb dX5_takeOver_15 rfl (lv_at hl 2 rfl) ?_
    refine lv_aload_n hx hb dX5_takeOver_16 rfl (lv_at hl 0 rfl) ?_
    refine x_get C hm inX5 rfl 2 (by decide) tf_RX5_21 (cx_Steps (L_o3 0 _ rfl)) rfl dX5_takeOver_17 ?_
    refine lv_icmp_ge (tgt := 57) hx hb dX5_takeOver_20 (by decide) (fun hc8 => ?_) (fun hc8 => ?_)
    · have hf := xif_t hc8 hf
      cases hf
      exact kx0 H locs ls hm (lv_sub hl [] rfl)
    have hf := xif_f hc8 hf
    refine lv_aload_n hx hb dX5_takeOver_23 rfl (lv_at hl 0 rfl) ?_
    refine lv_iload_n hx hb dX5_takeOver_24 rfl (lv_at hl 2 rfl) ?_
    obtain ⟨o10, hq9, hf⟩ := xb1_e hf
    refine x_callVr (As := [.int x5]) (rest := []) C hm (c_X5_row l E b L_o3 M6 x5 hq9) rfl (cx_Steps (L_o3 0 _ rfl)) tc_X5_row tm_RX5_25 ti_X5_row ts_X5_row tn_RX5 td_X5_row rfl rfl ⟨Nat.le_of_ble_eq_true rfl, Nat.le_of_ble_eq_true rfl⟩ rfl hl.1 rfl (Nat.le_of_ble_eq_true rfl) dX5_takeOver_25 (fun H locs hP11 hm => ?_)
    refine x_astoreQ_n (b := b) (o := o10) (lv' := [(3, xrf b o10), (0, .ref (b + o3)), (1, .ref (b + o4)), (2, .int x5)]) hx hb dX5_takeOver_28 rfl hl (by decide) (by cases o10 <;> rfl) (fun ls hl => ?_)
    refine lv_aload_n hx hb dX5_takeOver_29 rfl (lv_at hl 2 rfl) ?_
    refine lv_iload_n hx hb dX5_takeOver_30 rfl (lv_at hl 3 rfl) ?_
    obtain ⟨o13, hq12, hf⟩ := xb1_e hf
    refine x_callVr (As := [.int x5]) (rest := []) C hm (c_X5_row l E b L_o4 M6 x5 hq12) rfl (cx_Steps (L_o4 0 _ rfl)) tc_X5_row tm_RX5_25 ti_X5_row ts_X5_row tn_RX5 td_X5_row rfl rfl ⟨Nat.le_of_ble_eq_true rfl, Nat.le_of_ble_eq_true rfl⟩ rfl hl.1 rfl (Nat.le_of_ble_eq_true rfl) dX5_takeOver_31 (fun H locs hP14 hm => ?_)
    refine x_astoreQ (b := b) (o := o13) (lv' := [(4, xrf b o13), (3, xrf b o10), (0, .ref (b + o3)), (1, .ref (b + o4)), (2, .int x5)]) hx hb dX5_takeOver_34 hl (by decide) (by cases o10 <;> cases o13 <;> rfl) (fun ls hl => ?_)
    refine x_aloadQ_n (b := b) (o := o10) hx hb dX5_takeOver_36 rfl (lv_at hl 1 rfl) ?_
    refine x_ifnullQ (b := b) (o := o10) (tgt := 51) hx hb dX5_takeOver_37 (by decide) (fun hn16 => ?_) (fun o15 hn16 => ?_)
    · subst hn16
      have hf := xopt_n hf
      have hl := lv_sub (l' := [(4, xrf b o13), (0, .ref (b + o3)), (1, .ref (b + o4)), (2, .int x5)]) hl [0, 2, 3, 4] rfl
      obtain ⟨v17, ev17, hf⟩ := xlet_x hf
      refine lv_iinc (v := v17) (lv' := [(2, .int v17), (4, xrf b o13), (0, .ref (b + o3)), (1, .ref (b + o4))]) hx hb dX5_takeOver_51 hl (k := 3) rfl (by rw [ev17]; rfl) (by decide) (by cases o13 <;> rfl) (fun ls hl => ?_)
      refine lv_goto (tgt := 15) hx hb dX5_takeOver_54 (by decide) ?_
      exact ih M6 v17 H locs ls hf hm (lv_sub hl [2, 3, 0] rfl)
    subst hn16
    have hf := xopt_s hf
    have hl : lv_has ls 5 [(4, xrf b o13), (3, .ref (b + o15)), (0, .ref (b + o3)), (1, .ref (b + o4)), (2, .int x5)] := hl
    refine x_aloadQ (b := b) (o := o13) hx hb dX5_takeOver_40 (lv_at hl 0 rfl) ?_
    refine x_ifnullQ (b := b) (o := o13) (tgt := 51) hx hb dX5_takeOver_42 (by decide) (fun hn19 => ?_) (fun o18 hn19 => ?_)
    · subst hn19
      have hf := xopt_n hf
      have hl := lv_sub (l' := [(3, .ref (b + o15)), (0, .ref (b + o3)), (1, .ref (b + o4)), (2, .int x5)]) hl [1, 2, 3, 4] rfl
      obtain ⟨v20, ev20, hf⟩ := xlet_x hf
      refine lv_iinc (v := v20) (lv' := [(2, .int v20), (3, .ref (b + o15)), (0, .ref (b + o3)), (1, .ref (b + o4))]) hx hb dX5_takeOver_51 hl (k := 3) rfl (by rw [ev20]; rfl) (by decide) rfl (fun ls hl => ?_)
      refine lv_goto (tgt := 15) hx hb dX5_takeOver_54 (by decide) ?_
      exact ih M6 v20 H locs ls hf hm (lv_sub hl [2, 3, 0] rfl)
    subst hn19
    have hf := xopt_s hf
    have hl : lv_has ls 5 [(4, .ref (b + o18)), (3, .ref (b + o15)), (0, .ref (b + o3)), (1, .ref (b + o4)), (2, .int x5)] := hl
    refine lv_aload_n hx hb dX5_takeOver_45 rfl (lv_at hl 1 rfl) ?_
    refine lv_aload hx hb dX5_takeOver_46 (lv_at hl 0 rfl) ?_
    obtain ⟨M22, hq21, hf⟩ := xb1_e hf
    refine x_callVv (As := [.ref (b + o18)]) (rest := []) C hm (c_X1_takeOver l E b ((X5_row_lat L_o3 hq9) o15 rfl) ((X5_row_lat L_o4 hq12) o18 rfl) M6 hq21) rfl (cx_Heap (((X5_row_lat L_o3 hq9) o15 rfl) 0 _ rfl)) tc_X1_takeOver tm_RX5_29 ti_X1_takeOver ts_X1_takeOver tn_RX1 td_X1_takeOver rfl rfl ⟨Nat.le_of_ble_eq_true rfl, Nat.le_of_ble_eq_true rfl⟩ rfl hl.1 rfl (Nat.le_of_ble_eq_true rfl) dX5_takeOver_48 (fun H locs hP23 hm => ?_)
    obtain ⟨v24, ev24, hf⟩ := xlet_x hf
    refine lv_iinc (v := v24) (lv' := [(2, .int v24), (4, .ref (b + o18)), (3, .ref (b + o15)), (0, .ref (b + o3)), (1, .ref (b + o4))]) hx hb dX5_takeOver_51 hl (k := 4) rfl (by rw [ev24]; rfl) (by decide) rfl (fun ls hl => ?_)
    refine lv_goto (tgt := 15) hx hb dX5_takeOver_54 (by decide) ?_
    exact ih M22 v24 H locs ls hf hm (lv_sub hl [3, 4, 0] rfl)
set_option maxHeartbeats 4000000 in
set_option maxRecDepth 20000 in
theorem c_X5_takeOver (l : Launch) (E : xE) (b : Nat) {u0 : Nat} (L_u0 : lat u0 pSteps) {u1 : Nat} (L_u1 : lat u1 pSteps) (M : xm) {M' : xm} (hf : f_X5_takeOver u0 u1 M = some M') :
    xMet l E b NX yX5_takeOver cX5_takeOver 5 none (xR 4) [.ref (b + u0), .ref (b + u1)] (cX E b M) none True (cX E b M') := by
  refine xMet.ofW (own := RX5) (by decide) rfl (Nat.le_of_ble_eq_true rfl) ?_
  intro p e s m below meth c H locs ls C hm hl
  have hx := C.1.1
  have hb := C.1.2.1
  have hl : lv_has ls 5 [(0, .ref (b + u0)), (1, .ref (b + u1))] := hl
  unfold f_X5_takeOver at hf
  refine lv_aload_n hx hb dX5_takeOver_0 rfl (lv_at hl 0 rfl) ?_
  refine lv_iconst (v := (0 : Int32)) hx hb dX5_takeOver_1 (by decide) ?_
  obtain ⟨M1, eM1, hf⟩ := xlet_x hf
  refine x_put (cf' := cX E b M1) C hm inX5 tyX5 tyX5_ok nmX5 rfl 1 (by decide) tf_RX5_17 rfl rfl rfl (cx_Steps (L_u0 0 _ rfl)) (Nat.le_of_ble_eq_true rfl) (by rw [eM1]; exact cu_Steps_1 (L_u0 0 _ rfl)) (by rw [eM1]; exact cX_o) dX5_takeOver_2 (fun H locs hm => ?_)
  refine lv_aload_n hx hb dX5_takeOver_5 rfl (lv_at hl 0 rfl) ?_
  refine lv_aload_n hx hb dX5_takeOver_6 rfl (lv_at hl 1 rfl) ?_
  refine x_get C hm inX5 rfl 2 (by decide) tf_RX5_21 (cx_Steps (L_u1 0 _ rfl)) rfl dX5_takeOver_7 ?_
  obtain ⟨M2, eM2, hf⟩ := xlet_x hf
  refine x_put (cf' := cX E b M2) C hm inX5 tyX5 tyX5_ok nmX5 rfl 2 (by decide) tf_RX5_21 rfl rfl rfl (cx_Steps (L_u0 0 _ rfl)) (Nat.le_of_ble_eq_true rfl) (by rw [eM2]; exact cu_Steps_2 (L_u0 0 _ rfl)) (by rw [eM2]; exact cX_o) dX5_takeOver_10 (fun H locs hm => ?_)
  refine lv_iconst (v := (0 : Int32)) hx hb dX5_takeOver_13 (by decide) ?_
  refine lv_istore_n (lv' := [(2, .int (0 : Int32)), (0, .ref (b + u0)), (1, .ref (b + u1))]) hx hb dX5_takeOver_14 rfl hl (by decide) rfl (fun ls hl => ?_)
  obtain ⟨M25, hq, hf⟩ := xb1_e hf
  refine j_X5_takeOver_15 C L_u0 L_u1 (fun H locs ls hm hl => ?_) xfuel M2 (0 : Int32) H locs ls hq hm (lv_sub hl [1, 2, 0] rfl)
  cases hf
  exact x_vret C hm trivial dX5_takeOver_57
/-! ColouredHeap$Survey.chainFrom(LColouredHeap$Heap;I)I -/
theorem dX6_chainFrom_0 : decode cX6_chainFrom 0 = .ok (.aload_n 0, 1) := by decide +kernel
theorem dX6_chainFrom_1 : decode cX6_chainFrom 1 = .ok (.getfield 18, 3) := by decide +kernel
theorem dX6_chainFrom_4 : decode cX6_chainFrom 4 = .ok (.iconst 0, 1) := by decide +kernel
theorem dX6_chainFrom_5 : decode cX6_chainFrom 5 = .ok (.invokestatic 21, 3) := by decide +kernel
theorem dX6_chainFrom_8 : decode cX6_chainFrom 8 = .ok (.iload_n 2, 1) := by decide +kernel
theorem dX6_chainFrom_9 : decode cX6_chainFrom 9 = .ok (.istore_n 3, 1) := by decide +kernel
theorem dX6_chainFrom_10 : decode cX6_chainFrom 10 = .ok (.iconst 0, 1) := by decide +kernel
theorem dX6_chainFrom_11 : decode cX6_chainFrom 11 = .ok (.istore 4, 2) := by decide +kernel
theorem dX6_chainFrom_13 : decode cX6_chainFrom 13 = .ok (.iload 4, 2) := by decide +kernel
theorem dX6_chainFrom_15 : decode cX6_chainFrom 15 = .ok (.bipush 64, 2) := by decide +kernel
theorem dX6_chainFrom_17 : decode cX6_chainFrom 17 = .ok (.if_icmp .ge 53, 3) := by decide +kernel
theorem dX6_chainFrom_20 : decode cX6_chainFrom 20 = .ok (.iload_n 3, 1) := by decide +kernel
theorem dX6_chainFrom_21 : decode cX6_chainFrom 21 = .ok (.invokestatic 64, 3) := by decide +kernel
theorem dX6_chainFrom_24 : decode cX6_chainFrom 24 = .ok (.ifCond .eq 46, 3) := by decide +kernel
theorem dX6_chainFrom_27 : decode cX6_chainFrom 27 = .ok (.aload_n 0, 1) := by decide +kernel
theorem dX6_chainFrom_28 : decode cX6_chainFrom 28 = .ok (.getfield 9, 3) := by decide +kernel
theorem dX6_chainFrom_31 : decode cX6_chainFrom 31 = .ok (.iload_n 3, 1) := by decide +kernel
theorem dX6_chainFrom_32 : decode cX6_chainFrom 32 = .ok (.iaload, 1) := by decide +kernel
theorem dX6_chainFrom_33 : decode cX6_chainFrom 33 = .ok (.iconst (-1), 1) := by decide +kernel
theorem dX6_chainFrom_34 : decode cX6_chainFrom 34 = .ok (.if_icmp .eq 36, 3) := by decide +kernel
theorem dX6_chainFrom_37 : decode cX6_chainFrom 37 = .ok (.aload_n 0, 1) := by decide +kernel
theorem dX6_chainFrom_38 : decode cX6_chainFrom 38 = .ok (.getfield 18, 3) := by decide +kernel
theorem dX6_chainFrom_41 : decode cX6_chainFrom 41 = .ok (.iload_n 3, 1) := by decide +kernel
theorem dX6_chainFrom_42 : decode cX6_chainFrom 42 = .ok (.iaload, 1) := by decide +kernel
theorem dX6_chainFrom_43 : decode cX6_chainFrom 43 = .ok (.ifCond .ne 27, 3) := by decide +kernel
theorem dX6_chainFrom_46 : decode cX6_chainFrom 46 = .ok (.aload_n 0, 1) := by decide +kernel
theorem dX6_chainFrom_47 : decode cX6_chainFrom 47 = .ok (.getfield 18, 3) := by decide +kernel
theorem dX6_chainFrom_50 : decode cX6_chainFrom 50 = .ok (.iload_n 3, 1) := by decide +kernel
theorem dX6_chainFrom_51 : decode cX6_chainFrom 51 = .ok (.iconst 1, 1) := by decide +kernel
theorem dX6_chainFrom_52 : decode cX6_chainFrom 52 = .ok (.iastore, 1) := by decide +kernel
theorem dX6_chainFrom_53 : decode cX6_chainFrom 53 = .ok (.iinc 4 1, 3) := by decide +kernel
theorem dX6_chainFrom_56 : decode cX6_chainFrom 56 = .ok (.aload_n 1, 1) := by decide +kernel
theorem dX6_chainFrom_57 : decode cX6_chainFrom 57 = .ok (.aload_n 1, 1) := by decide +kernel
theorem dX6_chainFrom_58 : decode cX6_chainFrom 58 = .ok (.iload_n 3, 1) := by decide +kernel
theorem dX6_chainFrom_59 : decode cX6_chainFrom 59 = .ok (.iconst 0, 1) := by decide +kernel
theorem dX6_chainFrom_60 : decode cX6_chainFrom 60 = .ok (.invokevirtual 54, 3) := by decide +kernel
theorem dX6_chainFrom_63 : decode cX6_chainFrom 63 = .ok (.invokevirtual 61, 3) := by decide +kernel
theorem dX6_chainFrom_66 : decode cX6_chainFrom 66 = .ok (.istore_n 3, 1) := by decide +kernel
theorem dX6_chainFrom_67 : decode cX6_chainFrom 67 = .ok (.goto (-54), 3) := by decide +kernel
theorem dX6_chainFrom_70 : decode cX6_chainFrom 70 = .ok (.iload 4, 2) := by decide +kernel
theorem dX6_chainFrom_72 : decode cX6_chainFrom 72 = .ok (.ireturn, 1) := by decide +kernel
def g_X6_chainFrom_13 (o4 : Nat) : Nat → xm → Int32 → Int32 → Option ((Int32 × xm))
  | 0, _, _, _ => none
  | n + 1, M7, x5, x6 => (if (64 : Int32) ≤ x6 then some ((x6, M7)) else (if (f_X9_isAddress x5) = 0 then some ((x6, M7)) else if xin x5 64 = true then (if (M7 (986 + 1) (Int32.toNatClampNeg x5)) = (-1 : Int32) then some ((x6, M7)) else (if (M7 (986 + 3) (Int32.toNatClampNeg x5)) = 0 then xlet (up2 M7 (986 + 3) (Int32.toNatClampNeg x5) (1 : Int32)) (fun M16 => xlet (x6 + (1 : Int32)) (fun v17 => xb1 (f_X1_fieldOf o4 M16 x5 (0 : Int32)) (fun v19 => xb1 (f_X1_leadsTo o4 M16 v19) (fun v22 => g_X6_chainFrom_13 o4 n M16 v22 v17)))) else some ((x6, M7)))) else none))
def f_X6_chainFrom (u1 : Nat) (M : xm) (a2 : Int32) : Option (Int32 × xm) := xb1 (f_J7_fill_53178 (986 + 3) 64 M (0 : Int32)) (fun M2 => xb2 (g_X6_chainFrom_13 u1 xfuel M2 a2 (0 : Int32)) (fun v24 M25 => some (v24, M25)))
set_option maxHeartbeats 4000000 in
set_option maxRecDepth 20000 in
theorem j_X6_chainFrom_13 {p : Program} {l : Launch} {e : Env} {s : State} {m : MethodId} {args : Array Value} {below : List Frame} {meth : Method} {c : Code} {Q : State → Prop} {E : xE} {b : Nat} (C : xC p s m args meth c cX6_chainFrom 5 RX6 (some .int) E) {o4 : Nat} (L_o4 : lat o4 pHeap) {y8 : Int32} {y9 : xm}
    (kx0 : ∀ (H : Heap) (locs : List Loc) (ls : Array Slot), xM E b NX (cX E b y9) s.heap H locs → lv_has ls 5 [(4, .int y8)] → W p l e (xR 4) s m args below meth c H locs 0 0 Q (F0 m 70 ls [])) :
    ∀ (n : Nat) (M7 : xm) (x5 : Int32) (x6 : Int32) (H : Heap) (locs : List Loc) (ls : Array Slot), g_X6_chainFrom_13 o4 n M7 x5 x6 = some (y8, y9) → xM E b NX (cX E b M7) s.heap H locs → lv_has ls 5 [(0, .ref (b + 986)), (1, .ref (b + o4)), (3, .int x5), (4, .int x6)] → W p l e (xR 4) s m args below meth c H locs 0 0 Q (F0 m 13 ls []) := by
  have hx := C.1.1
  have hb := C.1.2.1
  intro n
  induction n with
  | zero =>
    intro M7 x5 x6 H locs ls hf hm hl
    rw [g_X6_chainFrom_13] at hf
    cases hf
  | succ n ih =>
    intro M7 x5 x6 H locs ls hf hm hl
    rw [g_X6_chainFrom_13] at hf
    refine lv_iload hx hb dX6_chainFrom_13 (lv_at hl 3 rfl) ?_
    refine lv_bipush (v := (64 : Int32)) hx hb dX6_chainFrom_15 (by decide) ?_
    refine lv_icmp_ge (tgt := 70) hx hb dX6_chainFrom_17 (by decide) (fun hc10 => ?_) (fun hc10 => ?_)
    · have hf := xif_t hc10 hf
      cases hf
      exact kx0 H locs ls hm (lv_sub hl [3] rfl)
    have hf := xif_f hc10 hf
    refine lv_iload_n hx hb dX6_chainFrom_20 rfl (lv_at hl 2 rfl) ?_
    refine x_callSNi (As := [.int x5]) (rest := []) C hm (c_X9_isAddress l E b M7 x5 rfl) tc_X9_isAddress (by decide +kernel : (RX6, 64, yX9_isAddress, "ColouredHeap") ∈ xNest) tz_X9_isAddress tn_RX9 td_X9_isAddress rfl rfl ⟨Nat.le_of_ble_eq_true rfl, Nat.le_of_ble_eq_true rfl⟩ rfl hl.1 rfl (Nat.le_of_ble_eq_true rfl) dX6_chainFrom_21 (fun H locs hP11 hm => ?_)
    refine lv_if_eq (tgt := 70) hx hb dX6_chainFrom_24 (by decide) (fun hc12 => ?_) (fun hc12 => ?_)
    · have hf := xif_t hc12 hf
      cases hf
      exact kx0 H locs ls hm (lv_sub hl [3] rfl)
    have hf := xif_f hc12 hf
    refine lv_aload_n hx hb dX6_chainFrom_27 rfl (lv_at hl 0 rfl) ?_
    refine x_get C hm inX6 rfl 0 (by decide) tf_RX6_9 (cx_Survey (LX_survey 0 _ rfl)) rfl dX6_chainFrom_28 ?_
    refine lv_iload_n hx hb dX6_chainFrom_31 rfl (lv_at hl 2 rfl) ?_
    obtain ⟨hi13, hf⟩ := xif_s hf
    refine x_iald (j := (Int32.toNatClampNeg x5)) C hm (cx_I (LX_survey 1 _ rfl)) hi13 dX6_chainFrom_32 rfl ?_
    refine lv_iconst (v := (-1 : Int32)) hx hb dX6_chainFrom_33 (by decide) ?_
    refine lv_icmp_eq (tgt := 70) hx hb dX6_chainFrom_34 (by decide) (fun hc14 => ?_) (fun hc14 => ?_)
    · have hf := xif_t hc14 hf
      cases hf
      exact kx0 H locs ls hm (lv_sub hl [3] rfl)
    have hf := xif_f hc14 hf
    refine lv_aload_n hx hb dX6_chainFrom_37 rfl (lv_at hl 0 rfl) ?_
    refine x_get C hm inX6 rfl 2 (by decide) tf_RX6_18 (cx_Survey (LX_survey 0 _ rfl)) rfl dX6_chainFrom_38 ?_
    refine lv_iload_n hx hb dX6_chainFrom_41 rfl (lv_at hl 2 rfl) ?_
    refine x_iald (j := (Int32.toNatClampNeg x5)) C hm (cx_I (LX_survey 3 _ rfl)) hi13 dX6_chainFrom_42 rfl ?_
    refine lv_if_ne (tgt := 70) hx hb dX6_chainFrom_43 (by decide) (fun hc15 => ?_) (fun hc15 => ?_)
    · have hf := xif_f hc15 hf
      cases hf
      exact kx0 H locs ls hm (lv_sub hl [3] rfl)
    have hf := xif_t hc15 hf
    refine lv_aload_n hx hb dX6_chainFrom_46 rfl (lv_at hl 0 rfl) ?_
    refine x_get C hm inX6 rfl 2 (by decide) tf_RX6_18 (cx_Survey (LX_survey 0 _ rfl)) rfl dX6_chainFrom_47 ?_
    refine lv_iload_n hx hb dX6_chainFrom_50 rfl (lv_at hl 2 rfl) ?_
    refine lv_iconst (v := (1 : Int32)) hx hb dX6_chainFrom_51 (by decide) ?_
    obtain ⟨M16, eM16, hf⟩ := xlet_x hf
    refine x_iast (j := (Int32.toNatClampNeg x5)) (cf' := cX E b M16) C hm (cx_I (LX_survey 3 _ rfl)) hi13 dX6_chainFrom_52 rfl (by rw [eM16]; exact cu_I (LX_survey 3 _ rfl)) (by rw [eM16]; exact cX_o) (fun H locs hm => ?_)
    obtain ⟨v17, ev17, hf⟩ := xlet_x hf
    refine lv_iinc (v := v17) (lv' := [(4, .int v17), (0, .ref (b + 986)), (1, .ref (b + o4)), (3, .int x5)]) hx hb dX6_chainFrom_53 hl (k := 3) rfl (by rw [ev17]; rfl) (by decide) rfl (fun ls hl => ?_)
    refine lv_aload_n hx hb dX6_chainFrom_56 rfl (lv_at hl 2 rfl) ?_
    refine lv_aload_n hx hb dX6_chainFrom_57 rfl (lv_at hl 2 rfl) ?_
    refine lv_iload_n hx hb dX6_chainFrom_58 rfl (lv_at hl 3 rfl) ?_
    refine lv_iconst (v := (0 : Int32)) hx hb dX6_chainFrom_59 (by decide) ?_
    obtain ⟨v19, hq18, hf⟩ := xb1_e hf
    refine x_callVi (As := [.int x5, .int (0 : Int32)]) (rest := [.ref (b + o4)]) C hm (c_X1_fieldOf l E b L_o4 M16 x5 (0 : Int32) hq18) rfl (cx_Heap (L_o4 0 _ rfl)) tc_X1_fieldOf tm_RX6_54 ti_X1_fieldOf ts_X1_fieldOf tn_RX1 td_X1_fieldOf rfl rfl ⟨Nat.le_of_ble_eq_true rfl, Nat.le_of_ble_eq_true rfl⟩ rfl hl.1 rfl (Nat.le_of_ble_eq_true rfl) dX6_chainFrom_60 (fun H locs hP20 hm => ?_)
    obtain ⟨v22, hq21, hf⟩ := xb1_e hf
    refine x_callVi (As := [.int v19]) (rest := []) C hm (c_X1_leadsTo l E b L_o4 M16 v19 hq21) rfl (cx_Heap (L_o4 0 _ rfl)) tc_X1_leadsTo tm_RX6_61 ti_X1_leadsTo ts_X1_leadsTo tn_RX1 td_X1_leadsTo rfl rfl ⟨Nat.le_of_ble_eq_true rfl, Nat.le_of_ble_eq_true rfl⟩ rfl hl.1 rfl (Nat.le_of_ble_eq_true rfl) dX6_chainFrom_63 (fun H locs hP23 hm => ?_)
    refine lv_istore_n (lv' := [(3, .int v22), (4, .int v17), (0, .ref (b + 986)), (1, .ref (b + o4))]) hx hb dX6_chainFrom_66 rfl hl (by decide) rfl (fun ls hl => ?_)
    refine lv_goto (tgt := 13) hx hb dX6_chainFrom_67 (by decide) ?_
    exact ih M16 v22 v17 H locs ls hf hm (lv_sub hl [2, 3, 0, 1] rfl)
set_option maxHeartbeats 4000000 in
set_option maxRecDepth 20000 in
theorem c_X6_chainFrom (l : Launch) (E : xE) (b : Nat) {u1 : Nat} (L_u1 : lat u1 pHeap) (M : xm) (a2 : Int32) {r : Int32} {M' : xm} (hf : f_X6_chainFrom u1 M a2 = some (r, M')) :
    xMet l E b NX yX6_chainFrom cX6_chainFrom 5 (some .int) (xR 4) [.ref (b + 986), .ref (b + u1), .int a2] (cX E b M) (some (.int r)) True (cX E b M') := by
  refine xMet.ofW (own := RX6) (by decide) rfl (Nat.le_of_ble_eq_true rfl) ?_
  intro p e s m below meth c H locs ls C hm hl
  have hx := C.1.1
  have hb := C.1.2.1
  have hl : lv_has ls 5 [(0, .ref (b + 986)), (1, .ref (b + u1)), (2, .int a2)] := hl
  unfold f_X6_chainFrom at hf
  refine lv_aload_n hx hb dX6_chainFrom_0 rfl (lv_at hl 0 rfl) ?_
  refine x_get C hm inX6 rfl 2 (by decide) tf_RX6_18 (cx_Survey (LX_survey 0 _ rfl)) rfl dX6_chainFrom_1 ?_
  refine lv_iconst (v := (0 : Int32)) hx hb dX6_chainFrom_4 (by decide) ?_
  obtain ⟨M2, hq1, hf⟩ := xb1_e hf
  refine x_callSv (As := [.ref (b + (986 + 3)), .int (0 : Int32)]) (rest := []) C hm (c_J7_fill_53178 l E b (LX_survey 3 _ rfl) M (0 : Int32) hq1) tc_J7_fill_53178 tm_RX6_21 tz_J7_fill_53178 tn_RJ7 td_J7_fill_53178 rfl rfl ⟨Nat.le_of_ble_eq_true rfl, Nat.le_of_ble_eq_true rfl⟩ rfl hl.1 rfl (Nat.le_of_ble_eq_true rfl) dX6_chainFrom_5 (fun H locs hP3 hm => ?_)
  refine lv_iload_n hx hb dX6_chainFrom_8 rfl (lv_at hl 2 rfl) ?_
  refine lv_istore_n (lv' := [(3, .int a2), (0, .ref (b + 986)), (1, .ref (b + u1)), (2, .int a2)]) hx hb dX6_chainFrom_9 rfl hl (by decide) rfl (fun ls hl => ?_)
  refine lv_iconst (v := (0 : Int32)) hx hb dX6_chainFrom_10 (by decide) ?_
  refine lv_istore (lv' := [(4, .int (0 : Int32)), (3, .int a2), (0, .ref (b + 986)), (1, .ref (b + u1)), (2, .int a2)]) hx hb dX6_chainFrom_11 hl (by decide) rfl (fun ls hl => ?_)
  obtain ⟨v24, M25, hq, hf⟩ := xb2_e hf
  refine j_X6_chainFrom_13 C L_u1 (fun H locs ls hm hl => ?_) xfuel M2 a2 (0 : Int32) H locs ls hq hm (lv_sub hl [2, 3, 1, 0] rfl)
  refine lv_iload hx hb dX6_chainFrom_70 (lv_at hl 0 rfl) ?_
  cases hf
  exact x_iret C hm trivial dX6_chainFrom_72
/-! ColouredHeap$Survey.objectsOf(LColouredHeap$Heap;I)I -/
theorem dX6_objectsOf_0 : decode cX6_objectsOf 0 = .ok (.iconst 0, 1) := by decide +kernel
theorem dX6_objectsOf_1 : decode cX6_objectsOf 1 = .ok (.istore_n 3, 1) := by decide +kernel
theorem dX6_objectsOf_2 : decode cX6_objectsOf 2 = .ok (.iconst 0, 1) := by decide +kernel
theorem dX6_objectsOf_3 : decode cX6_objectsOf 3 = .ok (.istore 4, 2) := by decide +kernel
theorem dX6_objectsOf_5 : decode cX6_objectsOf 5 = .ok (.iload 4, 2) := by decide +kernel
theorem dX6_objectsOf_7 : decode cX6_objectsOf 7 = .ok (.aload_n 0, 1) := by decide +kernel
theorem dX6_objectsOf_8 : decode cX6_objectsOf 8 = .ok (.getfield 27, 3) := by decide +kernel
theorem dX6_objectsOf_11 : decode cX6_objectsOf 11 = .ok (.if_icmp .ge 34, 3) := by decide +kernel
theorem dX6_objectsOf_14 : decode cX6_objectsOf 14 = .ok (.iload 4, 2) := by decide +kernel
theorem dX6_objectsOf_16 : decode cX6_objectsOf 16 = .ok (.bipush 64, 2) := by decide +kernel
theorem dX6_objectsOf_18 : decode cX6_objectsOf 18 = .ok (.if_icmp .ge 27, 3) := by decide +kernel
theorem dX6_objectsOf_21 : decode cX6_objectsOf 21 = .ok (.aload_n 1, 1) := by decide +kernel
theorem dX6_objectsOf_22 : decode cX6_objectsOf 22 = .ok (.aload_n 0, 1) := by decide +kernel
theorem dX6_objectsOf_23 : decode cX6_objectsOf 23 = .ok (.getfield 15, 3) := by decide +kernel
theorem dX6_objectsOf_26 : decode cX6_objectsOf 26 = .ok (.iload 4, 2) := by decide +kernel
theorem dX6_objectsOf_28 : decode cX6_objectsOf 28 = .ok (.iaload, 1) := by decide +kernel
theorem dX6_objectsOf_29 : decode cX6_objectsOf 29 = .ok (.invokevirtual 50, 3) := by decide +kernel
theorem dX6_objectsOf_32 : decode cX6_objectsOf 32 = .ok (.iload_n 2, 1) := by decide +kernel
theorem dX6_objectsOf_33 : decode cX6_objectsOf 33 = .ok (.if_icmp .ne 6, 3) := by decide +kernel
theorem dX6_objectsOf_36 : decode cX6_objectsOf 36 = .ok (.iinc 3 1, 3) := by decide +kernel
theorem dX6_objectsOf_39 : decode cX6_objectsOf 39 = .ok (.iinc 4 1, 3) := by decide +kernel
theorem dX6_objectsOf_42 : decode cX6_objectsOf 42 = .ok (.goto (-37), 3) := by decide +kernel
theorem dX6_objectsOf_45 : decode cX6_objectsOf 45 = .ok (.iload_n 3, 1) := by decide +kernel
theorem dX6_objectsOf_46 : decode cX6_objectsOf 46 = .ok (.ireturn, 1) := by decide +kernel
def g_X6_objectsOf_5 (o1 : Nat) (M : xm) (x2 : Int32) : Nat → Int32 → Int32 → Option ((Int32))
  | 0, _, _ => none
  | n + 1, x3, x4 => (if (M 986 3) ≤ x4 then some (x3) else (if (64 : Int32) ≤ x4 then some (x3) else if xin x4 64 = true then xb1 (f_X1_sizeAt o1 M (M (986 + 2) (Int32.toNatClampNeg x4))) (fun v10 => (if v10 = x2 then xlet (x3 + (1 : Int32)) (fun v14 => xlet (x4 + (1 : Int32)) (fun v15 => g_X6_objectsOf_5 o1 M x2 n v14 v15)) else xlet (x4 + (1 : Int32)) (fun v13 => g_X6_objectsOf_5 o1 M x2 n x3 v13))) else none))
def f_X6_objectsOf (u1 : Nat) (M : xm) (a2 : Int32) : Option (Int32) := xb1 (g_X6_objectsOf_5 u1 M a2 xfuel (0 : Int32) (0 : Int32)) (fun v16 => some v16)
set_option maxHeartbeats 4000000 in
set_option maxRecDepth 20000 in
theorem j_X6_objectsOf_5 {p : Program} {l : Launch} {e : Env} {s : State} {m : MethodId} {args : Array Value} {below : List Frame} {meth : Method} {c : Code} {Q : State → Prop} {E : xE} {b : Nat} (C : xC p s m args meth c cX6_objectsOf 5 RX6 (some .int) E) {o1 : Nat} (L_o1 : lat o1 pHeap) (M : xm) (x2 : Int32) {y5 : Int32}
    (kx0 : ∀ (H : Heap) (locs : List Loc) (ls : Array Slot), xM E b NX (cX E b M) s.heap H locs → lv_has ls 5 [(3, .int y5)] → W p l e (xR 3) s m args below meth c H locs 0 0 Q (F0 m 45 ls [])) :
    ∀ (n : Nat) (x3 : Int32) (x4 : Int32) (H : Heap) (locs : List Loc) (ls : Array Slot), g_X6_objectsOf_5 o1 M x2 n x3 x4 = some y5 → xM E b NX (cX E b M) s.heap H locs → lv_has ls 5 [(0, .ref (b + 986)), (1, .ref (b + o1)), (2, .int x2), (3, .int x3), (4, .int x4)] → W p l e (xR 3) s m args below meth c H locs 0 0 Q (F0 m 5 ls []) := by
  have hx := C.1.1
  have hb := C.1.2.1
  intro n
  induction n with
  | zero =>
    intro x3 x4 H locs ls hf hm hl
    rw [g_X6_objectsOf_5] at hf
    cases hf
  | succ n ih =>
    intro x3 x4 H locs ls hf hm hl
    rw [g_X6_objectsOf_5] at hf
    refine lv_iload hx hb dX6_objectsOf_5 (lv_at hl 4 rfl) ?_
    refine lv_aload_n hx hb dX6_objectsOf_7 rfl (lv_at hl 0 rfl) ?_
    refine x_get C hm inX6 rfl 3 (by decide) tf_RX6_27 (cx_Survey (LX_survey 0 _ rfl)) rfl dX6_objectsOf_8 ?_
    refine lv_icmp_ge (tgt := 45) hx hb dX6_objectsOf_11 (by decide) (fun hc6 => ?_) (fun hc6 => ?_)
    · have hf := xif_t hc6 hf
      cases hf
      exact kx0 H locs ls hm (lv_sub hl [3] rfl)
    have hf := xif_f hc6 hf
    refine lv_iload hx hb dX6_objectsOf_14 (lv_at hl 4 rfl) ?_
    refine lv_bipush (v := (64 : Int32)) hx hb dX6_objectsOf_16 (by decide) ?_
    refine lv_icmp_ge (tgt := 45) hx hb dX6_objectsOf_18 (by decide) (fun hc7 => ?_) (fun hc7 => ?_)
    · have hf := xif_t hc7 hf
      cases hf
      exact kx0 H locs ls hm (lv_sub hl [3] rfl)
    have hf := xif_f hc7 hf
    refine lv_aload_n hx hb dX6_objectsOf_21 rfl (lv_at hl 1 rfl) ?_
    refine lv_aload_n hx hb dX6_objectsOf_22 rfl (lv_at hl 0 rfl) ?_
    refine x_get C hm inX6 rfl 1 (by decide) tf_RX6_15 (cx_Survey (LX_survey 0 _ rfl)) rfl dX6_objectsOf_23 ?_
    refine lv_iload hx hb dX6_objectsOf_26 (lv_at hl 4 rfl) ?_
    obtain ⟨hi8, hf⟩ := xif_s hf
    refine x_iald (j := (Int32.toNatClampNeg x4)) C hm (cx_I (LX_survey 2 _ rfl)) hi8 dX6_objectsOf_28 rfl ?_
    obtain ⟨v10, hq9, hf⟩ := xb1_e hf
    refine x_callVi (As := [.int (M (986 + 2) (Int32.toNatClampNeg x4))]) (rest := []) C hm (c_X1_sizeAt l E b L_o1 M (M (986 + 2) (Int32.toNatClampNeg x4)) hq9) rfl (cx_Heap (L_o1 0 _ rfl)) tc_X1_sizeAt tm_RX6_50 ti_X1_sizeAt ts_X1_sizeAt tn_RX1 td_X1_sizeAt rfl rfl ⟨Nat.le_of_ble_eq_true rfl, Nat.le_of_ble_eq_true rfl⟩ rfl hl.1 rfl (Nat.le_of_ble_eq_true rfl) dX6_objectsOf_29 (fun H locs hP11 hm => ?_)
    refine lv_iload_n hx hb dX6_objectsOf_32 rfl (lv_at hl 2 rfl) ?_
    refine lv_icmp_ne (tgt := 39) hx hb dX6_objectsOf_33 (by decide) (fun hc12 => ?_) (fun hc12 => ?_)
    · have hf := xif_f hc12 hf
      obtain ⟨v13, ev13, hf⟩ := xlet_x hf
      refine lv_iinc (v := v13) (lv' := [(4, .int v13), (0, .ref (b + 986)), (1, .ref (b + o1)), (2, .int x2), (3, .int x3)]) hx hb dX6_objectsOf_39 hl (k := 4) rfl (by rw [ev13]; rfl) (by decide) rfl (fun ls hl => ?_)
      refine lv_goto (tgt := 5) hx hb dX6_objectsOf_42 (by decide) ?_
      exact ih x3 v13 H locs ls hf hm (lv_sub hl [1, 2, 3, 4, 0] rfl)
    have hf := xif_t hc12 hf
    obtain ⟨v14, ev14, hf⟩ := xlet_x hf
    refine lv_iinc (v := v14) (lv' := [(3, .int v14), (0, .ref (b + 986)), (1, .ref (b + o1)), (2, .int x2), (4, .int x4)]) hx hb dX6_objectsOf_36 hl (k := 3) rfl (by rw [ev14]; rfl) (by decide) rfl (fun ls hl => ?_)
    obtain ⟨v15, ev15, hf⟩ := xlet_x hf
    refine lv_iinc (v := v15) (lv' := [(4, .int v15), (3, .int v14), (0, .ref (b + 986)), (1, .ref (b + o1)), (2, .int x2)]) hx hb dX6_objectsOf_39 hl (k := 4) rfl (by rw [ev15]; rfl) (by decide) rfl (fun ls hl => ?_)
    refine lv_goto (tgt := 5) hx hb dX6_objectsOf_42 (by decide) ?_
    exact ih v14 v15 H locs ls hf hm (lv_sub hl [2, 3, 4, 1, 0] rfl)
set_option maxHeartbeats 4000000 in
set_option maxRecDepth 20000 in
theorem c_X6_objectsOf (l : Launch) (E : xE) (b : Nat) {u1 : Nat} (L_u1 : lat u1 pHeap) (M : xm) (a2 : Int32) {r : Int32} (hf : f_X6_objectsOf u1 M a2 = some r) :
    xMet l E b NX yX6_objectsOf cX6_objectsOf 5 (some .int) (xR 3) [.ref (b + 986), .ref (b + u1), .int a2] (cX E b M) (some (.int r)) True (cX E b M) := by
  refine xMet.ofW (own := RX6) (by decide) rfl (Nat.le_of_ble_eq_true rfl) ?_
  intro p e s m below meth c H locs ls C hm hl
  have hx := C.1.1
  have hb := C.1.2.1
  have hl : lv_has ls 5 [(0, .ref (b + 986)), (1, .ref (b + u1)), (2, .int a2)] := hl
  unfold f_X6_objectsOf at hf
  refine lv_iconst (v := (0 : Int32)) hx hb dX6_objectsOf_0 (by decide) ?_
  refine lv_istore_n (lv' := [(3, .int (0 : Int32)), (0, .ref (b + 986)), (1, .ref (b + u1)), (2, .int a2)]) hx hb dX6_objectsOf_1 rfl hl (by decide) rfl (fun ls hl => ?_)
  refine lv_iconst (v := (0 : Int32)) hx hb dX6_objectsOf_2 (by decide) ?_
  refine lv_istore (lv' := [(4, .int (0 : Int32)), (3, .int (0 : Int32)), (0, .ref (b + 986)), (1, .ref (b + u1)), (2, .int a2)]) hx hb dX6_objectsOf_3 hl (by decide) rfl (fun ls hl => ?_)
  obtain ⟨v16, hq, hf⟩ := xb1_e hf
  refine j_X6_objectsOf_5 C L_u1 M a2 (fun H locs ls hm hl => ?_) xfuel (0 : Int32) (0 : Int32) H locs ls hq hm (lv_sub hl [2, 3, 4, 1, 0] rfl)
  refine lv_iload_n hx hb dX6_objectsOf_45 rfl (lv_at hl 0 rfl) ?_
  cases hf
  exact x_iret C hm trivial dX6_objectsOf_46
/-! ColouredHeap$Survey.fewestPages(LColouredHeap$Heap;)I -/
theorem dX6_fewestPages_0 : decode cX6_fewestPages 0 = .ok (.aload_n 0, 1) := by decide +kernel
theorem dX6_fewestPages_1 : decode cX6_fewestPages 1 = .ok (.aload_n 1, 1) := by decide +kernel
theorem dX6_fewestPages_2 : decode cX6_fewestPages 2 = .ok (.iconst 2, 1) := by decide +kernel
theorem dX6_fewestPages_3 : decode cX6_fewestPages 3 = .ok (.invokevirtual 77, 3) := by decide +kernel
theorem dX6_fewestPages_6 : decode cX6_fewestPages 6 = .ok (.istore_n 2, 1) := by decide +kernel
theorem dX6_fewestPages_7 : decode cX6_fewestPages 7 = .ok (.aload_n 0, 1) := by decide +kernel
theorem dX6_fewestPages_8 : decode cX6_fewestPages 8 = .ok (.aload_n 1, 1) := by decide +kernel
theorem dX6_fewestPages_9 : decode cX6_fewestPages 9 = .ok (.iconst 3, 1) := by decide +kernel
theorem dX6_fewestPages_10 : decode cX6_fewestPages 10 = .ok (.invokevirtual 77, 3) := by decide +kernel
theorem dX6_fewestPages_13 : decode cX6_fewestPages 13 = .ok (.istore_n 3, 1) := by decide +kernel
theorem dX6_fewestPages_14 : decode cX6_fewestPages 14 = .ok (.aload_n 0, 1) := by decide +kernel
theorem dX6_fewestPages_15 : decode cX6_fewestPages 15 = .ok (.aload_n 1, 1) := by decide +kernel
theorem dX6_fewestPages_16 : decode cX6_fewestPages 16 = .ok (.iconst 4, 1) := by decide +kernel
theorem dX6_fewestPages_17 : decode cX6_fewestPages 17 = .ok (.invokevirtual 77, 3) := by decide +kernel
theorem dX6_fewestPages_20 : decode cX6_fewestPages 20 = .ok (.istore 4, 2) := by decide +kernel
theorem dX6_fewestPages_22 : decode cX6_fewestPages 22 = .ok (.bipush 64, 2) := by decide +kernel
theorem dX6_fewestPages_24 : decode cX6_fewestPages 24 = .ok (.istore 5, 2) := by decide +kernel
theorem dX6_fewestPages_26 : decode cX6_fewestPages 26 = .ok (.iconst 0, 1) := by decide +kernel
theorem dX6_fewestPages_27 : decode cX6_fewestPages 27 = .ok (.istore 6, 2) := by decide +kernel
theorem dX6_fewestPages_29 : decode cX6_fewestPages 29 = .ok (.iload 6, 2) := by decide +kernel
theorem dX6_fewestPages_31 : decode cX6_fewestPages 31 = .ok (.iconst 2, 1) := by decide +kernel
theorem dX6_fewestPages_32 : decode cX6_fewestPages 32 = .ok (.imul, 1) := by decide +kernel
theorem dX6_fewestPages_33 : decode cX6_fewestPages 33 = .ok (.iload_n 3, 1) := by decide +kernel
theorem dX6_fewestPages_34 : decode cX6_fewestPages 34 = .ok (.if_icmp .gt 64, 3) := by decide +kernel
theorem dX6_fewestPages_37 : decode cX6_fewestPages 37 = .ok (.iload_n 3, 1) := by decide +kernel
theorem dX6_fewestPages_38 : decode cX6_fewestPages 38 = .ok (.iload 6, 2) := by decide +kernel
theorem dX6_fewestPages_40 : decode cX6_fewestPages 40 = .ok (.iconst 2, 1) := by decide +kernel
theorem dX6_fewestPages_41 : decode cX6_fewestPages 41 = .ok (.imul, 1) := by decide +kernel
theorem dX6_fewestPages_42 : decode cX6_fewestPages 42 = .ok (.isub, 1) := by decide +kernel
theorem dX6_fewestPages_43 : decode cX6_fewestPages 43 = .ok (.istore 7, 2) := by decide +kernel
theorem dX6_fewestPages_45 : decode cX6_fewestPages 45 = .ok (.iconst 0, 1) := by decide +kernel
theorem dX6_fewestPages_46 : decode cX6_fewestPages 46 = .ok (.iload_n 2, 1) := by decide +kernel
theorem dX6_fewestPages_47 : decode cX6_fewestPages 47 = .ok (.iload 6, 2) := by decide +kernel
theorem dX6_fewestPages_49 : decode cX6_fewestPages 49 = .ok (.isub, 1) := by decide +kernel
theorem dX6_fewestPages_50 : decode cX6_fewestPages 50 = .ok (.invokestatic 81, 3) := by decide +kernel
theorem dX6_fewestPages_53 : decode cX6_fewestPages 53 = .ok (.istore 8, 2) := by decide +kernel
theorem dX6_fewestPages_55 : decode cX6_fewestPages 55 = .ok (.iconst 0, 1) := by decide +kernel
theorem dX6_fewestPages_56 : decode cX6_fewestPages 56 = .ok (.iload 4, 2) := by decide +kernel
theorem dX6_fewestPages_58 : decode cX6_fewestPages 58 = .ok (.iload 8, 2) := by decide +kernel
theorem dX6_fewestPages_60 : decode cX6_fewestPages 60 = .ok (.iconst 1, 1) := by decide +kernel
theorem dX6_fewestPages_61 : decode cX6_fewestPages 61 = .ok (.iadd, 1) := by decide +kernel
theorem dX6_fewestPages_62 : decode cX6_fewestPages 62 = .ok (.iconst 2, 1) := by decide +kernel
theorem dX6_fewestPages_63 : decode cX6_fewestPages 63 = .ok (.idiv, 1) := by decide +kernel
theorem dX6_fewestPages_64 : decode cX6_fewestPages 64 = .ok (.iadd, 1) := by decide +kernel
theorem dX6_fewestPages_65 : decode cX6_fewestPages 65 = .ok (.iload 7, 2) := by decide +kernel
theorem dX6_fewestPages_67 : decode cX6_fewestPages 67 = .ok (.isub, 1) := by decide +kernel
theorem dX6_fewestPages_68 : decode cX6_fewestPages 68 = .ok (.invokestatic 81, 3) := by decide +kernel
theorem dX6_fewestPages_71 : decode cX6_fewestPages 71 = .ok (.istore 9, 2) := by decide +kernel
theorem dX6_fewestPages_73 : decode cX6_fewestPages 73 = .ok (.iload 5, 2) := by decide +kernel
theorem dX6_fewestPages_75 : decode cX6_fewestPages 75 = .ok (.iload 6, 2) := by decide +kernel
theorem dX6_fewestPages_77 : decode cX6_fewestPages 77 = .ok (.iload 7, 2) := by decide +kernel
theorem dX6_fewestPages_79 : decode cX6_fewestPages 79 = .ok (.iadd, 1) := by decide +kernel
theorem dX6_fewestPages_80 : decode cX6_fewestPages 80 = .ok (.iload 9, 2) := by decide +kernel
theorem dX6_fewestPages_82 : decode cX6_fewestPages 82 = .ok (.iconst 1, 1) := by decide +kernel
theorem dX6_fewestPages_83 : decode cX6_fewestPages 83 = .ok (.iadd, 1) := by decide +kernel
theorem dX6_fewestPages_84 : decode cX6_fewestPages 84 = .ok (.iconst 2, 1) := by decide +kernel
theorem dX6_fewestPages_85 : decode cX6_fewestPages 85 = .ok (.idiv, 1) := by decide +kernel
theorem dX6_fewestPages_86 : decode cX6_fewestPages 86 = .ok (.iadd, 1) := by decide +kernel
theorem dX6_fewestPages_87 : decode cX6_fewestPages 87 = .ok (.invokestatic 86, 3) := by decide +kernel
theorem dX6_fewestPages_90 : decode cX6_fewestPages 90 = .ok (.istore 5, 2) := by decide +kernel
theorem dX6_fewestPages_92 : decode cX6_fewestPages 92 = .ok (.iinc 6 1, 3) := by decide +kernel
theorem dX6_fewestPages_95 : decode cX6_fewestPages 95 = .ok (.goto (-66), 3) := by decide +kernel
theorem dX6_fewestPages_98 : decode cX6_fewestPages 98 = .ok (.iload 5, 2) := by decide +kernel
theorem dX6_fewestPages_100 : decode cX6_fewestPages 100 = .ok (.aload_n 0, 1) := by decide +kernel
theorem dX6_fewestPages_101 : decode cX6_fewestPages 101 = .ok (.getfield 31, 3) := by decide +kernel
theorem dX6_fewestPages_104 : decode cX6_fewestPages 104 = .ok (.bipush 8, 2) := by decide +kernel
theorem dX6_fewestPages_106 : decode cX6_fewestPages 106 = .ok (.iadd, 1) := by decide +kernel
theorem dX6_fewestPages_107 : decode cX6_fewestPages 107 = .ok (.iconst 1, 1) := by decide +kernel
theorem dX6_fewestPages_108 : decode cX6_fewestPages 108 = .ok (.isub, 1) := by decide +kernel
theorem dX6_fewestPages_109 : decode cX6_fewestPages 109 = .ok (.bipush 8, 2) := by decide +kernel
theorem dX6_fewestPages_111 : decode cX6_fewestPages 111 = .ok (.idiv, 1) := by decide +kernel
theorem dX6_fewestPages_112 : decode cX6_fewestPages 112 = .ok (.invokestatic 81, 3) := by decide +kernel
theorem dX6_fewestPages_115 : decode cX6_fewestPages 115 = .ok (.ireturn, 1) := by decide +kernel
def g_X6_fewestPages_29 (M : xm) (x10 : Int32) (x11 : Int32) (x12 : Int32) : Nat → Int32 → Int32 → Option ((Int32))
  | 0, _, _ => none
  | n + 1, x13, x14 => (if x11 < (x14 * (2 : Int32)) then some (x13) else xlet (x11 - (x14 * (2 : Int32))) (fun v17 => xlet (xmax (0 : Int32) (x10 - x14)) (fun v18 => xlet (xmax (0 : Int32) ((x12 + ((v18 + (1 : Int32)) / (2 : Int32))) - v17)) (fun v19 => xlet (xmin x13 ((x14 + v17) + ((v19 + (1 : Int32)) / (2 : Int32)))) (fun v20 => xlet (x14 + (1 : Int32)) (fun v21 => g_X6_fewestPages_29 M x10 x11 x12 n v20 v21))))))
def f_X6_fewestPages (u1 : Nat) (M : xm) : Option (Int32) := xb1 (f_X6_objectsOf u1 M (2 : Int32)) (fun v2 => xb1 (f_X6_objectsOf u1 M (3 : Int32)) (fun v5 => xb1 (f_X6_objectsOf u1 M (4 : Int32)) (fun v8 => xb1 (g_X6_fewestPages_29 M v2 v5 v8 xfuel (64 : Int32) (0 : Int32)) (fun v22 => some (xmax v22 ((((M 986 4) + (8 : Int32)) - (1 : Int32)) / (8 : Int32)))))))
set_option maxHeartbeats 4000000 in
set_option maxRecDepth 20000 in
theorem j_X6_fewestPages_29 {p : Program} {l : Launch} {e : Env} {s : State} {m : MethodId} {args : Array Value} {below : List Frame} {meth : Method} {c : Code} {Q : State → Prop} {E : xE} {b : Nat} (C : xC p s m args meth c cX6_fewestPages 10 RX6 (some .int) E) (M : xm) (x10 : Int32) (x11 : Int32) (x12 : Int32) {y15 : Int32}
    (kx0 : ∀ (H : Heap) (locs : List Loc) (ls : Array Slot), xM E b NX (cX E b M) s.heap H locs → lv_has ls 10 [(0, .ref (b + 986)), (5, .int y15)] → W p l e (xR 4) s m args below meth c H locs 0 0 Q (F0 m 98 ls [])) :
    ∀ (n : Nat) (x13 : Int32) (x14 : Int32) (H : Heap) (locs : List Loc) (ls : Array Slot), g_X6_fewestPages_29 M x10 x11 x12 n x13 x14 = some y15 → xM E b NX (cX E b M) s.heap H locs → lv_has ls 10 [(0, .ref (b + 986)), (2, .int x10), (3, .int x11), (4, .int x12), (5, .int x13), (6, .int x14)] → W p l e (xR 4) s m args below meth c H locs 0 0 Q (F0 m 29 ls []) := by
  have hx := C.1.1
  have hb := C.1.2.1
  intro n
  induction n with
  | zero =>
    intro x13 x14 H locs ls hf hm hl
    rw [g_X6_fewestPages_29] at hf
    cases hf
  | succ n ih =>
    intro x13 x14 H locs ls hf hm hl
    rw [g_X6_fewestPages_29] at hf
    refine lv_iload hx hb dX6_fewestPages_29 (lv_at hl 5 rfl) ?_
    refine lv_iconst (v := (2 : Int32)) hx hb dX6_fewestPages_31 (by decide) ?_
    refine lv_imul hx hb dX6_fewestPages_32 ?_
    refine lv_iload_n hx hb dX6_fewestPages_33 rfl (lv_at hl 2 rfl) ?_
    refine lv_icmp_gt (tgt := 98) hx hb dX6_fewestPages_34 (by decide) (fun hc16 => ?_) (fun hc16 => ?_)
    · have hf := xif_t hc16 hf
      cases hf
      exact kx0 H locs ls hm (lv_sub hl [0, 4] rfl)
    have hf := xif_f hc16 hf
    refine lv_iload_n hx hb dX6_fewestPages_37 rfl (lv_at hl 2 rfl) ?_
    refine lv_iload hx hb dX6_fewestPages_38 (lv_at hl 5 rfl) ?_
    refine lv_iconst (v := (2 : Int32)) hx hb dX6_fewestPages_40 (by decide) ?_
    refine lv_imul hx hb dX6_fewestPages_41 ?_
    refine lv_isub hx hb dX6_fewestPages_42 ?_
    refine lv_topi (fun v17 ev17 => ?_)
    have hf := xlet_e ev17 hf
    refine lv_istore (lv' := [(7, .int v17), (0, .ref (b + 986)), (2, .int x10), (3, .int x11), (4, .int x12), (5, .int x13), (6, .int x14)]) hx hb dX6_fewestPages_43 hl (by decide) rfl (fun ls hl => ?_)
    refine lv_iconst (v := (0 : Int32)) hx hb dX6_fewestPages_45 (by decide) ?_
    refine lv_iload_n hx hb dX6_fewestPages_46 rfl (lv_at hl 2 rfl) ?_
    refine lv_iload hx hb dX6_fewestPages_47 (lv_at hl 6 rfl) ?_
    refine lv_isub hx hb dX6_fewestPages_49 ?_
    refine va_mmax hx hb (C.1.2.2.1.trans hl.1.symm) C.1.2.2.2.1 (C.1.2.2.2.2 _ tm_RX6_81) (C.1.2.2.2.2 _ tz_Math_maxI) (C.1.2.2.2.2 _ tn_Math) (C.1.2.2.2.2 _ tc_Math_maxI) (Nat.le_of_ble_eq_true rfl) (Nat.le_of_ble_eq_true rfl) (Nat.zero_le _) (Nat.zero_le _) dX6_fewestPages_50 ?_
    refine lv_topi (fun v18 ev18 => ?_)
    have hf := xlet_e ev18 hf
    refine lv_istore (lv' := [(8, .int v18), (7, .int v17), (0, .ref (b + 986)), (2, .int x10), (3, .int x11), (4, .int x12), (5, .int x13), (6, .int x14)]) hx hb dX6_fewestPages_53 hl (by decide) rfl (fun ls hl => ?_)
    refine lv_iconst (v := (0 : Int32)) hx hb dX6_fewestPages_55 (by decide) ?_
    refine lv_iload hx hb dX6_fewestPages_56 (lv_at hl 5 rfl) ?_
    refine lv_iload hx hb dX6_fewestPages_58 (lv_at hl 0 rfl) ?_
    refine lv_iconst (v := (1 : Int32)) hx hb dX6_fewestPages_60 (by decide) ?_
    refine lv_iadd hx hb dX6_fewestPages_61 ?_
    refine lv_iconst (v := (2 : Int32)) hx hb dX6_fewestPages_62 (by decide) ?_
    refine lv_idiv hx hb dX6_fewestPages_63 (by decide) ?_
    refine lv_iadd hx hb dX6_fewestPages_64 ?_
    refine lv_iload hx hb dX6_fewestPages_65 (lv_at hl 1 rfl) ?_
    refine lv_isub hx hb dX6_fewestPages_67 ?_
    refine va_mmax hx hb (C.1.2.2.1.trans hl.1.symm) C.1.2.2.2.1 (C.1.2.2.2.2 _ tm_RX6_81) (C.1.2.2.2.2 _ tz_Math_maxI) (C.1.2.2.2.2 _ tn_Math) (C.1.2.2.2.2 _ tc_Math_maxI) (Nat.le_of_ble_eq_true rfl) (Nat.le_of_ble_eq_true rfl) (Nat.zero_le _) (Nat.zero_le _) dX6_fewestPages_68 ?_
    refine lv_topi (fun v19 ev19 => ?_)
    have hf := xlet_e ev19 hf
    refine lv_istore (lv' := [(9, .int v19), (8, .int v18), (7, .int v17), (0, .ref (b + 986)), (2, .int x10), (3, .int x11), (4, .int x12), (5, .int x13), (6, .int x14)]) hx hb dX6_fewestPages_71 hl (by decide) rfl (fun ls hl => ?_)
    refine lv_iload hx hb dX6_fewestPages_73 (lv_at hl 7 rfl) ?_
    refine lv_iload hx hb dX6_fewestPages_75 (lv_at hl 8 rfl) ?_
    refine lv_iload hx hb dX6_fewestPages_77 (lv_at hl 2 rfl) ?_
    refine lv_iadd hx hb dX6_fewestPages_79 ?_
    refine lv_iload hx hb dX6_fewestPages_80 (lv_at hl 0 rfl) ?_
    refine lv_iconst (v := (1 : Int32)) hx hb dX6_fewestPages_82 (by decide) ?_
    refine lv_iadd hx hb dX6_fewestPages_83 ?_
    refine lv_iconst (v := (2 : Int32)) hx hb dX6_fewestPages_84 (by decide) ?_
    refine lv_idiv hx hb dX6_fewestPages_85 (by decide) ?_
    refine lv_iadd hx hb dX6_fewestPages_86 ?_
    refine va_mmin hx hb (C.1.2.2.1.trans hl.1.symm) C.1.2.2.2.1 (C.1.2.2.2.2 _ tm_RX6_86) (C.1.2.2.2.2 _ tz_Math_minI) (C.1.2.2.2.2 _ tn_Math) (C.1.2.2.2.2 _ tc_Math_minI) (Nat.le_of_ble_eq_true rfl) (Nat.le_of_ble_eq_true rfl) (Nat.zero_le _) (Nat.zero_le _) dX6_fewestPages_87 ?_
    refine lv_topi (fun v20 ev20 => ?_)
    have hf := xlet_e ev20 hf
    refine lv_istore (lv' := [(5, .int v20), (9, .int v19), (8, .int v18), (7, .int v17), (0, .ref (b + 986)), (2, .int x10), (3, .int x11), (4, .int x12), (6, .int x14)]) hx hb dX6_fewestPages_90 hl (by decide) rfl (fun ls hl => ?_)
    obtain ⟨v21, ev21, hf⟩ := xlet_x hf
    refine lv_iinc (v := v21) (lv' := [(6, .int v21), (5, .int v20), (9, .int v19), (8, .int v18), (7, .int v17), (0, .ref (b + 986)), (2, .int x10), (3, .int x11), (4, .int x12)]) hx hb dX6_fewestPages_92 hl (k := 8) rfl (by rw [ev21]; rfl) (by decide) rfl (fun ls hl => ?_)
    refine lv_goto (tgt := 29) hx hb dX6_fewestPages_95 (by decide) ?_
    exact ih v20 v21 H locs ls hf hm (lv_sub hl [5, 6, 7, 8, 1, 0] rfl)
set_option maxHeartbeats 4000000 in
set_option maxRecDepth 20000 in
theorem c_X6_fewestPages (l : Launch) (E : xE) (b : Nat) {u1 : Nat} (L_u1 : lat u1 pHeap) (M : xm) {r : Int32} (hf : f_X6_fewestPages u1 M = some r) :
    xMet l E b NX yX6_fewestPages cX6_fewestPages 10 (some .int) (xR 4) [.ref (b + 986), .ref (b + u1)] (cX E b M) (some (.int r)) True (cX E b M) := by
  refine xMet.ofW (own := RX6) (by decide) rfl (Nat.le_of_ble_eq_true rfl) ?_
  intro p e s m below meth c H locs ls C hm hl
  have hx := C.1.1
  have hb := C.1.2.1
  have hl : lv_has ls 10 [(0, .ref (b + 986)), (1, .ref (b + u1))] := hl
  unfold f_X6_fewestPages at hf
  refine lv_aload_n hx hb dX6_fewestPages_0 rfl (lv_at hl 0 rfl) ?_
  refine lv_aload_n hx hb dX6_fewestPages_1 rfl (lv_at hl 1 rfl) ?_
  refine lv_iconst (v := (2 : Int32)) hx hb dX6_fewestPages_2 (by decide) ?_
  obtain ⟨v2, hq1, hf⟩ := xb1_e hf
  refine x_callVi (As := [.ref (b + u1), .int (2 : Int32)]) (rest := []) C hm (c_X6_objectsOf l E b L_u1 M (2 : Int32) hq1) rfl (cx_Survey (LX_survey 0 _ rfl)) tc_X6_objectsOf tm_RX6_77 ti_X6_objectsOf ts_X6_objectsOf tn_RX6 td_X6_objectsOf rfl rfl ⟨Nat.le_of_ble_eq_true rfl, Nat.le_of_ble_eq_true rfl⟩ rfl hl.1 rfl (Nat.le_of_ble_eq_true rfl) dX6_fewestPages_3 (fun H locs hP3 hm => ?_)
  refine lv_istore_n (lv' := [(2, .int v2), (0, .ref (b + 986)), (1, .ref (b + u1))]) hx hb dX6_fewestPages_6 rfl hl (by decide) rfl (fun ls hl => ?_)
  refine lv_aload_n hx hb dX6_fewestPages_7 rfl (lv_at hl 1 rfl) ?_
  refine lv_aload_n hx hb dX6_fewestPages_8 rfl (lv_at hl 2 rfl) ?_
  refine lv_iconst (v := (3 : Int32)) hx hb dX6_fewestPages_9 (by decide) ?_
  obtain ⟨v5, hq4, hf⟩ := xb1_e hf
  refine x_callVi (As := [.ref (b + u1), .int (3 : Int32)]) (rest := []) C hm (c_X6_objectsOf l E b L_u1 M (3 : Int32) hq4) rfl (cx_Survey (LX_survey 0 _ rfl)) tc_X6_objectsOf tm_RX6_77 ti_X6_objectsOf ts_X6_objectsOf tn_RX6 td_X6_objectsOf rfl rfl ⟨Nat.le_of_ble_eq_true rfl, Nat.le_of_ble_eq_true rfl⟩ rfl hl.1 rfl (Nat.le_of_ble_eq_true rfl) dX6_fewestPages_10 (fun H locs hP6 hm => ?_)
  refine lv_istore_n (lv' := [(3, .int v5), (2, .int v2), (0, .ref (b + 986)), (1, .ref (b + u1))]) hx hb dX6_fewestPages_13 rfl hl (by decide) rfl (fun ls hl => ?_)
  refine lv_aload_n hx hb dX6_fewestPages_14 rfl (lv_at hl 2 rfl) ?_
  refine lv_aload_n hx hb dX6_fewestPages_15 rfl (lv_at hl 3 rfl) ?_
  refine lv_iconst (v := (4 : Int32)) hx hb dX6_fewestPages_16 (by decide) ?_
  obtain ⟨v8, hq7, hf⟩ := xb1_e hf
  refine x_callVi (As := [.ref (b + u1), .int (4 : Int32)]) (rest := []) C hm (c_X6_objectsOf l E b L_u1 M (4 : Int32) hq7) rfl (cx_Survey (LX_survey 0 _ rfl)) tc_X6_objectsOf tm_RX6_77 ti_X6_objectsOf ts_X6_objectsOf tn_RX6 td_X6_objectsOf rfl rfl ⟨Nat.le_of_ble_eq_true rfl, Nat.le_of_ble_eq_true rfl⟩ rfl hl.1 rfl (Nat.le_of_ble_eq_true rfl) dX6_fewestPages_17 (fun H locs hP9 hm => ?_)
  refine lv_istore (lv' := [(4, .int v8), (3, .int v5), (2, .int v2), (0, .ref (b + 986)), (1, .ref (b + u1))]) hx hb dX6_fewestPages_20 hl (by decide) rfl (fun ls hl => ?_)
  refine lv_bipush (v := (64 : Int32)) hx hb dX6_fewestPages_22 (by decide) ?_
  refine lv_istore (lv' := [(5, .int (64 : Int32)), (4, .int v8), (3, .int v5), (2, .int v2), (0, .ref (b + 986)), (1, .ref (b + u1))]) hx hb dX6_fewestPages_24 hl (by decide) rfl (fun ls hl => ?_)
  refine lv_iconst (v := (0 : Int32)) hx hb dX6_fewestPages_26 (by decide) ?_
  refine lv_istore (lv' := [(6, .int (0 : Int32)), (5, .int (64 : Int32)), (4, .int v8), (3, .int v5), (2, .int v2), (0, .ref (b + 986)), (1, .ref (b + u1))]) hx hb dX6_fewestPages_27 hl (by decide) rfl (fun ls hl => ?_)
  obtain ⟨v22, hq, hf⟩ := xb1_e hf
  refine j_X6_fewestPages_29 C M v2 v5 v8 (fun H locs ls hm hl => ?_) xfuel (64 : Int32) (0 : Int32) H locs ls hq hm (lv_sub hl [5, 4, 3, 2, 1, 0] rfl)
  refine lv_iload hx hb dX6_fewestPages_98 (lv_at hl 1 rfl) ?_
  refine lv_aload_n hx hb dX6_fewestPages_100 rfl (lv_at hl 0 rfl) ?_
  refine x_get C hm inX6 rfl 4 (by decide) tf_RX6_31 (cx_Survey (LX_survey 0 _ rfl)) rfl dX6_fewestPages_101 ?_
  refine lv_bipush (v := (8 : Int32)) hx hb dX6_fewestPages_104 (by decide) ?_
  refine lv_iadd hx hb dX6_fewestPages_106 ?_
  refine lv_iconst (v := (1 : Int32)) hx hb dX6_fewestPages_107 (by decide) ?_
  refine lv_isub hx hb dX6_fewestPages_108 ?_
  refine lv_bipush (v := (8 : Int32)) hx hb dX6_fewestPages_109 (by decide) ?_
  refine lv_idiv hx hb dX6_fewestPages_111 (by decide) ?_
  refine va_mmax hx hb (C.1.2.2.1.trans hl.1.symm) C.1.2.2.2.1 (C.1.2.2.2.2 _ tm_RX6_81) (C.1.2.2.2.2 _ tz_Math_maxI) (C.1.2.2.2.2 _ tn_Math) (C.1.2.2.2.2 _ tc_Math_maxI) (Nat.le_of_ble_eq_true rfl) (Nat.le_of_ble_eq_true rfl) (Nat.zero_le _) (Nat.zero_le _) dX6_fewestPages_112 ?_
  cases hf
  exact x_iret C hm trivial dX6_fewestPages_115
/-! ColouredHeap$Survey.follow(LColouredHeap$Heap;III)V -/
theorem dX6_follow_0 : decode cX6_follow 0 = .ok (.iload_n 2, 1) := by decide +kernel
theorem dX6_follow_1 : decode cX6_follow 1 = .ok (.ifCond .ge 4, 3) := by decide +kernel
theorem dX6_follow_4 : decode cX6_follow 4 = .ok (.return_, 1) := by decide +kernel
theorem dX6_follow_5 : decode cX6_follow 5 = .ok (.iload_n 2, 1) := by decide +kernel
theorem dX6_follow_6 : decode cX6_follow 6 = .ok (.bipush 64, 2) := by decide +kernel
theorem dX6_follow_8 : decode cX6_follow 8 = .ok (.idiv, 1) := by decide +kernel
theorem dX6_follow_9 : decode cX6_follow 9 = .ok (.aload_n 1, 1) := by decide +kernel
theorem dX6_follow_10 : decode cX6_follow 10 = .ok (.getfield 58, 3) := by decide +kernel
theorem dX6_follow_13 : decode cX6_follow 13 = .ok (.if_icmp .eq 13, 3) := by decide +kernel
theorem dX6_follow_16 : decode cX6_follow 16 = .ok (.aload_n 0, 1) := by decide +kernel
theorem dX6_follow_17 : decode cX6_follow 17 = .ok (.dup, 1) := by decide +kernel
theorem dX6_follow_18 : decode cX6_follow 18 = .ok (.getfield 34, 3) := by decide +kernel
theorem dX6_follow_21 : decode cX6_follow 21 = .ok (.iconst 1, 1) := by decide +kernel
theorem dX6_follow_22 : decode cX6_follow 22 = .ok (.iadd, 1) := by decide +kernel
theorem dX6_follow_23 : decode cX6_follow 23 = .ok (.putfield 34, 3) := by decide +kernel
theorem dX6_follow_26 : decode cX6_follow 26 = .ok (.aload_n 1, 1) := by decide +kernel
theorem dX6_follow_27 : decode cX6_follow 27 = .ok (.iload_n 2, 1) := by decide +kernel
theorem dX6_follow_28 : decode cX6_follow 28 = .ok (.invokevirtual 61, 3) := by decide +kernel
theorem dX6_follow_31 : decode cX6_follow 31 = .ok (.istore 5, 2) := by decide +kernel
theorem dX6_follow_33 : decode cX6_follow 33 = .ok (.aload_n 1, 1) := by decide +kernel
theorem dX6_follow_34 : decode cX6_follow 34 = .ok (.iload 5, 2) := by decide +kernel
theorem dX6_follow_36 : decode cX6_follow 36 = .ok (.invokevirtual 50, 3) := by decide +kernel
theorem dX6_follow_39 : decode cX6_follow 39 = .ok (.istore 6, 2) := by decide +kernel
theorem dX6_follow_41 : decode cX6_follow 41 = .ok (.iload 6, 2) := by decide +kernel
theorem dX6_follow_43 : decode cX6_follow 43 = .ok (.ifCond .eq 24, 3) := by decide +kernel
theorem dX6_follow_46 : decode cX6_follow 46 = .ok (.iload 5, 2) := by decide +kernel
theorem dX6_follow_48 : decode cX6_follow 48 = .ok (.invokestatic 64, 3) := by decide +kernel
theorem dX6_follow_51 : decode cX6_follow 51 = .ok (.ifCond .eq 16, 3) := by decide +kernel
theorem dX6_follow_54 : decode cX6_follow 54 = .ok (.aload_n 1, 1) := by decide +kernel
theorem dX6_follow_55 : decode cX6_follow 55 = .ok (.getfield 68, 3) := by decide +kernel
theorem dX6_follow_58 : decode cX6_follow 58 = .ok (.iload 5, 2) := by decide +kernel
theorem dX6_follow_60 : decode cX6_follow 60 = .ok (.bipush 8, 2) := by decide +kernel
theorem dX6_follow_62 : decode cX6_follow 62 = .ok (.idiv, 1) := by decide +kernel
theorem dX6_follow_63 : decode cX6_follow 63 = .ok (.iaload, 1) := by decide +kernel
theorem dX6_follow_64 : decode cX6_follow 64 = .ok (.ifCond .ne 9, 3) := by decide +kernel
theorem dX6_follow_67 : decode cX6_follow 67 = .ok (.aload_n 0, 1) := by decide +kernel
theorem dX6_follow_68 : decode cX6_follow 68 = .ok (.iconst 0, 1) := by decide +kernel
theorem dX6_follow_69 : decode cX6_follow 69 = .ok (.putfield 37, 3) := by decide +kernel
theorem dX6_follow_72 : decode cX6_follow 72 = .ok (.return_, 1) := by decide +kernel
theorem dX6_follow_73 : decode cX6_follow 73 = .ok (.aload_n 0, 1) := by decide +kernel
theorem dX6_follow_74 : decode cX6_follow 74 = .ok (.getfield 9, 3) := by decide +kernel
theorem dX6_follow_77 : decode cX6_follow 77 = .ok (.iload 5, 2) := by decide +kernel
theorem dX6_follow_79 : decode cX6_follow 79 = .ok (.iaload, 1) := by decide +kernel
theorem dX6_follow_80 : decode cX6_follow 80 = .ok (.iconst (-1), 1) := by decide +kernel
theorem dX6_follow_81 : decode cX6_follow 81 = .ok (.if_icmp .ne 59, 3) := by decide +kernel
theorem dX6_follow_84 : decode cX6_follow 84 = .ok (.iload 5, 2) := by decide +kernel
theorem dX6_follow_86 : decode cX6_follow 86 = .ok (.iload 4, 2) := by decide +kernel
theorem dX6_follow_88 : decode cX6_follow 88 = .ok (.if_icmp .eq 52, 3) := by decide +kernel
theorem dX6_follow_91 : decode cX6_follow 91 = .ok (.aload_n 0, 1) := by decide +kernel
theorem dX6_follow_92 : decode cX6_follow 92 = .ok (.getfield 27, 3) := by decide +kernel
theorem dX6_follow_95 : decode cX6_follow 95 = .ok (.bipush 64, 2) := by decide +kernel
theorem dX6_follow_97 : decode cX6_follow 97 = .ok (.if_icmp .ge 43, 3) := by decide +kernel
theorem dX6_follow_100 : decode cX6_follow 100 = .ok (.aload_n 0, 1) := by decide +kernel
theorem dX6_follow_101 : decode cX6_follow 101 = .ok (.getfield 9, 3) := by decide +kernel
theorem dX6_follow_104 : decode cX6_follow 104 = .ok (.iload 5, 2) := by decide +kernel
theorem dX6_follow_106 : decode cX6_follow 106 = .ok (.iload_n 3, 1) := by decide +kernel
theorem dX6_follow_107 : decode cX6_follow 107 = .ok (.iastore, 1) := by decide +kernel
theorem dX6_follow_108 : decode cX6_follow 108 = .ok (.aload_n 0, 1) := by decide +kernel
theorem dX6_follow_109 : decode cX6_follow 109 = .ok (.getfield 15, 3) := by decide +kernel
theorem dX6_follow_112 : decode cX6_follow 112 = .ok (.aload_n 0, 1) := by decide +kernel
theorem dX6_follow_113 : decode cX6_follow 113 = .ok (.getfield 27, 3) := by decide +kernel
theorem dX6_follow_116 : decode cX6_follow 116 = .ok (.iload 5, 2) := by decide +kernel
theorem dX6_follow_118 : decode cX6_follow 118 = .ok (.iastore, 1) := by decide +kernel
theorem dX6_follow_119 : decode cX6_follow 119 = .ok (.aload_n 0, 1) := by decide +kernel
theorem dX6_follow_120 : decode cX6_follow 120 = .ok (.dup, 1) := by decide +kernel
theorem dX6_follow_121 : decode cX6_follow 121 = .ok (.getfield 27, 3) := by decide +kernel
theorem dX6_follow_124 : decode cX6_follow 124 = .ok (.iconst 1, 1) := by decide +kernel
theorem dX6_follow_125 : decode cX6_follow 125 = .ok (.iadd, 1) := by decide +kernel
theorem dX6_follow_126 : decode cX6_follow 126 = .ok (.putfield 27, 3) := by decide +kernel
theorem dX6_follow_129 : decode cX6_follow 129 = .ok (.aload_n 0, 1) := by decide +kernel
theorem dX6_follow_130 : decode cX6_follow 130 = .ok (.dup, 1) := by decide +kernel
theorem dX6_follow_131 : decode cX6_follow 131 = .ok (.getfield 31, 3) := by decide +kernel
theorem dX6_follow_134 : decode cX6_follow 134 = .ok (.iload 6, 2) := by decide +kernel
theorem dX6_follow_136 : decode cX6_follow 136 = .ok (.iadd, 1) := by decide +kernel
theorem dX6_follow_137 : decode cX6_follow 137 = .ok (.putfield 31, 3) := by decide +kernel
theorem dX6_follow_140 : decode cX6_follow 140 = .ok (.return_, 1) := by decide +kernel
def f_X6_follow (u1 : Nat) (M : xm) (a2 : Int32) (a3 : Int32) (a4 : Int32) : Option (xm) := (if 0 ≤ a2 then xlet (fun (M2 : xm) => xb1 (f_X1_leadsTo u1 M2 a2) (fun v5 => xb1 (f_X1_sizeAt u1 M2 v5) (fun v8 => (if v8 = 0 then xlet (up2 M2 986 6 (0 : Int32)) (fun M11 => some M11) else (if (f_X9_isAddress v5) = 0 then xlet (up2 M2 986 6 (0 : Int32)) (fun M14 => some M14) else if xin (v5 / (8 : Int32)) 8 = true then (if (M2 (u1 + 7) (Int32.toNatClampNeg (v5 / (8 : Int32)))) = 0 then xlet (up2 M2 986 6 (0 : Int32)) (fun M26 => some M26) else if xin v5 64 = true then (if (M2 (986 + 1) (Int32.toNatClampNeg v5)) = (-1 : Int32) then (if v5 = a4 then some M2 else (if (64 : Int32) ≤ (M2 986 3) then some M2 else xlet (up2 M2 (986 + 1) (Int32.toNatClampNeg v5) a3) (fun M21 => if xin (M21 986 3) 64 = true then xlet (up2 M21 (986 + 2) (Int32.toNatClampNeg (M21 986 3)) v5) (fun M23 => xlet (up2 M23 986 3 ((M23 986 3) + (1 : Int32))) (fun M24 => xlet (up2 M24 986 4 ((M24 986 4) + v8)) (fun M25 => some M25))) else none))) else some M2) else none) else none))))) (fun k3 => (if (a2 / (64 : Int32)) = (M u1 15) then (k3 M) else xlet (up2 M 986 5 ((M 986 5) + (1 : Int32))) (fun M28 => (k3 M28)))) else some M)
set_option maxHeartbeats 4000000 in
set_option maxRecDepth 20000 in
theorem c_X6_follow (l : Launch) (E : xE) (b : Nat) {u1 : Nat} (L_u1 : lat u1 pHeap) (M : xm) (a2 : Int32) (a3 : Int32) (a4 : Int32) {M' : xm} (hf : f_X6_follow u1 M a2 a3 a4 = some M') :
    xMet l E b NX yX6_follow cX6_follow 7 none (xR 3) [.ref (b + 986), .ref (b + u1), .int a2, .int a3, .int a4] (cX E b M) none True (cX E b M') := by
  refine xMet.ofW (own := RX6) (by decide) rfl (Nat.le_of_ble_eq_true rfl) ?_
  intro p e s m below meth c H locs ls C hm hl
  have hx := C.1.1
  have hb := C.1.2.1
  have hl : lv_has ls 7 [(0, .ref (b + 986)), (1, .ref (b + u1)), (2, .int a2), (3, .int a3), (4, .int a4)] := hl
  unfold f_X6_follow at hf
  refine lv_iload_n hx hb dX6_follow_0 rfl (lv_at hl 2 rfl) ?_
  refine lv_if_ge (tgt := 5) hx hb dX6_follow_1 (by decide) (fun hc1 => ?_) (fun hc1 => ?_)
  rotate_left
  · have hf := xif_f hc1 hf
    cases hf
    exact x_vret C hm trivial dX6_follow_4
  have hf := xif_t hc1 hf
  refine lv_iload_n hx hb dX6_follow_5 rfl (lv_at hl 2 rfl) ?_
  refine lv_bipush (v := (64 : Int32)) hx hb dX6_follow_6 (by decide) ?_
  refine lv_idiv hx hb dX6_follow_8 (by decide) ?_
  refine lv_aload_n hx hb dX6_follow_9 rfl (lv_at hl 1 rfl) ?_
  refine x_get C hm inX1 rfl 15 (by decide) tf_RX6_58 (cx_Heap (L_u1 0 _ rfl)) rfl dX6_follow_10 ?_
  obtain ⟨k3, ek3, hf⟩ := xlet_x hf
  have jk3 : ∀ (M2 : xm) (H : Heap) (locs : List Loc) (ls : Array Slot), k3 M2 = some M' → xM E b NX (cX E b M2) s.heap H locs → lv_has ls 7 [(0, .ref (b + 986)), (1, .ref (b + u1)), (2, .int a2), (3, .int a3), (4, .int a4)] → W p l e (xR 3) s m ([.ref (b + 986), .ref (b + u1), .int a2, .int a3, .int a4] : List Value).toArray below meth c H locs 0 0 (MQ below (xQ E b NX none True (cX E b M')) ([.ref (b + 986), .ref (b + u1), .int a2, .int a3, .int a4] : List Value).toArray s 0 0 (xA b NX)) (F0 m 26 ls []) := by
    intro M2 H locs ls hf hm hl
    have hf := xap1 ek3 hf
    refine lv_aload_n hx hb dX6_follow_26 rfl (lv_at hl 1 rfl) ?_
    refine lv_iload_n hx hb dX6_follow_27 rfl (lv_at hl 2 rfl) ?_
    obtain ⟨v5, hq4, hf⟩ := xb1_e hf
    refine x_callVi (As := [.int a2]) (rest := []) C hm (c_X1_leadsTo l E b L_u1 M2 a2 hq4) rfl (cx_Heap (L_u1 0 _ rfl)) tc_X1_leadsTo tm_RX6_61 ti_X1_leadsTo ts_X1_leadsTo tn_RX1 td_X1_leadsTo rfl rfl ⟨Nat.le_of_ble_eq_true rfl, Nat.le_of_ble_eq_true rfl⟩ rfl hl.1 rfl (Nat.le_of_ble_eq_true rfl) dX6_follow_28 (fun H locs hP6 hm => ?_)
    refine lv_istore (lv' := [(5, .int v5), (0, .ref (b + 986)), (1, .ref (b + u1)), (2, .int a2), (3, .int a3), (4, .int a4)]) hx hb dX6_follow_31 hl (by decide) rfl (fun ls hl => ?_)
    refine lv_aload_n hx hb dX6_follow_33 rfl (lv_at hl 2 rfl) ?_
    refine lv_iload hx hb dX6_follow_34 (lv_at hl 0 rfl) ?_
    obtain ⟨v8, hq7, hf⟩ := xb1_e hf
    refine x_callVi (As := [.int v5]) (rest := []) C hm (c_X1_sizeAt l E b L_u1 M2 v5 hq7) rfl (cx_Heap (L_u1 0 _ rfl)) tc_X1_sizeAt tm_RX6_50 ti_X1_sizeAt ts_X1_sizeAt tn_RX1 td_X1_sizeAt rfl rfl ⟨Nat.le_of_ble_eq_true rfl, Nat.le_of_ble_eq_true rfl⟩ rfl hl.1 rfl (Nat.le_of_ble_eq_true rfl) dX6_follow_36 (fun H locs hP9 hm => ?_)
    refine lv_istore (lv' := [(6, .int v8), (5, .int v5), (0, .ref (b + 986)), (1, .ref (b + u1)), (2, .int a2), (3, .int a3), (4, .int a4)]) hx hb dX6_follow_39 hl (by decide) rfl (fun ls hl => ?_)
    refine lv_iload hx hb dX6_follow_41 (lv_at hl 0 rfl) ?_
    refine lv_if_eq (tgt := 67) hx hb dX6_follow_43 (by decide) (fun hc10 => ?_) (fun hc10 => ?_)
    · have hf := xif_t hc10 hf
      refine lv_aload_n hx hb dX6_follow_67 rfl (lv_at hl 2 rfl) ?_
      refine lv_iconst (v := (0 : Int32)) hx hb dX6_follow_68 (by decide) ?_
      obtain ⟨M11, eM11, hf⟩ := xlet_x hf
      refine x_put (cf' := cX E b M11) C hm inX6 tyX6 tyX6_ok nmX6 rfl 6 (by decide) tf_RX6_37 rfl (xbo_n (by decide)) rfl (cx_Survey (LX_survey 0 _ rfl)) (Nat.le_of_ble_eq_true rfl) (by rw [eM11]; exact cu_Survey_6 (LX_survey 0 _ rfl)) (by rw [eM11]; exact cX_o) dX6_follow_69 (fun H locs hm => ?_)
      cases hf
      exact x_vret C hm trivial dX6_follow_72
    have hf := xif_f hc10 hf
    refine lv_iload hx hb dX6_follow_46 (lv_at hl 1 rfl) ?_
    refine x_callSNi (As := [.int v5]) (rest := []) C hm (c_X9_isAddress l E b M2 v5 rfl) tc_X9_isAddress (by decide +kernel : (RX6, 64, yX9_isAddress, "ColouredHeap") ∈ xNest) tz_X9_isAddress tn_RX9 td_X9_isAddress rfl rfl ⟨Nat.le_of_ble_eq_true rfl, Nat.le_of_ble_eq_true rfl⟩ rfl hl.1 rfl (Nat.le_of_ble_eq_true rfl) dX6_follow_48 (fun H locs hP12 hm => ?_)
    refine lv_if_eq (tgt := 67) hx hb dX6_follow_51 (by decide) (fun hc13 => ?_) (fun hc13 => ?_)
    · have hf := xif_t hc13 hf
      refine lv_aload_n hx hb dX6_follow_67 rfl (lv_at hl 2 rfl) ?_
      refine lv_iconst (v := (0 : Int32)) hx hb dX6_follow_68 (by decide) ?_
      obtain ⟨M14, eM14, hf⟩ := xlet_x hf
      refine x_put (cf' := cX E b M14) C hm inX6 tyX6 tyX6_ok nmX6 rfl 6 (by decide) tf_RX6_37 rfl (xbo_n (by decide)) rfl (cx_Survey (LX_survey 0 _ rfl)) (Nat.le_of_ble_eq_true rfl) (by rw [eM14]; exact cu_Survey_6 (LX_survey 0 _ rfl)) (by rw [eM14]; exact cX_o) dX6_follow_69 (fun H locs hm => ?_)
      cases hf
      exact x_vret C hm trivial dX6_follow_72
    have hf := xif_f hc13 hf
    refine lv_aload_n hx hb dX6_follow_54 rfl (lv_at hl 3 rfl) ?_
    refine x_get C hm inX1 rfl 6 (by decide) tf_RX6_68 (cx_Heap (L_u1 0 _ rfl)) rfl dX6_follow_55 ?_
    refine lv_iload hx hb dX6_follow_58 (lv_at hl 1 rfl) ?_
    refine lv_bipush (v := (8 : Int32)) hx hb dX6_follow_60 (by decide) ?_
    refine lv_idiv hx hb dX6_follow_62 (by decide) ?_
    obtain ⟨hi15, hf⟩ := xif_s hf
    refine x_iald (j := (Int32.toNatClampNeg (v5 / (8 : Int32)))) C hm (cx_I (L_u1 7 _ rfl)) hi15 dX6_follow_63 rfl ?_
    refine lv_if_ne (tgt := 73) hx hb dX6_follow_64 (by decide) (fun hc16 => ?_) (fun hc16 => ?_)
    rotate_left
    · have hf := xif_t hc16 hf
      refine lv_aload_n hx hb dX6_follow_67 rfl (lv_at hl 2 rfl) ?_
      refine lv_iconst (v := (0 : Int32)) hx hb dX6_follow_68 (by decide) ?_
      obtain ⟨M26, eM26, hf⟩ := xlet_x hf
      refine x_put (cf' := cX E b M26) C hm inX6 tyX6 tyX6_ok nmX6 rfl 6 (by decide) tf_RX6_37 rfl (xbo_n (by decide)) rfl (cx_Survey (LX_survey 0 _ rfl)) (Nat.le_of_ble_eq_true rfl) (by rw [eM26]; exact cu_Survey_6 (LX_survey 0 _ rfl)) (by rw [eM26]; exact cX_o) dX6_follow_69 (fun H locs hm => ?_)
      cases hf
      exact x_vret C hm trivial dX6_follow_72
    have hf := xif_f hc16 hf
    refine lv_aload_n hx hb dX6_follow_73 rfl (lv_at hl 2 rfl) ?_
    refine x_get C hm inX6 rfl 0 (by decide) tf_RX6_9 (cx_Survey (LX_survey 0 _ rfl)) rfl dX6_follow_74 ?_
    refine lv_iload hx hb dX6_follow_77 (lv_at hl 1 rfl) ?_
    obtain ⟨hi17, hf⟩ := xif_s hf
    refine x_iald (j := (Int32.toNatClampNeg v5)) C hm (cx_I (LX_survey 1 _ rfl)) hi17 dX6_follow_79 rfl ?_
    refine lv_iconst (v := (-1 : Int32)) hx hb dX6_follow_80 (by decide) ?_
    refine lv_icmp_ne (tgt := 140) hx hb dX6_follow_81 (by decide) (fun hc18 => ?_) (fun hc18 => ?_)
    · have hf := xif_f hc18 hf
      cases hf
      exact x_vret C hm trivial dX6_follow_140
    have hf := xif_t hc18 hf
    refine lv_iload hx hb dX6_follow_84 (lv_at hl 1 rfl) ?_
    refine lv_iload hx hb dX6_follow_86 (lv_at hl 6 rfl) ?_
    refine lv_icmp_eq (tgt := 140) hx hb dX6_follow_88 (by decide) (fun hc19 => ?_) (fun hc19 => ?_)
    · have hf := xif_t hc19 hf
      cases hf
      exact x_vret C hm trivial dX6_follow_140
    have hf := xif_f hc19 hf
    refine lv_aload_n hx hb dX6_follow_91 rfl (lv_at hl 2 rfl) ?_
    refine x_get C hm inX6 rfl 3 (by decide) tf_RX6_27 (cx_Survey (LX_survey 0 _ rfl)) rfl dX6_follow_92 ?_
    refine lv_bipush (v := (64 : Int32)) hx hb dX6_follow_95 (by decide) ?_
    refine lv_icmp_ge (tgt := 140) hx hb dX6_follow_97 (by decide) (fun hc20 => ?_) (fun hc20 => ?_)
    · have hf := xif_t hc20 hf
      cases hf
      exact x_vret C hm trivial dX6_follow_140
    have hf := xif_f hc20 hf
    refine lv_aload_n hx hb dX6_follow_100 rfl (lv_at hl 2 rfl) ?_
    refine x_get C hm inX6 rfl 0 (by decide) tf_RX6_9 (cx_Survey (LX_survey 0 _ rfl)) rfl dX6_follow_101 ?_
    refine lv_iload hx hb dX6_follow_104 (lv_at hl 1 rfl) ?_
    refine lv_iload_n hx hb dX6_follow_106 rfl (lv_at hl 5 rfl) ?_
    obtain ⟨M21, eM21, hf⟩ := xlet_x hf
    refine x_iast (j := (Int32.toNatClampNeg v5)) (cf' := cX E b M21) C hm (cx_I (LX_survey 1 _ rfl)) hi17 dX6_follow_107 rfl (by rw [eM21]; exact cu_I (LX_survey 1 _ rfl)) (by rw [eM21]; exact cX_o) (fun H locs hm => ?_)
    refine lv_aload_n hx hb dX6_follow_108 rfl (lv_at hl 2 rfl) ?_
    refine x_get C hm inX6 rfl 1 (by decide) tf_RX6_15 (cx_Survey (LX_survey 0 _ rfl)) rfl dX6_follow_109 ?_
    refine lv_aload_n hx hb dX6_follow_112 rfl (lv_at hl 2 rfl) ?_
    refine x_get C hm inX6 rfl 3 (by decide) tf_RX6_27 (cx_Survey (LX_survey 0 _ rfl)) rfl dX6_follow_113 ?_
    refine lv_iload hx hb dX6_follow_116 (lv_at hl 1 rfl) ?_
    obtain ⟨hi22, hf⟩ := xif_s hf
    obtain ⟨M23, eM23, hf⟩ := xlet_x hf
    refine x_iast (j := (Int32.toNatClampNeg (M21 986 3))) (cf' := cX E b M23) C hm (cx_I (LX_survey 2 _ rfl)) hi22 dX6_follow_118 rfl (by rw [eM23]; exact cu_I (LX_survey 2 _ rfl)) (by rw [eM23]; exact cX_o) (fun H locs hm => ?_)
    refine lv_aload_n hx hb dX6_follow_119 rfl (lv_at hl 2 rfl) ?_
    refine lv_dup hx hb dX6_follow_120 rfl ?_
    refine x_get C hm inX6 rfl 3 (by decide) tf_RX6_27 (cx_Survey (LX_survey 0 _ rfl)) rfl dX6_follow_121 ?_
    refine lv_iconst (v := (1 : Int32)) hx hb dX6_follow_124 (by decide) ?_
    refine lv_iadd hx hb dX6_follow_125 ?_
    obtain ⟨M24, eM24, hf⟩ := xlet_x hf
    refine x_put (cf' := cX E b M24) C hm inX6 tyX6 tyX6_ok nmX6 rfl 3 (by decide) tf_RX6_27 rfl rfl rfl (cx_Survey (LX_survey 0 _ rfl)) (Nat.le_of_ble_eq_true rfl) (by rw [eM24]; exact cu_Survey_3 (LX_survey 0 _ rfl)) (by rw [eM24]; exact cX_o) dX6_follow_126 (fun H locs hm => ?_)
    refine lv_aload_n hx hb dX6_follow_129 rfl (lv_at hl 2 rfl) ?_
    refine lv_dup hx hb dX6_follow_130 rfl ?_
    refine x_get C hm inX6 rfl 4 (by decide) tf_RX6_31 (cx_Survey (LX_survey 0 _ rfl)) rfl dX6_follow_131 ?_
    refine lv_iload hx hb dX6_follow_134 (lv_at hl 0 rfl) ?_
    refine lv_iadd hx hb dX6_follow_136 ?_
    obtain ⟨M25, eM25, hf⟩ := xlet_x hf
    refine x_put (cf' := cX E b M25) C hm inX6 tyX6 tyX6_ok nmX6 rfl 4 (by decide) tf_RX6_31 rfl rfl rfl (cx_Survey (LX_survey 0 _ rfl)) (Nat.le_of_ble_eq_true rfl) (by rw [eM25]; exact cu_Survey_4 (LX_survey 0 _ rfl)) (by rw [eM25]; exact cX_o) dX6_follow_137 (fun H locs hm => ?_)
    cases hf
    exact x_vret C hm trivial dX6_follow_140
  refine lv_icmp_eq (tgt := 26) hx hb dX6_follow_13 (by decide) (fun hc27 => ?_) (fun hc27 => ?_)
  · have hf := xif_t hc27 hf
    exact jk3 M H locs ls  hf hm (lv_sub hl [0, 1, 2, 3, 4] rfl)
  have hf := xif_f hc27 hf
  refine lv_aload_n hx hb dX6_follow_16 rfl (lv_at hl 0 rfl) ?_
  refine lv_dup hx hb dX6_follow_17 rfl ?_
  refine x_get C hm inX6 rfl 5 (by decide) tf_RX6_34 (cx_Survey (LX_survey 0 _ rfl)) rfl dX6_follow_18 ?_
  refine lv_iconst (v := (1 : Int32)) hx hb dX6_follow_21 (by decide) ?_
  refine lv_iadd hx hb dX6_follow_22 ?_
  obtain ⟨M28, eM28, hf⟩ := xlet_x hf
  refine x_put (cf' := cX E b M28) C hm inX6 tyX6 tyX6_ok nmX6 rfl 5 (by decide) tf_RX6_34 rfl rfl rfl (cx_Survey (LX_survey 0 _ rfl)) (Nat.le_of_ble_eq_true rfl) (by rw [eM28]; exact cu_Survey_5 (LX_survey 0 _ rfl)) (by rw [eM28]; exact cX_o) dX6_follow_23 (fun H locs hm => ?_)
  exact jk3 M28 H locs ls  hf hm (lv_sub hl [0, 1, 2, 3, 4] rfl)
/-! ColouredHeap$Survey.gapsOf(LColouredHeap$Heap;I)I -/
theorem dX6_gapsOf_0 : decode cX6_gapsOf 0 = .ok (.iload_n 2, 1) := by decide +kernel
theorem dX6_gapsOf_1 : decode cX6_gapsOf 1 = .ok (.invokestatic 71, 3) := by decide +kernel
theorem dX6_gapsOf_4 : decode cX6_gapsOf 4 = .ok (.ifCond .ne 5, 3) := by decide +kernel
theorem dX6_gapsOf_7 : decode cX6_gapsOf 7 = .ok (.iconst (-1), 1) := by decide +kernel
theorem dX6_gapsOf_8 : decode cX6_gapsOf 8 = .ok (.ireturn, 1) := by decide +kernel
theorem dX6_gapsOf_9 : decode cX6_gapsOf 9 = .ok (.aload_n 1, 1) := by decide +kernel
theorem dX6_gapsOf_10 : decode cX6_gapsOf 10 = .ok (.getfield 74, 3) := by decide +kernel
theorem dX6_gapsOf_13 : decode cX6_gapsOf 13 = .ok (.iload_n 2, 1) := by decide +kernel
theorem dX6_gapsOf_14 : decode cX6_gapsOf 14 = .ok (.iaload, 1) := by decide +kernel
theorem dX6_gapsOf_15 : decode cX6_gapsOf 15 = .ok (.istore_n 3, 1) := by decide +kernel
theorem dX6_gapsOf_16 : decode cX6_gapsOf 16 = .ok (.iload_n 2, 1) := by decide +kernel
theorem dX6_gapsOf_17 : decode cX6_gapsOf 17 = .ok (.bipush 8, 2) := by decide +kernel
theorem dX6_gapsOf_19 : decode cX6_gapsOf 19 = .ok (.imul, 1) := by decide +kernel
theorem dX6_gapsOf_20 : decode cX6_gapsOf 20 = .ok (.istore 4, 2) := by decide +kernel
theorem dX6_gapsOf_22 : decode cX6_gapsOf 22 = .ok (.iload 4, 2) := by decide +kernel
theorem dX6_gapsOf_24 : decode cX6_gapsOf 24 = .ok (.iload_n 2, 1) := by decide +kernel
theorem dX6_gapsOf_25 : decode cX6_gapsOf 25 = .ok (.iconst 1, 1) := by decide +kernel
theorem dX6_gapsOf_26 : decode cX6_gapsOf 26 = .ok (.iadd, 1) := by decide +kernel
theorem dX6_gapsOf_27 : decode cX6_gapsOf 27 = .ok (.bipush 8, 2) := by decide +kernel
theorem dX6_gapsOf_29 : decode cX6_gapsOf 29 = .ok (.imul, 1) := by decide +kernel
theorem dX6_gapsOf_30 : decode cX6_gapsOf 30 = .ok (.if_icmp .ge 29, 3) := by decide +kernel
theorem dX6_gapsOf_33 : decode cX6_gapsOf 33 = .ok (.aload_n 0, 1) := by decide +kernel
theorem dX6_gapsOf_34 : decode cX6_gapsOf 34 = .ok (.getfield 9, 3) := by decide +kernel
theorem dX6_gapsOf_37 : decode cX6_gapsOf 37 = .ok (.iload 4, 2) := by decide +kernel
theorem dX6_gapsOf_39 : decode cX6_gapsOf 39 = .ok (.iaload, 1) := by decide +kernel
theorem dX6_gapsOf_40 : decode cX6_gapsOf 40 = .ok (.iconst (-1), 1) := by decide +kernel
theorem dX6_gapsOf_41 : decode cX6_gapsOf 41 = .ok (.if_icmp .eq 12, 3) := by decide +kernel
theorem dX6_gapsOf_44 : decode cX6_gapsOf 44 = .ok (.iload_n 3, 1) := by decide +kernel
theorem dX6_gapsOf_45 : decode cX6_gapsOf 45 = .ok (.aload_n 1, 1) := by decide +kernel
theorem dX6_gapsOf_46 : decode cX6_gapsOf 46 = .ok (.iload 4, 2) := by decide +kernel
theorem dX6_gapsOf_48 : decode cX6_gapsOf 48 = .ok (.invokevirtual 50, 3) := by decide +kernel
theorem dX6_gapsOf_51 : decode cX6_gapsOf 51 = .ok (.isub, 1) := by decide +kernel
theorem dX6_gapsOf_52 : decode cX6_gapsOf 52 = .ok (.istore_n 3, 1) := by decide +kernel
theorem dX6_gapsOf_53 : decode cX6_gapsOf 53 = .ok (.iinc 4 1, 3) := by decide +kernel
theorem dX6_gapsOf_56 : decode cX6_gapsOf 56 = .ok (.goto (-34), 3) := by decide +kernel
theorem dX6_gapsOf_59 : decode cX6_gapsOf 59 = .ok (.iload_n 3, 1) := by decide +kernel
theorem dX6_gapsOf_60 : decode cX6_gapsOf 60 = .ok (.ireturn, 1) := by decide +kernel
def g_X6_gapsOf_22 (o6 : Nat) (M : xm) (x7 : Int32) : Nat → Int32 → Int32 → Option ((Int32))
  | 0, _, _ => none
  | n + 1, x8, x9 => (if ((x7 + (1 : Int32)) * (8 : Int32)) ≤ x9 then some (x8) else if xin x9 64 = true then (if (M (986 + 1) (Int32.toNatClampNeg x9)) = (-1 : Int32) then xlet (x9 + (1 : Int32)) (fun v14 => g_X6_gapsOf_22 o6 M x7 n x8 v14) else xb1 (f_X1_sizeAt o6 M x9) (fun v16 => xlet (x8 - v16) (fun v18 => xlet (x9 + (1 : Int32)) (fun v19 => g_X6_gapsOf_22 o6 M x7 n v18 v19)))) else none)
def f_X6_gapsOf (u1 : Nat) (M : xm) (a2 : Int32) : Option (Int32) := (if (f_X9_isPage a2) = 0 then some (-1 : Int32) else if xin a2 8 = true then xlet (M (u1 + 6) (Int32.toNatClampNeg a2)) (fun v4 => xlet (a2 * (8 : Int32)) (fun v5 => xb1 (g_X6_gapsOf_22 u1 M a2 xfuel v4 v5) (fun v20 => some v20))) else none)
set_option maxHeartbeats 4000000 in
set_option maxRecDepth 20000 in
theorem j_X6_gapsOf_22 {p : Program} {l : Launch} {e : Env} {s : State} {m : MethodId} {args : Array Value} {below : List Frame} {meth : Method} {c : Code} {Q : State → Prop} {E : xE} {b : Nat} (C : xC p s m args meth c cX6_gapsOf 5 RX6 (some .int) E) {o6 : Nat} (L_o6 : lat o6 pHeap) (M : xm) (x7 : Int32) {y10 : Int32}
    (kx0 : ∀ (H : Heap) (locs : List Loc) (ls : Array Slot), xM E b NX (cX E b M) s.heap H locs → lv_has ls 5 [(3, .int y10)] → W p l e (xR 3) s m args below meth c H locs 0 0 Q (F0 m 59 ls [])) :
    ∀ (n : Nat) (x8 : Int32) (x9 : Int32) (H : Heap) (locs : List Loc) (ls : Array Slot), g_X6_gapsOf_22 o6 M x7 n x8 x9 = some y10 → xM E b NX (cX E b M) s.heap H locs → lv_has ls 5 [(0, .ref (b + 986)), (1, .ref (b + o6)), (2, .int x7), (3, .int x8), (4, .int x9)] → W p l e (xR 3) s m args below meth c H locs 0 0 Q (F0 m 22 ls []) := by
  have hx := C.1.1
  have hb := C.1.2.1
  intro n
  induction n with
  | zero =>
    intro x8 x9 H locs ls hf hm hl
    rw [g_X6_gapsOf_22] at hf
    cases hf
  | succ n ih =>
    intro x8 x9 H locs ls hf hm hl
    rw [g_X6_gapsOf_22] at hf
    refine lv_iload hx hb dX6_gapsOf_22 (lv_at hl 4 rfl) ?_
    refine lv_iload_n hx hb dX6_gapsOf_24 rfl (lv_at hl 2 rfl) ?_
    refine lv_iconst (v := (1 : Int32)) hx hb dX6_gapsOf_25 (by decide) ?_
    refine lv_iadd hx hb dX6_gapsOf_26 ?_
    refine lv_bipush (v := (8 : Int32)) hx hb dX6_gapsOf_27 (by decide) ?_
    refine lv_imul hx hb dX6_gapsOf_29 ?_
    refine lv_icmp_ge (tgt := 59) hx hb dX6_gapsOf_30 (by decide) (fun hc11 => ?_) (fun hc11 => ?_)
    · have hf := xif_t hc11 hf
      cases hf
      exact kx0 H locs ls hm (lv_sub hl [3] rfl)
    have hf := xif_f hc11 hf
    refine lv_aload_n hx hb dX6_gapsOf_33 rfl (lv_at hl 0 rfl) ?_
    refine x_get C hm inX6 rfl 0 (by decide) tf_RX6_9 (cx_Survey (LX_survey 0 _ rfl)) rfl dX6_gapsOf_34 ?_
    refine lv_iload hx hb dX6_gapsOf_37 (lv_at hl 4 rfl) ?_
    obtain ⟨hi12, hf⟩ := xif_s hf
    refine x_iald (j := (Int32.toNatClampNeg x9)) C hm (cx_I (LX_survey 1 _ rfl)) hi12 dX6_gapsOf_39 rfl ?_
    refine lv_iconst (v := (-1 : Int32)) hx hb dX6_gapsOf_40 (by decide) ?_
    refine lv_icmp_eq (tgt := 53) hx hb dX6_gapsOf_41 (by decide) (fun hc13 => ?_) (fun hc13 => ?_)
    · have hf := xif_t hc13 hf
      obtain ⟨v14, ev14, hf⟩ := xlet_x hf
      refine lv_iinc (v := v14) (lv' := [(4, .int v14), (0, .ref (b + 986)), (1, .ref (b + o6)), (2, .int x7), (3, .int x8)]) hx hb dX6_gapsOf_53 hl (k := 4) rfl (by rw [ev14]; rfl) (by decide) rfl (fun ls hl => ?_)
      refine lv_goto (tgt := 22) hx hb dX6_gapsOf_56 (by decide) ?_
      exact ih x8 v14 H locs ls hf hm (lv_sub hl [1, 2, 3, 4, 0] rfl)
    have hf := xif_f hc13 hf
    refine lv_iload_n hx hb dX6_gapsOf_44 rfl (lv_at hl 3 rfl) ?_
    refine lv_aload_n hx hb dX6_gapsOf_45 rfl (lv_at hl 1 rfl) ?_
    refine lv_iload hx hb dX6_gapsOf_46 (lv_at hl 4 rfl) ?_
    obtain ⟨v16, hq15, hf⟩ := xb1_e hf
    refine x_callVi (As := [.int x9]) (rest := [.int x8]) C hm (c_X1_sizeAt l E b L_o6 M x9 hq15) rfl (cx_Heap (L_o6 0 _ rfl)) tc_X1_sizeAt tm_RX6_50 ti_X1_sizeAt ts_X1_sizeAt tn_RX1 td_X1_sizeAt rfl rfl ⟨Nat.le_of_ble_eq_true rfl, Nat.le_of_ble_eq_true rfl⟩ rfl hl.1 rfl (Nat.le_of_ble_eq_true rfl) dX6_gapsOf_48 (fun H locs hP17 hm => ?_)
    refine lv_isub hx hb dX6_gapsOf_51 ?_
    refine lv_topi (fun v18 ev18 => ?_)
    have hf := xlet_e ev18 hf
    refine lv_istore_n (lv' := [(3, .int v18), (0, .ref (b + 986)), (1, .ref (b + o6)), (2, .int x7), (4, .int x9)]) hx hb dX6_gapsOf_52 rfl hl (by decide) rfl (fun ls hl => ?_)
    obtain ⟨v19, ev19, hf⟩ := xlet_x hf
    refine lv_iinc (v := v19) (lv' := [(4, .int v19), (3, .int v18), (0, .ref (b + 986)), (1, .ref (b + o6)), (2, .int x7)]) hx hb dX6_gapsOf_53 hl (k := 4) rfl (by rw [ev19]; rfl) (by decide) rfl (fun ls hl => ?_)
    refine lv_goto (tgt := 22) hx hb dX6_gapsOf_56 (by decide) ?_
    exact ih v18 v19 H locs ls hf hm (lv_sub hl [2, 3, 4, 1, 0] rfl)
set_option maxHeartbeats 4000000 in
set_option maxRecDepth 20000 in
theorem c_X6_gapsOf (l : Launch) (E : xE) (b : Nat) {u1 : Nat} (L_u1 : lat u1 pHeap) (M : xm) (a2 : Int32) {r : Int32} (hf : f_X6_gapsOf u1 M a2 = some r) :
    xMet l E b NX yX6_gapsOf cX6_gapsOf 5 (some .int) (xR 3) [.ref (b + 986), .ref (b + u1), .int a2] (cX E b M) (some (.int r)) True (cX E b M) := by
  refine xMet.ofW (own := RX6) (by decide) rfl (Nat.le_of_ble_eq_true rfl) ?_
  intro p e s m below meth c H locs ls C hm hl
  have hx := C.1.1
  have hb := C.1.2.1
  have hl : lv_has ls 5 [(0, .ref (b + 986)), (1, .ref (b + u1)), (2, .int a2)] := hl
  unfold f_X6_gapsOf at hf
  refine lv_iload_n hx hb dX6_gapsOf_0 rfl (lv_at hl 2 rfl) ?_
  refine x_callSNi (As := [.int a2]) (rest := []) C hm (c_X9_isPage l E b M a2 rfl) tc_X9_isPage (by decide +kernel : (RX6, 71, yX9_isPage, "ColouredHeap") ∈ xNest) tz_X9_isPage tn_RX9 td_X9_isPage rfl rfl ⟨Nat.le_of_ble_eq_true rfl, Nat.le_of_ble_eq_true rfl⟩ rfl hl.1 rfl (Nat.le_of_ble_eq_true rfl) dX6_gapsOf_1 (fun H locs hP1 hm => ?_)
  refine lv_if_ne (tgt := 9) hx hb dX6_gapsOf_4 (by decide) (fun hc2 => ?_) (fun hc2 => ?_)
  rotate_left
  · have hf := xif_t hc2 hf
    refine lv_iconst (v := (-1 : Int32)) hx hb dX6_gapsOf_7 (by decide) ?_
    cases hf
    exact x_iret C hm trivial dX6_gapsOf_8
  have hf := xif_f hc2 hf
  refine lv_aload_n hx hb dX6_gapsOf_9 rfl (lv_at hl 1 rfl) ?_
  refine x_get C hm inX1 rfl 5 (by decide) tf_RX6_74 (cx_Heap (L_u1 0 _ rfl)) rfl dX6_gapsOf_10 ?_
  refine lv_iload_n hx hb dX6_gapsOf_13 rfl (lv_at hl 2 rfl) ?_
  obtain ⟨hi3, hf⟩ := xif_s hf
  refine x_iald (j := (Int32.toNatClampNeg a2)) C hm (cx_I (L_u1 6 _ rfl)) hi3 dX6_gapsOf_14 rfl ?_
  refine lv_topi (fun v4 ev4 => ?_)
  have hf := xlet_e ev4 hf
  refine lv_istore_n (lv' := [(3, .int v4), (0, .ref (b + 986)), (1, .ref (b + u1)), (2, .int a2)]) hx hb dX6_gapsOf_15 rfl hl (by decide) rfl (fun ls hl => ?_)
  refine lv_iload_n hx hb dX6_gapsOf_16 rfl (lv_at hl 3 rfl) ?_
  refine lv_bipush (v := (8 : Int32)) hx hb dX6_gapsOf_17 (by decide) ?_
  refine lv_imul hx hb dX6_gapsOf_19 ?_
  refine lv_topi (fun v5 ev5 => ?_)
  have hf := xlet_e ev5 hf
  refine lv_istore (lv' := [(4, .int v5), (3, .int v4), (0, .ref (b + 986)), (1, .ref (b + u1)), (2, .int a2)]) hx hb dX6_gapsOf_20 hl (by decide) rfl (fun ls hl => ?_)
  obtain ⟨v20, hq, hf⟩ := xb1_e hf
  refine j_X6_gapsOf_22 C L_u1 M a2 (fun H locs ls hm hl => ?_) xfuel v4 v5 H locs ls hq hm (lv_sub hl [2, 3, 4, 1, 0] rfl)
  refine lv_iload_n hx hb dX6_gapsOf_59 rfl (lv_at hl 0 rfl) ?_
  cases hf
  exact x_iret C hm trivial dX6_gapsOf_60
/-! ColouredHeap$Survey.take(LColouredHeap$Heap;I)V -/
theorem dX6_take_0 : decode cX6_take 0 = .ok (.aload_n 0, 1) := by decide +kernel
theorem dX6_take_1 : decode cX6_take 1 = .ok (.getfield 9, 3) := by decide +kernel
theorem dX6_take_4 : decode cX6_take 4 = .ok (.iconst (-1), 1) := by decide +kernel
theorem dX6_take_5 : decode cX6_take 5 = .ok (.invokestatic 21, 3) := by decide +kernel
theorem dX6_take_8 : decode cX6_take 8 = .ok (.aload_n 0, 1) := by decide +kernel
theorem dX6_take_9 : decode cX6_take 9 = .ok (.iconst 0, 1) := by decide +kernel
theorem dX6_take_10 : decode cX6_take 10 = .ok (.putfield 27, 3) := by decide +kernel
theorem dX6_take_13 : decode cX6_take 13 = .ok (.aload_n 0, 1) := by decide +kernel
theorem dX6_take_14 : decode cX6_take 14 = .ok (.iconst 0, 1) := by decide +kernel
theorem dX6_take_15 : decode cX6_take 15 = .ok (.putfield 31, 3) := by decide +kernel
theorem dX6_take_18 : decode cX6_take 18 = .ok (.aload_n 0, 1) := by decide +kernel
theorem dX6_take_19 : decode cX6_take 19 = .ok (.iconst 0, 1) := by decide +kernel
theorem dX6_take_20 : decode cX6_take 20 = .ok (.putfield 34, 3) := by decide +kernel
theorem dX6_take_23 : decode cX6_take 23 = .ok (.aload_n 0, 1) := by decide +kernel
theorem dX6_take_24 : decode cX6_take 24 = .ok (.iconst 1, 1) := by decide +kernel
theorem dX6_take_25 : decode cX6_take 25 = .ok (.putfield 37, 3) := by decide +kernel
theorem dX6_take_28 : decode cX6_take 28 = .ok (.iconst 0, 1) := by decide +kernel
theorem dX6_take_29 : decode cX6_take 29 = .ok (.istore_n 3, 1) := by decide +kernel
theorem dX6_take_30 : decode cX6_take 30 = .ok (.iload_n 3, 1) := by decide +kernel
theorem dX6_take_31 : decode cX6_take 31 = .ok (.bipush 6, 2) := by decide +kernel
theorem dX6_take_33 : decode cX6_take 33 = .ok (.if_icmp .ge 22, 3) := by decide +kernel
theorem dX6_take_36 : decode cX6_take 36 = .ok (.aload_n 0, 1) := by decide +kernel
theorem dX6_take_37 : decode cX6_take 37 = .ok (.aload_n 1, 1) := by decide +kernel
theorem dX6_take_38 : decode cX6_take 38 = .ok (.aload_n 1, 1) := by decide +kernel
theorem dX6_take_39 : decode cX6_take 39 = .ok (.getfield 41, 3) := by decide +kernel
theorem dX6_take_42 : decode cX6_take 42 = .ok (.iload_n 3, 1) := by decide +kernel
theorem dX6_take_43 : decode cX6_take 43 = .ok (.iaload, 1) := by decide +kernel
theorem dX6_take_44 : decode cX6_take 44 = .ok (.iconst 0, 1) := by decide +kernel
theorem dX6_take_45 : decode cX6_take 45 = .ok (.iload_n 2, 1) := by decide +kernel
theorem dX6_take_46 : decode cX6_take 46 = .ok (.invokevirtual 46, 3) := by decide +kernel
theorem dX6_take_49 : decode cX6_take 49 = .ok (.iinc 3 1, 3) := by decide +kernel
theorem dX6_take_52 : decode cX6_take 52 = .ok (.goto (-22), 3) := by decide +kernel
theorem dX6_take_55 : decode cX6_take 55 = .ok (.iconst 0, 1) := by decide +kernel
theorem dX6_take_56 : decode cX6_take 56 = .ok (.istore_n 3, 1) := by decide +kernel
theorem dX6_take_57 : decode cX6_take 57 = .ok (.iload_n 3, 1) := by decide +kernel
theorem dX6_take_58 : decode cX6_take 58 = .ok (.aload_n 0, 1) := by decide +kernel
theorem dX6_take_59 : decode cX6_take 59 = .ok (.getfield 27, 3) := by decide +kernel
theorem dX6_take_62 : decode cX6_take 62 = .ok (.if_icmp .ge 72, 3) := by decide +kernel
theorem dX6_take_65 : decode cX6_take 65 = .ok (.iload_n 3, 1) := by decide +kernel
theorem dX6_take_66 : decode cX6_take 66 = .ok (.bipush 64, 2) := by decide +kernel
theorem dX6_take_68 : decode cX6_take 68 = .ok (.if_icmp .ge 66, 3) := by decide +kernel
theorem dX6_take_71 : decode cX6_take 71 = .ok (.aload_n 0, 1) := by decide +kernel
theorem dX6_take_72 : decode cX6_take 72 = .ok (.getfield 15, 3) := by decide +kernel
theorem dX6_take_75 : decode cX6_take 75 = .ok (.iload_n 3, 1) := by decide +kernel
theorem dX6_take_76 : decode cX6_take 76 = .ok (.iaload, 1) := by decide +kernel
theorem dX6_take_77 : decode cX6_take 77 = .ok (.istore 4, 2) := by decide +kernel
theorem dX6_take_79 : decode cX6_take 79 = .ok (.aload_n 1, 1) := by decide +kernel
theorem dX6_take_80 : decode cX6_take 80 = .ok (.iload 4, 2) := by decide +kernel
theorem dX6_take_82 : decode cX6_take 82 = .ok (.invokevirtual 50, 3) := by decide +kernel
theorem dX6_take_85 : decode cX6_take 85 = .ok (.iconst 1, 1) := by decide +kernel
theorem dX6_take_86 : decode cX6_take 86 = .ok (.isub, 1) := by decide +kernel
theorem dX6_take_87 : decode cX6_take 87 = .ok (.istore 5, 2) := by decide +kernel
theorem dX6_take_89 : decode cX6_take 89 = .ok (.iconst 0, 1) := by decide +kernel
theorem dX6_take_90 : decode cX6_take 90 = .ok (.istore 6, 2) := by decide +kernel
theorem dX6_take_92 : decode cX6_take 92 = .ok (.iload 6, 2) := by decide +kernel
theorem dX6_take_94 : decode cX6_take 94 = .ok (.iload 5, 2) := by decide +kernel
theorem dX6_take_96 : decode cX6_take 96 = .ok (.if_icmp .ge 32, 3) := by decide +kernel
theorem dX6_take_99 : decode cX6_take 99 = .ok (.aload_n 0, 1) := by decide +kernel
theorem dX6_take_100 : decode cX6_take 100 = .ok (.aload_n 1, 1) := by decide +kernel
theorem dX6_take_101 : decode cX6_take 101 = .ok (.aload_n 1, 1) := by decide +kernel
theorem dX6_take_102 : decode cX6_take 102 = .ok (.iload 4, 2) := by decide +kernel
theorem dX6_take_104 : decode cX6_take 104 = .ok (.iload 6, 2) := by decide +kernel
theorem dX6_take_106 : decode cX6_take 106 = .ok (.invokevirtual 54, 3) := by decide +kernel
theorem dX6_take_109 : decode cX6_take 109 = .ok (.aload_n 0, 1) := by decide +kernel
theorem dX6_take_110 : decode cX6_take 110 = .ok (.getfield 9, 3) := by decide +kernel
theorem dX6_take_113 : decode cX6_take 113 = .ok (.iload 4, 2) := by decide +kernel
theorem dX6_take_115 : decode cX6_take 115 = .ok (.iaload, 1) := by decide +kernel
theorem dX6_take_116 : decode cX6_take 116 = .ok (.iconst 1, 1) := by decide +kernel
theorem dX6_take_117 : decode cX6_take 117 = .ok (.iadd, 1) := by decide +kernel
theorem dX6_take_118 : decode cX6_take 118 = .ok (.iload_n 2, 1) := by decide +kernel
theorem dX6_take_119 : decode cX6_take 119 = .ok (.invokevirtual 46, 3) := by decide +kernel
theorem dX6_take_122 : decode cX6_take 122 = .ok (.iinc 6 1, 3) := by decide +kernel
theorem dX6_take_125 : decode cX6_take 125 = .ok (.goto (-33), 3) := by decide +kernel
theorem dX6_take_128 : decode cX6_take 128 = .ok (.iinc 3 1, 3) := by decide +kernel
theorem dX6_take_131 : decode cX6_take 131 = .ok (.goto (-74), 3) := by decide +kernel
theorem dX6_take_134 : decode cX6_take 134 = .ok (.return_, 1) := by decide +kernel
def g_X6_take_30 (o8 : Nat) (x9 : Int32) : Nat → xm → Int32 → Option ((xm))
  | 0, _, _ => none
  | n + 1, M11, x10 => (if (6 : Int32) ≤ x10 then some (M11) else if xin x10 6 = true then xb1 (f_X6_follow o8 M11 (M11 (o8 + 8) (Int32.toNatClampNeg x10)) (0 : Int32) x9) (fun M16 => xlet (x10 + (1 : Int32)) (fun v18 => g_X6_take_30 o8 x9 n M16 v18)) else none)
def g_X6_take_92 (o33 : Nat) (x34 : Int32) (x35 : Int32) (x36 : Int32) (x37 : Int32) : Nat → xm → Int32 → Option ((xm))
  | 0, _, _ => none
  | n + 1, M39, x38 => (if x37 ≤ x38 then some (M39) else xb1 (f_X1_fieldOf o33 M39 x36 x38) (fun v43 => if xin x36 64 = true then xb1 (f_X6_follow o33 M39 v43 ((M39 (986 + 1) (Int32.toNatClampNeg x36)) + (1 : Int32)) x34) (fun M47 => xlet (x38 + (1 : Int32)) (fun v49 => g_X6_take_92 o33 x34 x35 x36 x37 n M47 v49)) else none))
def g_X6_take_57 (o20 : Nat) (x21 : Int32) : Nat → xm → Int32 → Option ((xm))
  | 0, _, _ => none
  | n + 1, M23, x22 => (if (M23 986 3) ≤ x22 then some (M23) else (if (64 : Int32) ≤ x22 then some (M23) else if xin x22 64 = true then xlet (M23 (986 + 2) (Int32.toNatClampNeg x22)) (fun v28 => xb1 (f_X1_sizeAt o20 M23 v28) (fun v30 => xlet (v30 - (1 : Int32)) (fun v32 => xb1 (g_X6_take_92 o20 x21 x22 v28 v32 xfuel M23 (0 : Int32)) (fun M50 => xlet (x22 + (1 : Int32)) (fun v51 => g_X6_take_57 o20 x21 n M50 v51))))) else none))
def f_X6_take (u1 : Nat) (M : xm) (a2 : Int32) : Option (xm) := xb1 (f_J7_fill_53178 (986 + 1) 64 M (-1 : Int32)) (fun M2 => xlet (up2 M2 986 3 (0 : Int32)) (fun M4 => xlet (up2 M4 986 4 (0 : Int32)) (fun M5 => xlet (up2 M5 986 5 (0 : Int32)) (fun M6 => xlet (up2 M6 986 6 (1 : Int32)) (fun M7 => xb1 (g_X6_take_30 u1 a2 xfuel M7 (0 : Int32)) (fun M19 => xb1 (g_X6_take_57 u1 a2 xfuel M19 (0 : Int32)) (fun M52 => some M52)))))))
set_option maxHeartbeats 4000000 in
set_option maxRecDepth 20000 in
theorem j_X6_take_30 {p : Program} {l : Launch} {e : Env} {s : State} {m : MethodId} {args : Array Value} {below : List Frame} {meth : Method} {c : Code} {Q : State → Prop} {E : xE} {b : Nat} (C : xC p s m args meth c cX6_take 7 RX6 none E) {o8 : Nat} (L_o8 : lat o8 pHeap) (x9 : Int32) {y12 : xm}
    (kx0 : ∀ (H : Heap) (locs : List Loc) (ls : Array Slot), xM E b NX (cX E b y12) s.heap H locs → lv_has ls 7 [(0, .ref (b + 986)), (1, .ref (b + o8)), (2, .int x9)] → W p l e (xR 4) s m args below meth c H locs 0 0 Q (F0 m 55 ls [])) :
    ∀ (n : Nat) (M11 : xm) (x10 : Int32) (H : Heap) (locs : List Loc) (ls : Array Slot), g_X6_take_30 o8 x9 n M11 x10 = some y12 → xM E b NX (cX E b M11) s.heap H locs → lv_has ls 7 [(0, .ref (b + 986)), (1, .ref (b + o8)), (2, .int x9), (3, .int x10)] → W p l e (xR 4) s m args below meth c H locs 0 0 Q (F0 m 30 ls []) := by
  have hx := C.1.1
  have hb := C.1.2.1
  intro n
  induction n with
  | zero =>
    intro M11 x10 H locs ls hf hm hl
    rw [g_X6_take_30] at hf
    cases hf
  | succ n ih =>
    intro M11 x10 H locs ls hf hm hl
    rw [g_X6_take_30] at hf
    refine lv_iload_n hx hb dX6_take_30 rfl (lv_at hl 3 rfl) ?_
    refine lv_bipush (v := (6 : Int32)) hx hb dX6_take_31 (by decide) ?_
    refine lv_icmp_ge (tgt := 55) hx hb dX6_take_33 (by decide) (fun hc13 => ?_) (fun hc13 => ?_)
    · have hf := xif_t hc13 hf
      cases hf
      exact kx0 H locs ls hm (lv_sub hl [0, 1, 2] rfl)
    have hf := xif_f hc13 hf
    refine lv_aload_n hx hb dX6_take_36 rfl (lv_at hl 0 rfl) ?_
    refine lv_aload_n hx hb dX6_take_37 rfl (lv_at hl 1 rfl) ?_
    refine lv_aload_n hx hb dX6_take_38 rfl (lv_at hl 1 rfl) ?_
    refine x_get C hm inX1 rfl 7 (by decide) tf_RX6_41 (cx_Heap (L_o8 0 _ rfl)) rfl dX6_take_39 ?_
    refine lv_iload_n hx hb dX6_take_42 rfl (lv_at hl 3 rfl) ?_
    obtain ⟨hi14, hf⟩ := xif_s hf
    refine x_iald (j := (Int32.toNatClampNeg x10)) C hm (cx_I (L_o8 8 _ rfl)) hi14 dX6_take_43 rfl ?_
    refine lv_iconst (v := (0 : Int32)) hx hb dX6_take_44 (by decide) ?_
    refine lv_iload_n hx hb dX6_take_45 rfl (lv_at hl 2 rfl) ?_
    obtain ⟨M16, hq15, hf⟩ := xb1_e hf
    refine x_callVv (As := [.ref (b + o8), .int (M11 (o8 + 8) (Int32.toNatClampNeg x10)), .int (0 : Int32), .int x9]) (rest := []) C hm (c_X6_follow l E b L_o8 M11 (M11 (o8 + 8) (Int32.toNatClampNeg x10)) (0 : Int32) x9 hq15) rfl (cx_Survey (LX_survey 0 _ rfl)) tc_X6_follow tm_RX6_46 ti_X6_follow ts_X6_follow tn_RX6 td_X6_follow rfl rfl ⟨Nat.le_of_ble_eq_true rfl, Nat.le_of_ble_eq_true rfl⟩ rfl hl.1 rfl (Nat.le_of_ble_eq_true rfl) dX6_take_46 (fun H locs hP17 hm => ?_)
    obtain ⟨v18, ev18, hf⟩ := xlet_x hf
    refine lv_iinc (v := v18) (lv' := [(3, .int v18), (0, .ref (b + 986)), (1, .ref (b + o8)), (2, .int x9)]) hx hb dX6_take_49 hl (k := 3) rfl (by rw [ev18]; rfl) (by decide) rfl (fun ls hl => ?_)
    refine lv_goto (tgt := 30) hx hb dX6_take_52 (by decide) ?_
    exact ih M16 v18 H locs ls hf hm (lv_sub hl [1, 2, 3, 0] rfl)
set_option maxHeartbeats 4000000 in
set_option maxRecDepth 20000 in
theorem j_X6_take_92 {p : Program} {l : Launch} {e : Env} {s : State} {m : MethodId} {args : Array Value} {below : List Frame} {meth : Method} {c : Code} {Q : State → Prop} {E : xE} {b : Nat} (C : xC p s m args meth c cX6_take 7 RX6 none E) {o33 : Nat} (L_o33 : lat o33 pHeap) (x34 : Int32) (x35 : Int32) (x36 : Int32) (x37 : Int32) {y40 : xm}
    (kx0 : ∀ (H : Heap) (locs : List Loc) (ls : Array Slot), xM E b NX (cX E b y40) s.heap H locs → lv_has ls 7 [(0, .ref (b + 986)), (1, .ref (b + o33)), (2, .int x34), (3, .int x35)] → W p l e (xR 4) s m args below meth c H locs 0 0 Q (F0 m 128 ls [])) :
    ∀ (n : Nat) (M39 : xm) (x38 : Int32) (H : Heap) (locs : List Loc) (ls : Array Slot), g_X6_take_92 o33 x34 x35 x36 x37 n M39 x38 = some y40 → xM E b NX (cX E b M39) s.heap H locs → lv_has ls 7 [(0, .ref (b + 986)), (1, .ref (b + o33)), (2, .int x34), (3, .int x35), (4, .int x36), (5, .int x37), (6, .int x38)] → W p l e (xR 4) s m args below meth c H locs 0 0 Q (F0 m 92 ls []) := by
  have hx := C.1.1
  have hb := C.1.2.1
  intro n
  induction n with
  | zero =>
    intro M39 x38 H locs ls hf hm hl
    rw [g_X6_take_92] at hf
    cases hf
  | succ n ih =>
    intro M39 x38 H locs ls hf hm hl
    rw [g_X6_take_92] at hf
    refine lv_iload hx hb dX6_take_92 (lv_at hl 6 rfl) ?_
    refine lv_iload hx hb dX6_take_94 (lv_at hl 5 rfl) ?_
    refine lv_icmp_ge (tgt := 128) hx hb dX6_take_96 (by decide) (fun hc41 => ?_) (fun hc41 => ?_)
    · have hf := xif_t hc41 hf
      cases hf
      exact kx0 H locs ls hm (lv_sub hl [0, 1, 2, 3] rfl)
    have hf := xif_f hc41 hf
    refine lv_aload_n hx hb dX6_take_99 rfl (lv_at hl 0 rfl) ?_
    refine lv_aload_n hx hb dX6_take_100 rfl (lv_at hl 1 rfl) ?_
    refine lv_aload_n hx hb dX6_take_101 rfl (lv_at hl 1 rfl) ?_
    refine lv_iload hx hb dX6_take_102 (lv_at hl 4 rfl) ?_
    refine lv_iload hx hb dX6_take_104 (lv_at hl 6 rfl) ?_
    obtain ⟨v43, hq42, hf⟩ := xb1_e hf
    refine x_callVi (As := [.int x36, .int x38]) (rest := [.ref (b + o33), .ref (b + 986)]) C hm (c_X1_fieldOf l E b L_o33 M39 x36 x38 hq42) rfl (cx_Heap (L_o33 0 _ rfl)) tc_X1_fieldOf tm_RX6_54 ti_X1_fieldOf ts_X1_fieldOf tn_RX1 td_X1_fieldOf rfl rfl ⟨Nat.le_of_ble_eq_true rfl, Nat.le_of_ble_eq_true rfl⟩ rfl hl.1 rfl (Nat.le_of_ble_eq_true rfl) dX6_take_106 (fun H locs hP44 hm => ?_)
    refine lv_aload_n hx hb dX6_take_109 rfl (lv_at hl 0 rfl) ?_
    refine x_get C hm inX6 rfl 0 (by decide) tf_RX6_9 (cx_Survey (LX_survey 0 _ rfl)) rfl dX6_take_110 ?_
    refine lv_iload hx hb dX6_take_113 (lv_at hl 4 rfl) ?_
    obtain ⟨hi45, hf⟩ := xif_s hf
    refine x_iald (j := (Int32.toNatClampNeg x36)) C hm (cx_I (LX_survey 1 _ rfl)) hi45 dX6_take_115 rfl ?_
    refine lv_iconst (v := (1 : Int32)) hx hb dX6_take_116 (by decide) ?_
    refine lv_iadd hx hb dX6_take_117 ?_
    refine lv_iload_n hx hb dX6_take_118 rfl (lv_at hl 2 rfl) ?_
    obtain ⟨M47, hq46, hf⟩ := xb1_e hf
    refine x_callVv (As := [.ref (b + o33), .int v43, .int ((M39 (986 + 1) (Int32.toNatClampNeg x36)) + (1 : Int32)), .int x34]) (rest := []) C hm (c_X6_follow l E b L_o33 M39 v43 ((M39 (986 + 1) (Int32.toNatClampNeg x36)) + (1 : Int32)) x34 hq46) rfl (cx_Survey (LX_survey 0 _ rfl)) tc_X6_follow tm_RX6_46 ti_X6_follow ts_X6_follow tn_RX6 td_X6_follow rfl rfl ⟨Nat.le_of_ble_eq_true rfl, Nat.le_of_ble_eq_true rfl⟩ rfl hl.1 rfl (Nat.le_of_ble_eq_true rfl) dX6_take_119 (fun H locs hP48 hm => ?_)
    obtain ⟨v49, ev49, hf⟩ := xlet_x hf
    refine lv_iinc (v := v49) (lv' := [(6, .int v49), (0, .ref (b + 986)), (1, .ref (b + o33)), (2, .int x34), (3, .int x35), (4, .int x36), (5, .int x37)]) hx hb dX6_take_122 hl (k := 6) rfl (by rw [ev49]; rfl) (by decide) rfl (fun ls hl => ?_)
    refine lv_goto (tgt := 92) hx hb dX6_take_125 (by decide) ?_
    exact ih M47 v49 H locs ls hf hm (lv_sub hl [1, 2, 3, 4, 5, 6, 0] rfl)
set_option maxHeartbeats 4000000 in
set_option maxRecDepth 20000 in
theorem j_X6_take_57 {p : Program} {l : Launch} {e : Env} {s : State} {m : MethodId} {args : Array Value} {below : List Frame} {meth : Method} {c : Code} {Q : State → Prop} {E : xE} {b : Nat} (C : xC p s m args meth c cX6_take 7 RX6 none E) {o20 : Nat} (L_o20 : lat o20 pHeap) (x21 : Int32) {y24 : xm}
    (kx0 : ∀ (H : Heap) (locs : List Loc) (ls : Array Slot), xM E b NX (cX E b y24) s.heap H locs → lv_has ls 7 [] → W p l e (xR 4) s m args below meth c H locs 0 0 Q (F0 m 134 ls [])) :
    ∀ (n : Nat) (M23 : xm) (x22 : Int32) (H : Heap) (locs : List Loc) (ls : Array Slot), g_X6_take_57 o20 x21 n M23 x22 = some y24 → xM E b NX (cX E b M23) s.heap H locs → lv_has ls 7 [(0, .ref (b + 986)), (1, .ref (b + o20)), (2, .int x21), (3, .int x22)] → W p l e (xR 4) s m args below meth c H locs 0 0 Q (F0 m 57 ls []) := by
  have hx := C.1.1
  have hb := C.1.2.1
  intro n
  induction n with
  | zero =>
    intro M23 x22 H locs ls hf hm hl
    rw [g_X6_take_57] at hf
    cases hf
  | succ n ih =>
    intro M23 x22 H locs ls hf hm hl
    rw [g_X6_take_57] at hf
    refine lv_iload_n hx hb dX6_take_57 rfl (lv_at hl 3 rfl) ?_
    refine lv_aload_n hx hb dX6_take_58 rfl (lv_at hl 0 rfl) ?_
    refine x_get C hm inX6 rfl 3 (by decide) tf_RX6_27 (cx_Survey (LX_survey 0 _ rfl)) rfl dX6_take_59 ?_
    refine lv_icmp_ge (tgt := 134) hx hb dX6_take_62 (by decide) (fun hc25 => ?_) (fun hc25 => ?_)
    · have hf := xif_t hc25 hf
      cases hf
      exact kx0 H locs ls hm (lv_sub hl [] rfl)
    have hf := xif_f hc25 hf
    refine lv_iload_n hx hb dX6_take_65 rfl (lv_at hl 3 rfl) ?_
    refine lv_bipush (v := (64 : Int32)) hx hb dX6_take_66 (by decide) ?_
    refine lv_icmp_ge (tgt := 134) hx hb dX6_take_68 (by decide) (fun hc26 => ?_) (fun hc26 => ?_)
    · have hf := xif_t hc26 hf
      cases hf
      exact kx0 H locs ls hm (lv_sub hl [] rfl)
    have hf := xif_f hc26 hf
    refine lv_aload_n hx hb dX6_take_71 rfl (lv_at hl 0 rfl) ?_
    refine x_get C hm inX6 rfl 1 (by decide) tf_RX6_15 (cx_Survey (LX_survey 0 _ rfl)) rfl dX6_take_72 ?_
    refine lv_iload_n hx hb dX6_take_75 rfl (lv_at hl 3 rfl) ?_
    obtain ⟨hi27, hf⟩ := xif_s hf
    refine x_iald (j := (Int32.toNatClampNeg x22)) C hm (cx_I (LX_survey 2 _ rfl)) hi27 dX6_take_76 rfl ?_
    refine lv_topi (fun v28 ev28 => ?_)
    have hf := xlet_e ev28 hf
    refine lv_istore (lv' := [(4, .int v28), (0, .ref (b + 986)), (1, .ref (b + o20)), (2, .int x21), (3, .int x22)]) hx hb dX6_take_77 hl (by decide) rfl (fun ls hl => ?_)
    refine lv_aload_n hx hb dX6_take_79 rfl (lv_at hl 2 rfl) ?_
    refine lv_iload hx hb dX6_take_80 (lv_at hl 0 rfl) ?_
    obtain ⟨v30, hq29, hf⟩ := xb1_e hf
    refine x_callVi (As := [.int v28]) (rest := []) C hm (c_X1_sizeAt l E b L_o20 M23 v28 hq29) rfl (cx_Heap (L_o20 0 _ rfl)) tc_X1_sizeAt tm_RX6_50 ti_X1_sizeAt ts_X1_sizeAt tn_RX1 td_X1_sizeAt rfl rfl ⟨Nat.le_of_ble_eq_true rfl, Nat.le_of_ble_eq_true rfl⟩ rfl hl.1 rfl (Nat.le_of_ble_eq_true rfl) dX6_take_82 (fun H locs hP31 hm => ?_)
    refine lv_iconst (v := (1 : Int32)) hx hb dX6_take_85 (by decide) ?_
    refine lv_isub hx hb dX6_take_86 ?_
    refine lv_topi (fun v32 ev32 => ?_)
    have hf := xlet_e ev32 hf
    refine lv_istore (lv' := [(5, .int v32), (4, .int v28), (0, .ref (b + 986)), (1, .ref (b + o20)), (2, .int x21), (3, .int x22)]) hx hb dX6_take_87 hl (by decide) rfl (fun ls hl => ?_)
    refine lv_iconst (v := (0 : Int32)) hx hb dX6_take_89 (by decide) ?_
    refine lv_istore (lv' := [(6, .int (0 : Int32)), (5, .int v32), (4, .int v28), (0, .ref (b + 986)), (1, .ref (b + o20)), (2, .int x21), (3, .int x22)]) hx hb dX6_take_90 hl (by decide) rfl (fun ls hl => ?_)
    obtain ⟨M50, hq, hf⟩ := xb1_e hf
    refine j_X6_take_92 C L_o20 x21 x22 v28 v32 (fun H locs ls hm hl => ?_) xfuel M23 (0 : Int32) H locs ls hq hm (lv_sub hl [3, 4, 5, 6, 2, 1, 0] rfl)
    obtain ⟨v51, ev51, hf⟩ := xlet_x hf
    refine lv_iinc (v := v51) (lv' := [(3, .int v51), (0, .ref (b + 986)), (1, .ref (b + o20)), (2, .int x21)]) hx hb dX6_take_128 hl (k := 3) rfl (by rw [ev51]; rfl) (by decide) rfl (fun ls hl => ?_)
    refine lv_goto (tgt := 57) hx hb dX6_take_131 (by decide) ?_
    exact ih M50 v51 H locs ls hf hm (lv_sub hl [1, 2, 3, 0] rfl)
set_option maxHeartbeats 4000000 in
set_option maxRecDepth 20000 in
theorem c_X6_take (l : Launch) (E : xE) (b : Nat) {u1 : Nat} (L_u1 : lat u1 pHeap) (M : xm) (a2 : Int32) {M' : xm} (hf : f_X6_take u1 M a2 = some M') :
    xMet l E b NX yX6_take cX6_take 7 none (xR 4) [.ref (b + 986), .ref (b + u1), .int a2] (cX E b M) none True (cX E b M') := by
  refine xMet.ofW (own := RX6) (by decide) rfl (Nat.le_of_ble_eq_true rfl) ?_
  intro p e s m below meth c H locs ls C hm hl
  have hx := C.1.1
  have hb := C.1.2.1
  have hl : lv_has ls 7 [(0, .ref (b + 986)), (1, .ref (b + u1)), (2, .int a2)] := hl
  unfold f_X6_take at hf
  refine lv_aload_n hx hb dX6_take_0 rfl (lv_at hl 0 rfl) ?_
  refine x_get C hm inX6 rfl 0 (by decide) tf_RX6_9 (cx_Survey (LX_survey 0 _ rfl)) rfl dX6_take_1 ?_
  refine lv_iconst (v := (-1 : Int32)) hx hb dX6_take_4 (by decide) ?_
  obtain ⟨M2, hq1, hf⟩ := xb1_e hf
  refine x_callSv (As := [.ref (b + (986 + 1)), .int (-1 : Int32)]) (rest := []) C hm (c_J7_fill_53178 l E b (LX_survey 1 _ rfl) M (-1 : Int32) hq1) tc_J7_fill_53178 tm_RX6_21 tz_J7_fill_53178 tn_RJ7 td_J7_fill_53178 rfl rfl ⟨Nat.le_of_ble_eq_true rfl, Nat.le_of_ble_eq_true rfl⟩ rfl hl.1 rfl (Nat.le_of_ble_eq_true rfl) dX6_take_5 (fun H locs hP3 hm => ?_)
  refine lv_aload_n hx hb dX6_take_8 rfl (lv_at hl 0 rfl) ?_
  refine lv_iconst (v := (0 : Int32)) hx hb dX6_take_9 (by decide) ?_
  obtain ⟨M4, eM4, hf⟩ := xlet_x hf
  refine x_put (cf' := cX E b M4) C hm inX6 tyX6 tyX6_ok nmX6 rfl 3 (by decide) tf_RX6_27 rfl rfl rfl (cx_Survey (LX_survey 0 _ rfl)) (Nat.le_of_ble_eq_true rfl) (by rw [eM4]; exact cu_Survey_3 (LX_survey 0 _ rfl)) (by rw [eM4]; exact cX_o) dX6_take_10 (fun H locs hm => ?_)
  refine lv_aload_n hx hb dX6_take_13 rfl (lv_at hl 0 rfl) ?_
  refine lv_iconst (v := (0 : Int32)) hx hb dX6_take_14 (by decide) ?_
  obtain ⟨M5, eM5, hf⟩ := xlet_x hf
  refine x_put (cf' := cX E b M5) C hm inX6 tyX6 tyX6_ok nmX6 rfl 4 (by decide) tf_RX6_31 rfl rfl rfl (cx_Survey (LX_survey 0 _ rfl)) (Nat.le_of_ble_eq_true rfl) (by rw [eM5]; exact cu_Survey_4 (LX_survey 0 _ rfl)) (by rw [eM5]; exact cX_o) dX6_take_15 (fun H locs hm => ?_)
  refine lv_aload_n hx hb dX6_take_18 rfl (lv_at hl 0 rfl) ?_
  refine lv_iconst (v := (0 : Int32)) hx hb dX6_take_19 (by decide) ?_
  obtain ⟨M6, eM6, hf⟩ := xlet_x hf
  refine x_put (cf' := cX E b M6) C hm inX6 tyX6 tyX6_ok nmX6 rfl 5 (by decide) tf_RX6_34 rfl rfl rfl (cx_Survey (LX_survey 0 _ rfl)) (Nat.le_of_ble_eq_true rfl) (by rw [eM6]; exact cu_Survey_5 (LX_survey 0 _ rfl)) (by rw [eM6]; exact cX_o) dX6_take_20 (fun H locs hm => ?_)
  refine lv_aload_n hx hb dX6_take_23 rfl (lv_at hl 0 rfl) ?_
  refine lv_iconst (v := (1 : Int32)) hx hb dX6_take_24 (by decide) ?_
  obtain ⟨M7, eM7, hf⟩ := xlet_x hf
  refine x_put (cf' := cX E b M7) C hm inX6 tyX6 tyX6_ok nmX6 rfl 6 (by decide) tf_RX6_37 rfl (xbo_n (by decide)) rfl (cx_Survey (LX_survey 0 _ rfl)) (Nat.le_of_ble_eq_true rfl) (by rw [eM7]; exact cu_Survey_6 (LX_survey 0 _ rfl)) (by rw [eM7]; exact cX_o) dX6_take_25 (fun H locs hm => ?_)
  refine lv_iconst (v := (0 : Int32)) hx hb dX6_take_28 (by decide) ?_
  refine lv_istore_n (lv' := [(3, .int (0 : Int32)), (0, .ref (b + 986)), (1, .ref (b + u1)), (2, .int a2)]) hx hb dX6_take_29 rfl hl (by decide) rfl (fun ls hl => ?_)
  obtain ⟨M19, hq, hf⟩ := xb1_e hf
  refine j_X6_take_30 C L_u1 a2 (fun H locs ls hm hl => ?_) xfuel M7 (0 : Int32) H locs ls hq hm (lv_sub hl [1, 2, 3, 0] rfl)
  refine lv_iconst (v := (0 : Int32)) hx hb dX6_take_55 (by decide) ?_
  refine lv_istore_n (lv' := [(3, .int (0 : Int32)), (0, .ref (b + 986)), (1, .ref (b + u1)), (2, .int a2)]) hx hb dX6_take_56 rfl hl (by decide) rfl (fun ls hl => ?_)
  obtain ⟨M52, hq, hf⟩ := xb1_e hf
  refine j_X6_take_57 C L_u1 a2 (fun H locs ls hm hl => ?_) xfuel M19 (0 : Int32) H locs ls hq hm (lv_sub hl [1, 2, 3, 0] rfl)
  cases hf
  exact x_vret C hm trivial dX6_take_134
/-! ColouredHeap$Text.takeOver(LColouredHeap$Text;)V -/
theorem dX7_takeOver_0 : decode cX7_takeOver 0 = .ok (.aload_n 1, 1) := by decide +kernel
theorem dX7_takeOver_1 : decode cX7_takeOver 1 = .ok (.getfield 9, 3) := by decide +kernel
theorem dX7_takeOver_4 : decode cX7_takeOver 4 = .ok (.iconst 0, 1) := by decide +kernel
theorem dX7_takeOver_5 : decode cX7_takeOver 5 = .ok (.aload_n 0, 1) := by decide +kernel
theorem dX7_takeOver_6 : decode cX7_takeOver 6 = .ok (.getfield 9, 3) := by decide +kernel
theorem dX7_takeOver_9 : decode cX7_takeOver 9 = .ok (.iconst 0, 1) := by decide +kernel
theorem dX7_takeOver_10 : decode cX7_takeOver 10 = .ok (.bipush 24, 2) := by decide +kernel
theorem dX7_takeOver_12 : decode cX7_takeOver 12 = .ok (.invokestatic 43, 3) := by decide +kernel
theorem dX7_takeOver_15 : decode cX7_takeOver 15 = .ok (.aload_n 1, 1) := by decide +kernel
theorem dX7_takeOver_16 : decode cX7_takeOver 16 = .ok (.getfield 15, 3) := by decide +kernel
theorem dX7_takeOver_19 : decode cX7_takeOver 19 = .ok (.iconst 0, 1) := by decide +kernel
theorem dX7_takeOver_20 : decode cX7_takeOver 20 = .ok (.aload_n 0, 1) := by decide +kernel
theorem dX7_takeOver_21 : decode cX7_takeOver 21 = .ok (.getfield 15, 3) := by decide +kernel
theorem dX7_takeOver_24 : decode cX7_takeOver 24 = .ok (.iconst 0, 1) := by decide +kernel
theorem dX7_takeOver_25 : decode cX7_takeOver 25 = .ok (.bipush 24, 2) := by decide +kernel
theorem dX7_takeOver_27 : decode cX7_takeOver 27 = .ok (.invokestatic 43, 3) := by decide +kernel
theorem dX7_takeOver_30 : decode cX7_takeOver 30 = .ok (.aload_n 1, 1) := by decide +kernel
theorem dX7_takeOver_31 : decode cX7_takeOver 31 = .ok (.getfield 18, 3) := by decide +kernel
theorem dX7_takeOver_34 : decode cX7_takeOver 34 = .ok (.iconst 0, 1) := by decide +kernel
theorem dX7_takeOver_35 : decode cX7_takeOver 35 = .ok (.aload_n 0, 1) := by decide +kernel
theorem dX7_takeOver_36 : decode cX7_takeOver 36 = .ok (.getfield 18, 3) := by decide +kernel
theorem dX7_takeOver_39 : decode cX7_takeOver 39 = .ok (.iconst 0, 1) := by decide +kernel
theorem dX7_takeOver_40 : decode cX7_takeOver 40 = .ok (.bipush 24, 2) := by decide +kernel
theorem dX7_takeOver_42 : decode cX7_takeOver 42 = .ok (.invokestatic 43, 3) := by decide +kernel
theorem dX7_takeOver_45 : decode cX7_takeOver 45 = .ok (.aload_n 1, 1) := by decide +kernel
theorem dX7_takeOver_46 : decode cX7_takeOver 46 = .ok (.getfield 21, 3) := by decide +kernel
theorem dX7_takeOver_49 : decode cX7_takeOver 49 = .ok (.iconst 0, 1) := by decide +kernel
theorem dX7_takeOver_50 : decode cX7_takeOver 50 = .ok (.aload_n 0, 1) := by decide +kernel
theorem dX7_takeOver_51 : decode cX7_takeOver 51 = .ok (.getfield 21, 3) := by decide +kernel
theorem dX7_takeOver_54 : decode cX7_takeOver 54 = .ok (.iconst 0, 1) := by decide +kernel
theorem dX7_takeOver_55 : decode cX7_takeOver 55 = .ok (.bipush 24, 2) := by decide +kernel
theorem dX7_takeOver_57 : decode cX7_takeOver 57 = .ok (.invokestatic 43, 3) := by decide +kernel
theorem dX7_takeOver_60 : decode cX7_takeOver 60 = .ok (.aload_n 1, 1) := by decide +kernel
theorem dX7_takeOver_61 : decode cX7_takeOver 61 = .ok (.getfield 24, 3) := by decide +kernel
theorem dX7_takeOver_64 : decode cX7_takeOver 64 = .ok (.iconst 0, 1) := by decide +kernel
theorem dX7_takeOver_65 : decode cX7_takeOver 65 = .ok (.aload_n 0, 1) := by decide +kernel
theorem dX7_takeOver_66 : decode cX7_takeOver 66 = .ok (.getfield 24, 3) := by decide +kernel
theorem dX7_takeOver_69 : decode cX7_takeOver 69 = .ok (.iconst 0, 1) := by decide +kernel
theorem dX7_takeOver_70 : decode cX7_takeOver 70 = .ok (.sipush 300, 3) := by decide +kernel
theorem dX7_takeOver_73 : decode cX7_takeOver 73 = .ok (.invokestatic 43, 3) := by decide +kernel
theorem dX7_takeOver_76 : decode cX7_takeOver 76 = .ok (.aload_n 1, 1) := by decide +kernel
theorem dX7_takeOver_77 : decode cX7_takeOver 77 = .ok (.getfield 27, 3) := by decide +kernel
theorem dX7_takeOver_80 : decode cX7_takeOver 80 = .ok (.iconst 0, 1) := by decide +kernel
theorem dX7_takeOver_81 : decode cX7_takeOver 81 = .ok (.aload_n 0, 1) := by decide +kernel
theorem dX7_takeOver_82 : decode cX7_takeOver 82 = .ok (.getfield 27, 3) := by decide +kernel
theorem dX7_takeOver_85 : decode cX7_takeOver 85 = .ok (.iconst 0, 1) := by decide +kernel
theorem dX7_takeOver_86 : decode cX7_takeOver 86 = .ok (.sipush 300, 3) := by decide +kernel
theorem dX7_takeOver_89 : decode cX7_takeOver 89 = .ok (.invokestatic 43, 3) := by decide +kernel
theorem dX7_takeOver_92 : decode cX7_takeOver 92 = .ok (.aload_n 1, 1) := by decide +kernel
theorem dX7_takeOver_93 : decode cX7_takeOver 93 = .ok (.getfield 30, 3) := by decide +kernel
theorem dX7_takeOver_96 : decode cX7_takeOver 96 = .ok (.iconst 0, 1) := by decide +kernel
theorem dX7_takeOver_97 : decode cX7_takeOver 97 = .ok (.aload_n 0, 1) := by decide +kernel
theorem dX7_takeOver_98 : decode cX7_takeOver 98 = .ok (.getfield 30, 3) := by decide +kernel
theorem dX7_takeOver_101 : decode cX7_takeOver 101 = .ok (.iconst 0, 1) := by decide +kernel
theorem dX7_takeOver_102 : decode cX7_takeOver 102 = .ok (.iconst 2, 1) := by decide +kernel
theorem dX7_takeOver_103 : decode cX7_takeOver 103 = .ok (.invokestatic 43, 3) := by decide +kernel
theorem dX7_takeOver_106 : decode cX7_takeOver 106 = .ok (.aload_n 1, 1) := by decide +kernel
theorem dX7_takeOver_107 : decode cX7_takeOver 107 = .ok (.getfield 33, 3) := by decide +kernel
theorem dX7_takeOver_110 : decode cX7_takeOver 110 = .ok (.iconst 0, 1) := by decide +kernel
theorem dX7_takeOver_111 : decode cX7_takeOver 111 = .ok (.aload_n 0, 1) := by decide +kernel
theorem dX7_takeOver_112 : decode cX7_takeOver 112 = .ok (.getfield 33, 3) := by decide +kernel
theorem dX7_takeOver_115 : decode cX7_takeOver 115 = .ok (.iconst 0, 1) := by decide +kernel
theorem dX7_takeOver_116 : decode cX7_takeOver 116 = .ok (.iconst 2, 1) := by decide +kernel
theorem dX7_takeOver_117 : decode cX7_takeOver 117 = .ok (.invokestatic 43, 3) := by decide +kernel
theorem dX7_takeOver_120 : decode cX7_takeOver 120 = .ok (.aload_n 0, 1) := by decide +kernel
theorem dX7_takeOver_121 : decode cX7_takeOver 121 = .ok (.aload_n 1, 1) := by decide +kernel
theorem dX7_takeOver_122 : decode cX7_takeOver 122 = .ok (.getfield 36, 3) := by decide +kernel
theorem dX7_takeOver_125 : decode cX7_takeOver 125 = .ok (.putfield 36, 3) := by decide +kernel
theorem dX7_takeOver_128 : decode cX7_takeOver 128 = .ok (.aload_n 0, 1) := by decide +kernel
theorem dX7_takeOver_129 : decode cX7_takeOver 129 = .ok (.aload_n 1, 1) := by decide +kernel
theorem dX7_takeOver_130 : decode cX7_takeOver 130 = .ok (.getfield 40, 3) := by decide +kernel
theorem dX7_takeOver_133 : decode cX7_takeOver 133 = .ok (.putfield 40, 3) := by decide +kernel
theorem dX7_takeOver_136 : decode cX7_takeOver 136 = .ok (.return_, 1) := by decide +kernel
def f_X7_takeOver (u0 : Nat) (u1 : Nat) (M : xm) : Option (xm) := xlet (xcopy M (u1 + 1) (u0 + 1) 24) (fun M1 => xlet (xcopy M1 (u1 + 2) (u0 + 2) 24) (fun M2 => xlet (xcopy M2 (u1 + 3) (u0 + 3) 24) (fun M3 => xlet (xcopy M3 (u1 + 4) (u0 + 4) 24) (fun M4 => xlet (xcopy M4 (u1 + 5) (u0 + 5) 300) (fun M5 => xlet (xcopy M5 (u1 + 6) (u0 + 6) 300) (fun M6 => xlet (xcopy M6 (u1 + 7) (u0 + 7) 2) (fun M7 => xlet (xcopy M7 (u1 + 8) (u0 + 8) 2) (fun M8 => xlet (up2 M8 u0 8 (M8 u1 8)) (fun M9 => xlet (up2 M9 u0 9 (M9 u1 9)) (fun M10 => some M10))))))))))
set_option maxHeartbeats 4000000 in
set_option maxRecDepth 20000 in
theorem c_X7_takeOver (l : Launch) (E : xE) (b : Nat) {u0 : Nat} (L_u0 : lat u0 pText) {u1 : Nat} (L_u1 : lat u1 pText) (M : xm) {M' : xm} (hf : f_X7_takeOver u0 u1 M = some M') :
    xMet l E b NX yX7_takeOver cX7_takeOver 2 none (xR 2) [.ref (b + u0), .ref (b + u1)] (cX E b M) none True (cX E b M') := by
  refine xMet.ofW (own := RX7) (by decide) rfl (Nat.le_of_ble_eq_true rfl) ?_
  intro p e s m below meth c H locs ls C hm hl
  have hx := C.1.1
  have hb := C.1.2.1
  have hl : lv_has ls 2 [(0, .ref (b + u0)), (1, .ref (b + u1))] := hl
  unfold f_X7_takeOver at hf
  refine lv_aload_n hx hb dX7_takeOver_0 rfl (lv_at hl 1 rfl) ?_
  refine x_get C hm inX7 rfl 0 (by decide) tf_RX7_9 (cx_Text (L_u1 0 _ rfl)) rfl dX7_takeOver_1 ?_
  refine lv_iconst (v := (0 : Int32)) hx hb dX7_takeOver_4 (by decide) ?_
  refine lv_aload_n hx hb dX7_takeOver_5 rfl (lv_at hl 0 rfl) ?_
  refine x_get C hm inX7 rfl 0 (by decide) tf_RX7_9 (cx_Text (L_u0 0 _ rfl)) rfl dX7_takeOver_6 ?_
  refine lv_iconst (v := (0 : Int32)) hx hb dX7_takeOver_9 (by decide) ?_
  refine lv_bipush (v := (24 : Int32)) hx hb dX7_takeOver_10 (by decide) ?_
  obtain ⟨M1, eM1, hf⟩ := xlet_x hf
  refine x_copy (cf' := cX E b M1) C hm hl.1 (C.1.2.2.2.2 _ tm_RX7_43) (C.1.2.2.2.2 _ tv_arraycopy) (C.1.2.2.2.2 _ tz_arraycopy) (C.1.2.2.2.2 _ tn_System) (cx_I (L_u1 1 _ rfl)) (cx_I (L_u0 1 _ rfl)) (n := (24 : Int32)) (by decide) rfl (by decide) (by decide) (Nat.le_of_ble_eq_true rfl) (Nat.le_of_ble_eq_true rfl) dX7_takeOver_12 (by rw [eM1]; exact cc_I (L_u0 1 _ rfl)) (by rw [eM1]; exact cc_o) (fun H locs hm => ?_)
  refine lv_aload_n hx hb dX7_takeOver_15 rfl (lv_at hl 1 rfl) ?_
  refine x_get C hm inX7 rfl 1 (by decide) tf_RX7_15 (cx_Text (L_u1 0 _ rfl)) rfl dX7_takeOver_16 ?_
  refine lv_iconst (v := (0 : Int32)) hx hb dX7_takeOver_19 (by decide) ?_
  refine lv_aload_n hx hb dX7_takeOver_20 rfl (lv_at hl 0 rfl) ?_
  refine x_get C hm inX7 rfl 1 (by decide) tf_RX7_15 (cx_Text (L_u0 0 _ rfl)) rfl dX7_takeOver_21 ?_
  refine lv_iconst (v := (0 : Int32)) hx hb dX7_takeOver_24 (by decide) ?_
  refine lv_bipush (v := (24 : Int32)) hx hb dX7_takeOver_25 (by decide) ?_
  obtain ⟨M2, eM2, hf⟩ := xlet_x hf
  refine x_copy (cf' := cX E b M2) C hm hl.1 (C.1.2.2.2.2 _ tm_RX7_43) (C.1.2.2.2.2 _ tv_arraycopy) (C.1.2.2.2.2 _ tz_arraycopy) (C.1.2.2.2.2 _ tn_System) (cx_I (L_u1 2 _ rfl)) (cx_I (L_u0 2 _ rfl)) (n := (24 : Int32)) (by decide) rfl (by decide) (by decide) (Nat.le_of_ble_eq_true rfl) (Nat.le_of_ble_eq_true rfl) dX7_takeOver_27 (by rw [eM2]; exact cc_I (L_u0 2 _ rfl)) (by rw [eM2]; exact cc_o) (fun H locs hm => ?_)
  refine lv_aload_n hx hb dX7_takeOver_30 rfl (lv_at hl 1 rfl) ?_
  refine x_get C hm inX7 rfl 2 (by decide) tf_RX7_18 (cx_Text (L_u1 0 _ rfl)) rfl dX7_takeOver_31 ?_
  refine lv_iconst (v := (0 : Int32)) hx hb dX7_takeOver_34 (by decide) ?_
  refine lv_aload_n hx hb dX7_takeOver_35 rfl (lv_at hl 0 rfl) ?_
  refine x_get C hm inX7 rfl 2 (by decide) tf_RX7_18 (cx_Text (L_u0 0 _ rfl)) rfl dX7_takeOver_36 ?_
  refine lv_iconst (v := (0 : Int32)) hx hb dX7_takeOver_39 (by decide) ?_
  refine lv_bipush (v := (24 : Int32)) hx hb dX7_takeOver_40 (by decide) ?_
  obtain ⟨M3, eM3, hf⟩ := xlet_x hf
  refine x_copy (cf' := cX E b M3) C hm hl.1 (C.1.2.2.2.2 _ tm_RX7_43) (C.1.2.2.2.2 _ tv_arraycopy) (C.1.2.2.2.2 _ tz_arraycopy) (C.1.2.2.2.2 _ tn_System) (cx_I (L_u1 3 _ rfl)) (cx_I (L_u0 3 _ rfl)) (n := (24 : Int32)) (by decide) rfl (by decide) (by decide) (Nat.le_of_ble_eq_true rfl) (Nat.le_of_ble_eq_true rfl) dX7_takeOver_42 (by rw [eM3]; exact cc_I (L_u0 3 _ rfl)) (by rw [eM3]; exact cc_o) (fun H locs hm => ?_)
  refine lv_aload_n hx hb dX7_takeOver_45 rfl (lv_at hl 1 rfl) ?_
  refine x_get C hm inX7 rfl 3 (by decide) tf_RX7_21 (cx_Text (L_u1 0 _ rfl)) rfl dX7_takeOver_46 ?_
  refine lv_iconst (v := (0 : Int32)) hx hb dX7_takeOver_49 (by decide) ?_
  refine lv_aload_n hx hb dX7_takeOver_50 rfl (lv_at hl 0 rfl) ?_
  refine x_get C hm inX7 rfl 3 (by decide) tf_RX7_21 (cx_Text (L_u0 0 _ rfl)) rfl dX7_takeOver_51 ?_
  refine lv_iconst (v := (0 : Int32)) hx hb dX7_takeOver_54 (by decide) ?_
  refine lv_bipush (v := (24 : Int32)) hx hb dX7_takeOver_55 (by decide) ?_
  obtain ⟨M4, eM4, hf⟩ := xlet_x hf
  refine x_copy (cf' := cX E b M4) C hm hl.1 (C.1.2.2.2.2 _ tm_RX7_43) (C.1.2.2.2.2 _ tv_arraycopy) (C.1.2.2.2.2 _ tz_arraycopy) (C.1.2.2.2.2 _ tn_System) (cx_I (L_u1 4 _ rfl)) (cx_I (L_u0 4 _ rfl)) (n := (24 : Int32)) (by decide) rfl (by decide) (by decide) (Nat.le_of_ble_eq_true rfl) (Nat.le_of_ble_eq_true rfl) dX7_takeOver_57 (by rw [eM4]; exact cc_I (L_u0 4 _ rfl)) (by rw [eM4]; exact cc_o) (fun H locs hm => ?_)
  refine lv_aload_n hx hb dX7_takeOver_60 rfl (lv_at hl 1 rfl) ?_
  refine x_get C hm inX7 rfl 4 (by decide) tf_RX7_24 (cx_Text (L_u1 0 _ rfl)) rfl dX7_takeOver_61 ?_
  refine lv_iconst (v := (0 : Int32)) hx hb dX7_takeOver_64 (by decide) ?_
  refine lv_aload_n hx hb dX7_takeOver_65 rfl (lv_at hl 0 rfl) ?_
  refine x_get C hm inX7 rfl 4 (by decide) tf_RX7_24 (cx_Text (L_u0 0 _ rfl)) rfl dX7_takeOver_66 ?_
  refine lv_iconst (v := (0 : Int32)) hx hb dX7_takeOver_69 (by decide) ?_
  refine lv_sipush (v := (300 : Int32)) hx hb dX7_takeOver_70 (by decide) ?_
  obtain ⟨M5, eM5, hf⟩ := xlet_x hf
  refine x_copy (cf' := cX E b M5) C hm hl.1 (C.1.2.2.2.2 _ tm_RX7_43) (C.1.2.2.2.2 _ tv_arraycopy) (C.1.2.2.2.2 _ tz_arraycopy) (C.1.2.2.2.2 _ tn_System) (cx_I (L_u1 5 _ rfl)) (cx_I (L_u0 5 _ rfl)) (n := (300 : Int32)) (by decide) rfl (by decide) (by decide) (Nat.le_of_ble_eq_true rfl) (Nat.le_of_ble_eq_true rfl) dX7_takeOver_73 (by rw [eM5]; exact cc_I (L_u0 5 _ rfl)) (by rw [eM5]; exact cc_o) (fun H locs hm => ?_)
  refine lv_aload_n hx hb dX7_takeOver_76 rfl (lv_at hl 1 rfl) ?_
  refine x_get C hm inX7 rfl 5 (by decide) tf_RX7_27 (cx_Text (L_u1 0 _ rfl)) rfl dX7_takeOver_77 ?_
  refine lv_iconst (v := (0 : Int32)) hx hb dX7_takeOver_80 (by decide) ?_
  refine lv_aload_n hx hb dX7_takeOver_81 rfl (lv_at hl 0 rfl) ?_
  refine x_get C hm inX7 rfl 5 (by decide) tf_RX7_27 (cx_Text (L_u0 0 _ rfl)) rfl dX7_takeOver_82 ?_
  refine lv_iconst (v := (0 : Int32)) hx hb dX7_takeOver_85 (by decide) ?_
  refine lv_sipush (v := (300 : Int32)) hx hb dX7_takeOver_86 (by decide) ?_
  obtain ⟨M6, eM6, hf⟩ := xlet_x hf
  refine x_copy (cf' := cX E b M6) C hm hl.1 (C.1.2.2.2.2 _ tm_RX7_43) (C.1.2.2.2.2 _ tv_arraycopy) (C.1.2.2.2.2 _ tz_arraycopy) (C.1.2.2.2.2 _ tn_System) (cx_I (L_u1 6 _ rfl)) (cx_I (L_u0 6 _ rfl)) (n := (300 : Int32)) (by decide) rfl (by decide) (by decide) (Nat.le_of_ble_eq_true rfl) (Nat.le_of_ble_eq_true rfl) dX7_takeOver_89 (by rw [eM6]; exact cc_I (L_u0 6 _ rfl)) (by rw [eM6]; exact cc_o) (fun H locs hm => ?_)
  refine lv_aload_n hx hb dX7_takeOver_92 rfl (lv_at hl 1 rfl) ?_
  refine x_get C hm inX7 rfl 6 (by decide) tf_RX7_30 (cx_Text (L_u1 0 _ rfl)) rfl dX7_takeOver_93 ?_
  refine lv_iconst (v := (0 : Int32)) hx hb dX7_takeOver_96 (by decide) ?_
  refine lv_aload_n hx hb dX7_takeOver_97 rfl (lv_at hl 0 rfl) ?_
  refine x_get C hm inX7 rfl 6 (by decide) tf_RX7_30 (cx_Text (L_u0 0 _ rfl)) rfl dX7_takeOver_98 ?_
  refine lv_iconst (v := (0 : Int32)) hx hb dX7_takeOver_101 (by decide) ?_
  refine lv_iconst (v := (2 : Int32)) hx hb dX7_takeOver_102 (by decide) ?_
  obtain ⟨M7, eM7, hf⟩ := xlet_x hf
  refine x_copy (cf' := cX E b M7) C hm hl.1 (C.1.2.2.2.2 _ tm_RX7_43) (C.1.2.2.2.2 _ tv_arraycopy) (C.1.2.2.2.2 _ tz_arraycopy) (C.1.2.2.2.2 _ tn_System) (cx_I (L_u1 7 _ rfl)) (cx_I (L_u0 7 _ rfl)) (n := (2 : Int32)) (by decide) rfl (by decide) (by decide) (Nat.le_of_ble_eq_true rfl) (Nat.le_of_ble_eq_true rfl) dX7_takeOver_103 (by rw [eM7]; exact cc_I (L_u0 7 _ rfl)) (by rw [eM7]; exact cc_o) (fun H locs hm => ?_)
  refine lv_aload_n hx hb dX7_takeOver_106 rfl (lv_at hl 1 rfl) ?_
  refine x_get C hm inX7 rfl 7 (by decide) tf_RX7_33 (cx_Text (L_u1 0 _ rfl)) rfl dX7_takeOver_107 ?_
  refine lv_iconst (v := (0 : Int32)) hx hb dX7_takeOver_110 (by decide) ?_
  refine lv_aload_n hx hb dX7_takeOver_111 rfl (lv_at hl 0 rfl) ?_
  refine x_get C hm inX7 rfl 7 (by decide) tf_RX7_33 (cx_Text (L_u0 0 _ rfl)) rfl dX7_takeOver_112 ?_
  refine lv_iconst (v := (0 : Int32)) hx hb dX7_takeOver_115 (by decide) ?_
  refine lv_iconst (v := (2 : Int32)) hx hb dX7_takeOver_116 (by decide) ?_
  obtain ⟨M8, eM8, hf⟩ := xlet_x hf
  refine x_copy (cf' := cX E b M8) C hm hl.1 (C.1.2.2.2.2 _ tm_RX7_43) (C.1.2.2.2.2 _ tv_arraycopy) (C.1.2.2.2.2 _ tz_arraycopy) (C.1.2.2.2.2 _ tn_System) (cx_I (L_u1 8 _ rfl)) (cx_I (L_u0 8 _ rfl)) (n := (2 : Int32)) (by decide) rfl (by decide) (by decide) (Nat.le_of_ble_eq_true rfl) (Nat.le_of_ble_eq_true rfl) dX7_takeOver_117 (by rw [eM8]; exact cc_I (L_u0 8 _ rfl)) (by rw [eM8]; exact cc_o) (fun H locs hm => ?_)
  refine lv_aload_n hx hb dX7_takeOver_120 rfl (lv_at hl 0 rfl) ?_
  refine lv_aload_n hx hb dX7_takeOver_121 rfl (lv_at hl 1 rfl) ?_
  refine x_get C hm inX7 rfl 8 (by decide) tf_RX7_36 (cx_Text (L_u1 0 _ rfl)) rfl dX7_takeOver_122 ?_
  obtain ⟨M9, eM9, hf⟩ := xlet_x hf
  refine x_put (cf' := cX E b M9) C hm inX7 tyX7 tyX7_ok nmX7 rfl 8 (by decide) tf_RX7_36 rfl rfl rfl (cx_Text (L_u0 0 _ rfl)) (Nat.le_of_ble_eq_true rfl) (by rw [eM9]; exact cu_Text_8 (L_u0 0 _ rfl)) (by rw [eM9]; exact cX_o) dX7_takeOver_125 (fun H locs hm => ?_)
  refine lv_aload_n hx hb dX7_takeOver_128 rfl (lv_at hl 0 rfl) ?_
  refine lv_aload_n hx hb dX7_takeOver_129 rfl (lv_at hl 1 rfl) ?_
  refine x_get C hm inX7 rfl 9 (by decide) tf_RX7_40 (cx_Text (L_u1 0 _ rfl)) rfl dX7_takeOver_130 ?_
  obtain ⟨M10, eM10, hf⟩ := xlet_x hf
  refine x_put (cf' := cX E b M10) C hm inX7 tyX7 tyX7_ok nmX7 rfl 9 (by decide) tf_RX7_40 rfl rfl rfl (cx_Text (L_u0 0 _ rfl)) (Nat.le_of_ble_eq_true rfl) (by rw [eM10]; exact cu_Text_9 (L_u0 0 _ rfl)) (by rw [eM10]; exact cX_o) dX7_takeOver_133 (fun H locs hm => ?_)
  cases hf
  exact x_vret C hm trivial dX7_takeOver_136
/-! ColouredHeap$Told.takeOver(LColouredHeap$Told;)V -/
theorem dX8_takeOver_0 : decode cX8_takeOver 0 = .ok (.aload_n 1, 1) := by decide +kernel
theorem dX8_takeOver_1 : decode cX8_takeOver 1 = .ok (.getfield 9, 3) := by decide +kernel
theorem dX8_takeOver_4 : decode cX8_takeOver 4 = .ok (.iconst 0, 1) := by decide +kernel
theorem dX8_takeOver_5 : decode cX8_takeOver 5 = .ok (.aload_n 0, 1) := by decide +kernel
theorem dX8_takeOver_6 : decode cX8_takeOver 6 = .ok (.getfield 9, 3) := by decide +kernel
theorem dX8_takeOver_9 : decode cX8_takeOver 9 = .ok (.iconst 0, 1) := by decide +kernel
theorem dX8_takeOver_10 : decode cX8_takeOver 10 = .ok (.bipush 8, 2) := by decide +kernel
theorem dX8_takeOver_12 : decode cX8_takeOver 12 = .ok (.invokestatic 28, 3) := by decide +kernel
theorem dX8_takeOver_15 : decode cX8_takeOver 15 = .ok (.aload_n 1, 1) := by decide +kernel
theorem dX8_takeOver_16 : decode cX8_takeOver 16 = .ok (.getfield 15, 3) := by decide +kernel
theorem dX8_takeOver_19 : decode cX8_takeOver 19 = .ok (.iconst 0, 1) := by decide +kernel
theorem dX8_takeOver_20 : decode cX8_takeOver 20 = .ok (.aload_n 0, 1) := by decide +kernel
theorem dX8_takeOver_21 : decode cX8_takeOver 21 = .ok (.getfield 15, 3) := by decide +kernel
theorem dX8_takeOver_24 : decode cX8_takeOver 24 = .ok (.iconst 0, 1) := by decide +kernel
theorem dX8_takeOver_25 : decode cX8_takeOver 25 = .ok (.bipush 8, 2) := by decide +kernel
theorem dX8_takeOver_27 : decode cX8_takeOver 27 = .ok (.invokestatic 28, 3) := by decide +kernel
theorem dX8_takeOver_30 : decode cX8_takeOver 30 = .ok (.aload_n 0, 1) := by decide +kernel
theorem dX8_takeOver_31 : decode cX8_takeOver 31 = .ok (.aload_n 1, 1) := by decide +kernel
theorem dX8_takeOver_32 : decode cX8_takeOver 32 = .ok (.getfield 18, 3) := by decide +kernel
theorem dX8_takeOver_35 : decode cX8_takeOver 35 = .ok (.putfield 18, 3) := by decide +kernel
theorem dX8_takeOver_38 : decode cX8_takeOver 38 = .ok (.aload_n 0, 1) := by decide +kernel
theorem dX8_takeOver_39 : decode cX8_takeOver 39 = .ok (.aload_n 1, 1) := by decide +kernel
theorem dX8_takeOver_40 : decode cX8_takeOver 40 = .ok (.getfield 22, 3) := by decide +kernel
theorem dX8_takeOver_43 : decode cX8_takeOver 43 = .ok (.putfield 22, 3) := by decide +kernel
theorem dX8_takeOver_46 : decode cX8_takeOver 46 = .ok (.aload_n 0, 1) := by decide +kernel
theorem dX8_takeOver_47 : decode cX8_takeOver 47 = .ok (.aload_n 1, 1) := by decide +kernel
theorem dX8_takeOver_48 : decode cX8_takeOver 48 = .ok (.getfield 25, 3) := by decide +kernel
theorem dX8_takeOver_51 : decode cX8_takeOver 51 = .ok (.putfield 25, 3) := by decide +kernel
theorem dX8_takeOver_54 : decode cX8_takeOver 54 = .ok (.return_, 1) := by decide +kernel
def f_X8_takeOver (u0 : Nat) (u1 : Nat) (M : xm) : Option (xm) := xlet (xcopy M (u1 + 1) (u0 + 1) 8) (fun M1 => xlet (xcopy M1 (u1 + 2) (u0 + 2) 8) (fun M2 => xlet (up2 M2 u0 2 (M2 u1 2)) (fun M3 => xlet (up2 M3 u0 3 (M3 u1 3)) (fun M4 => xlet (up2 M4 u0 4 (M4 u1 4)) (fun M5 => some M5)))))
set_option maxHeartbeats 4000000 in
set_option maxRecDepth 20000 in
theorem c_X8_takeOver (l : Launch) (E : xE) (b : Nat) {u0 : Nat} (L_u0 : lat u0 pTold) {u1 : Nat} (L_u1 : lat u1 pTold) (M : xm) {M' : xm} (hf : f_X8_takeOver u0 u1 M = some M') :
    xMet l E b NX yX8_takeOver cX8_takeOver 2 none (xR 2) [.ref (b + u0), .ref (b + u1)] (cX E b M) none True (cX E b M') := by
  refine xMet.ofW (own := RX8) (by decide) rfl (Nat.le_of_ble_eq_true rfl) ?_
  intro p e s m below meth c H locs ls C hm hl
  have hx := C.1.1
  have hb := C.1.2.1
  have hl : lv_has ls 2 [(0, .ref (b + u0)), (1, .ref (b + u1))] := hl
  unfold f_X8_takeOver at hf
  refine lv_aload_n hx hb dX8_takeOver_0 rfl (lv_at hl 1 rfl) ?_
  refine x_get C hm inX8 rfl 0 (by decide) tf_RX8_9 (cx_Told (L_u1 0 _ rfl)) rfl dX8_takeOver_1 ?_
  refine lv_iconst (v := (0 : Int32)) hx hb dX8_takeOver_4 (by decide) ?_
  refine lv_aload_n hx hb dX8_takeOver_5 rfl (lv_at hl 0 rfl) ?_
  refine x_get C hm inX8 rfl 0 (by decide) tf_RX8_9 (cx_Told (L_u0 0 _ rfl)) rfl dX8_takeOver_6 ?_
  refine lv_iconst (v := (0 : Int32)) hx hb dX8_takeOver_9 (by decide) ?_
  refine lv_bipush (v := (8 : Int32)) hx hb dX8_takeOver_10 (by decide) ?_
  obtain ⟨M1, eM1, hf⟩ := xlet_x hf
  refine x_copy (cf' := cX E b M1) C hm hl.1 (C.1.2.2.2.2 _ tm_RX8_28) (C.1.2.2.2.2 _ tv_arraycopy) (C.1.2.2.2.2 _ tz_arraycopy) (C.1.2.2.2.2 _ tn_System) (cx_I (L_u1 1 _ rfl)) (cx_I (L_u0 1 _ rfl)) (n := (8 : Int32)) (by decide) rfl (by decide) (by decide) (Nat.le_of_ble_eq_true rfl) (Nat.le_of_ble_eq_true rfl) dX8_takeOver_12 (by rw [eM1]; exact cc_I (L_u0 1 _ rfl)) (by rw [eM1]; exact cc_o) (fun H locs hm => ?_)
  refine lv_aload_n hx hb dX8_takeOver_15 rfl (lv_at hl 1 rfl) ?_
  refine x_get C hm inX8 rfl 1 (by decide) tf_RX8_15 (cx_Told (L_u1 0 _ rfl)) rfl dX8_takeOver_16 ?_
  refine lv_iconst (v := (0 : Int32)) hx hb dX8_takeOver_19 (by decide) ?_
  refine lv_aload_n hx hb dX8_takeOver_20 rfl (lv_at hl 0 rfl) ?_
  refine x_get C hm inX8 rfl 1 (by decide) tf_RX8_15 (cx_Told (L_u0 0 _ rfl)) rfl dX8_takeOver_21 ?_
  refine lv_iconst (v := (0 : Int32)) hx hb dX8_takeOver_24 (by decide) ?_
  refine lv_bipush (v := (8 : Int32)) hx hb dX8_takeOver_25 (by decide) ?_
  obtain ⟨M2, eM2, hf⟩ := xlet_x hf
  refine x_copy (cf' := cX E b M2) C hm hl.1 (C.1.2.2.2.2 _ tm_RX8_28) (C.1.2.2.2.2 _ tv_arraycopy) (C.1.2.2.2.2 _ tz_arraycopy) (C.1.2.2.2.2 _ tn_System) (cx_I (L_u1 2 _ rfl)) (cx_I (L_u0 2 _ rfl)) (n := (8 : Int32)) (by decide) rfl (by decide) (by decide) (Nat.le_of_ble_eq_true rfl) (Nat.le_of_ble_eq_true rfl) dX8_takeOver_27 (by rw [eM2]; exact cc_I (L_u0 2 _ rfl)) (by rw [eM2]; exact cc_o) (fun H locs hm => ?_)
  refine lv_aload_n hx hb dX8_takeOver_30 rfl (lv_at hl 0 rfl) ?_
  refine lv_aload_n hx hb dX8_takeOver_31 rfl (lv_at hl 1 rfl) ?_
  refine x_get C hm inX8 rfl 2 (by decide) tf_RX8_18 (cx_Told (L_u1 0 _ rfl)) rfl dX8_takeOver_32 ?_
  obtain ⟨M3, eM3, hf⟩ := xlet_x hf
  refine x_put (cf' := cX E b M3) C hm inX8 tyX8 tyX8_ok nmX8 rfl 2 (by decide) tf_RX8_18 rfl rfl rfl (cx_Told (L_u0 0 _ rfl)) (Nat.le_of_ble_eq_true rfl) (by rw [eM3]; exact cu_Told_2 (L_u0 0 _ rfl)) (by rw [eM3]; exact cX_o) dX8_takeOver_35 (fun H locs hm => ?_)
  refine lv_aload_n hx hb dX8_takeOver_38 rfl (lv_at hl 0 rfl) ?_
  refine lv_aload_n hx hb dX8_takeOver_39 rfl (lv_at hl 1 rfl) ?_
  refine x_get C hm inX8 rfl 3 (by decide) tf_RX8_22 (cx_Told (L_u1 0 _ rfl)) rfl dX8_takeOver_40 ?_
  obtain ⟨M4, eM4, hf⟩ := xlet_x hf
  refine x_put (cf' := cX E b M4) C hm inX8 tyX8 tyX8_ok nmX8 rfl 3 (by decide) tf_RX8_22 rfl rfl rfl (cx_Told (L_u0 0 _ rfl)) (Nat.le_of_ble_eq_true rfl) (by rw [eM4]; exact cu_Told_3 (L_u0 0 _ rfl)) (by rw [eM4]; exact cX_o) dX8_takeOver_43 (fun H locs hm => ?_)
  refine lv_aload_n hx hb dX8_takeOver_46 rfl (lv_at hl 0 rfl) ?_
  refine lv_aload_n hx hb dX8_takeOver_47 rfl (lv_at hl 1 rfl) ?_
  refine x_get C hm inX8 rfl 4 (by decide) tf_RX8_25 (cx_Told (L_u1 0 _ rfl)) rfl dX8_takeOver_48 ?_
  obtain ⟨M5, eM5, hf⟩ := xlet_x hf
  refine x_put (cf' := cX E b M5) C hm inX8 tyX8 tyX8_ok nmX8 rfl 4 (by decide) tf_RX8_25 rfl rfl rfl (cx_Told (L_u0 0 _ rfl)) (Nat.le_of_ble_eq_true rfl) (by rw [eM5]; exact cu_Told_4 (L_u0 0 _ rfl)) (by rw [eM5]; exact cX_o) dX8_takeOver_51 (fun H locs hm => ?_)
  cases hf
  exact x_vret C hm trivial dX8_takeOver_54
/-! ColouredHeap.about(I)I -/
theorem dX9_about_0 : decode cX9_about 0 = .ok (.iload_n 1, 1) := by decide +kernel
theorem dX9_about_1 : decode cX9_about 1 = .ok (.tableswitch 87 0 5 #[39, 47, 55, 63, 71, 79], 39) := by decide +kernel
theorem dX9_about_40 : decode cX9_about 40 = .ok (.aload_n 0, 1) := by decide +kernel
theorem dX9_about_41 : decode cX9_about 41 = .ok (.getfield 26, 3) := by decide +kernel
theorem dX9_about_44 : decode cX9_about 44 = .ok (.getfield 78, 3) := by decide +kernel
theorem dX9_about_47 : decode cX9_about 47 = .ok (.ireturn, 1) := by decide +kernel
theorem dX9_about_48 : decode cX9_about 48 = .ok (.aload_n 0, 1) := by decide +kernel
theorem dX9_about_49 : decode cX9_about 49 = .ok (.getfield 26, 3) := by decide +kernel
theorem dX9_about_52 : decode cX9_about 52 = .ok (.getfield 102, 3) := by decide +kernel
theorem dX9_about_55 : decode cX9_about 55 = .ok (.ireturn, 1) := by decide +kernel
theorem dX9_about_56 : decode cX9_about 56 = .ok (.aload_n 0, 1) := by decide +kernel
theorem dX9_about_57 : decode cX9_about 57 = .ok (.getfield 19, 3) := by decide +kernel
theorem dX9_about_60 : decode cX9_about 60 = .ok (.getfield 208, 3) := by decide +kernel
theorem dX9_about_63 : decode cX9_about 63 = .ok (.ireturn, 1) := by decide +kernel
theorem dX9_about_64 : decode cX9_about 64 = .ok (.aload_n 0, 1) := by decide +kernel
theorem dX9_about_65 : decode cX9_about 65 = .ok (.getfield 10, 3) := by decide +kernel
theorem dX9_about_68 : decode cX9_about 68 = .ok (.invokevirtual 298, 3) := by decide +kernel
theorem dX9_about_71 : decode cX9_about 71 = .ok (.ireturn, 1) := by decide +kernel
theorem dX9_about_72 : decode cX9_about 72 = .ok (.aload_n 0, 1) := by decide +kernel
theorem dX9_about_73 : decode cX9_about 73 = .ok (.getfield 26, 3) := by decide +kernel
theorem dX9_about_76 : decode cX9_about 76 = .ok (.getfield 310, 3) := by decide +kernel
theorem dX9_about_79 : decode cX9_about 79 = .ok (.ireturn, 1) := by decide +kernel
theorem dX9_about_80 : decode cX9_about 80 = .ok (.aload_n 0, 1) := by decide +kernel
theorem dX9_about_81 : decode cX9_about 81 = .ok (.getfield 52, 3) := by decide +kernel
theorem dX9_about_84 : decode cX9_about 84 = .ok (.getfield 70, 3) := by decide +kernel
theorem dX9_about_87 : decode cX9_about 87 = .ok (.ireturn, 1) := by decide +kernel
theorem dX9_about_88 : decode cX9_about 88 = .ok (.bipush (-2), 2) := by decide +kernel
theorem dX9_about_90 : decode cX9_about 90 = .ok (.ireturn, 1) := by decide +kernel
def f_X9_about (M : xm) (a1 : Int32) : Option (Int32) := (if a1 = (0 : Int32) then some (M 483 3) else (if a1 = (1 : Int32) then some (M 483 4) else (if a1 = (2 : Int32) then some (M 16 2) else (if a1 = (3 : Int32) then xb1 (f_X1_threadsBegun 1 M) (fun v6 => some v6) else (if a1 = (4 : Int32) then some (M 483 2) else (if a1 = (5 : Int32) then some (M 990 5) else some (-2 : Int32)))))))
set_option maxHeartbeats 4000000 in
set_option maxRecDepth 20000 in
theorem c_X9_about (l : Launch) (E : xE) (b : Nat) (M : xm) (a1 : Int32) {r : Int32} (hf : f_X9_about M a1 = some r) :
    xMet l E b NX yX9_about cX9_about 2 (some .int) (xR 3) [.ref (b + 0), .int a1] (cX E b M) (some (.int r)) True (cX E b M) := by
  refine xMet.ofW (own := RX9) (by decide) rfl (Nat.le_of_ble_eq_true rfl) ?_
  intro p e s m below meth c H locs ls C hm hl
  have hx := C.1.1
  have hb := C.1.2.1
  have hl : lv_has ls 2 [(0, .ref (b + 0)), (1, .int a1)] := hl
  unfold f_X9_about at hf
  refine lv_iload_n hx hb dX9_about_0 rfl (lv_at hl 1 rfl) ?_
  by_cases hs1 : a1 = (0 : Int32)
  · have hf := xif_t hs1 hf
    refine x_tabIn (tgt := 40) hx hb (0 : Int32) hs1 dX9_about_1 (by decide) (by decide) rfl (by decide) ?_
    refine lv_aload_n hx hb dX9_about_40 rfl (lv_at hl 0 rfl) ?_
    refine x_get C hm inX9 rfl 2 (by decide) tf_RX9_26 (cx_ColouredHeap LX_top) rfl dX9_about_41 ?_
    refine x_get C hm inX8 rfl 3 (by decide) tf_RX9_78 (cx_Told (LX_told 0 _ rfl)) rfl dX9_about_44 ?_
    cases hf
    exact x_iret C hm trivial dX9_about_47
  have hf := xif_f hs1 hf
  by_cases hs2 : a1 = (1 : Int32)
  · have hf := xif_t hs2 hf
    refine x_tabIn (tgt := 48) hx hb (1 : Int32) hs2 dX9_about_1 (by decide) (by decide) rfl (by decide) ?_
    refine lv_aload_n hx hb dX9_about_48 rfl (lv_at hl 0 rfl) ?_
    refine x_get C hm inX9 rfl 2 (by decide) tf_RX9_26 (cx_ColouredHeap LX_top) rfl dX9_about_49 ?_
    refine x_get C hm inX8 rfl 4 (by decide) tf_RX9_102 (cx_Told (LX_told 0 _ rfl)) rfl dX9_about_52 ?_
    cases hf
    exact x_iret C hm trivial dX9_about_55
  have hf := xif_f hs2 hf
  by_cases hs3 : a1 = (2 : Int32)
  · have hf := xif_t hs3 hf
    refine x_tabIn (tgt := 56) hx hb (2 : Int32) hs3 dX9_about_1 (by decide) (by decide) rfl (by decide) ?_
    refine lv_aload_n hx hb dX9_about_56 rfl (lv_at hl 0 rfl) ?_
    refine x_get C hm inX9 rfl 1 (by decide) tf_RX9_19 (cx_ColouredHeap LX_top) rfl dX9_about_57 ?_
    refine x_get C hm inX5 rfl 2 (by decide) tf_RX9_208 (cx_Steps (LX_steps 0 _ rfl)) rfl dX9_about_60 ?_
    cases hf
    exact x_iret C hm trivial dX9_about_63
  have hf := xif_f hs3 hf
  by_cases hs4 : a1 = (3 : Int32)
  · have hf := xif_t hs4 hf
    refine x_tabIn (tgt := 64) hx hb (3 : Int32) hs4 dX9_about_1 (by decide) (by decide) rfl (by decide) ?_
    refine lv_aload_n hx hb dX9_about_64 rfl (lv_at hl 0 rfl) ?_
    refine x_get C hm inX9 rfl 0 (by decide) tf_RX9_10 (cx_ColouredHeap LX_top) rfl dX9_about_65 ?_
    obtain ⟨v6, hq5, hf⟩ := xb1_e hf
    refine x_callVi (As := []) (rest := []) C hm (c_X1_threadsBegun l E b LX_heap M hq5) rfl (cx_Heap (LX_heap 0 _ rfl)) tc_X1_threadsBegun tm_RX9_298 ti_X1_threadsBegun ts_X1_threadsBegun tn_RX1 td_X1_threadsBegun rfl rfl ⟨Nat.le_of_ble_eq_true rfl, Nat.le_of_ble_eq_true rfl⟩ rfl hl.1 rfl (Nat.le_of_ble_eq_true rfl) dX9_about_68 (fun H locs hP7 hm => ?_)
    cases hf
    exact x_iret C hm trivial dX9_about_71
  have hf := xif_f hs4 hf
  by_cases hs8 : a1 = (4 : Int32)
  · have hf := xif_t hs8 hf
    refine x_tabIn (tgt := 72) hx hb (4 : Int32) hs8 dX9_about_1 (by decide) (by decide) rfl (by decide) ?_
    refine lv_aload_n hx hb dX9_about_72 rfl (lv_at hl 0 rfl) ?_
    refine x_get C hm inX9 rfl 2 (by decide) tf_RX9_26 (cx_ColouredHeap LX_top) rfl dX9_about_73 ?_
    refine x_get C hm inX8 rfl 2 (by decide) tf_RX9_310 (cx_Told (LX_told 0 _ rfl)) rfl dX9_about_76 ?_
    cases hf
    exact x_iret C hm trivial dX9_about_79
  have hf := xif_f hs8 hf
  by_cases hs9 : a1 = (5 : Int32)
  · have hf := xif_t hs9 hf
    refine x_tabIn (tgt := 80) hx hb (5 : Int32) hs9 dX9_about_1 (by decide) (by decide) rfl (by decide) ?_
    refine lv_aload_n hx hb dX9_about_80 rfl (lv_at hl 0 rfl) ?_
    refine x_get C hm inX9 rfl 8 (by decide) tf_RX9_52 (cx_ColouredHeap LX_top) rfl dX9_about_81 ?_
    refine x_get C hm inX4 rfl 5 (by decide) tf_RX9_70 (cx_Reader (LX_reader 0 _ rfl)) rfl dX9_about_84 ?_
    cases hf
    exact x_iret C hm trivial dX9_about_87
  have hf := xif_f hs9 hf
  refine x_tabOut (tgt := 88) hx hb dX9_about_1 (by decide) (fun i hi => ?_) (by decide) ?_
  · match i, hi with
    | 0, _ => exact hs1
    | 1, _ => exact hs2
    | 2, _ => exact hs3
    | 3, _ => exact hs4
    | 4, _ => exact hs8
    | 5, _ => exact hs9
    | (i + 6), hi => exact absurd hi (by omega)
  refine lv_bipush (v := (-2 : Int32)) hx hb dX9_about_88 (by decide) ?_
  cases hf
  exact x_iret C hm trivial dX9_about_90
/-! ColouredHeap.agreesWhenFirst(I)Z -/
theorem dX9_agreesWhenFirst_0 : decode cX9_agreesWhenFirst 0 = .ok (.aload_n 0, 1) := by decide +kernel
theorem dX9_agreesWhenFirst_1 : decode cX9_agreesWhenFirst 1 = .ok (.getfield 39, 3) := by decide +kernel
theorem dX9_agreesWhenFirst_4 : decode cX9_agreesWhenFirst 4 = .ok (.aload_n 0, 1) := by decide +kernel
theorem dX9_agreesWhenFirst_5 : decode cX9_agreesWhenFirst 5 = .ok (.getfield 10, 3) := by decide +kernel
theorem dX9_agreesWhenFirst_8 : decode cX9_agreesWhenFirst 8 = .ok (.invokevirtual 261, 3) := by decide +kernel
theorem dX9_agreesWhenFirst_11 : decode cX9_agreesWhenFirst 11 = .ok (.aload_n 0, 1) := by decide +kernel
theorem dX9_agreesWhenFirst_12 : decode cX9_agreesWhenFirst 12 = .ok (.getfield 39, 3) := by decide +kernel
theorem dX9_agreesWhenFirst_15 : decode cX9_agreesWhenFirst 15 = .ok (.getfield 332, 3) := by decide +kernel
theorem dX9_agreesWhenFirst_18 : decode cX9_agreesWhenFirst 18 = .ok (.iconst 0, 1) := by decide +kernel
theorem dX9_agreesWhenFirst_19 : decode cX9_agreesWhenFirst 19 = .ok (.iaload, 1) := by decide +kernel
theorem dX9_agreesWhenFirst_20 : decode cX9_agreesWhenFirst 20 = .ok (.istore_n 2, 1) := by decide +kernel
theorem dX9_agreesWhenFirst_21 : decode cX9_agreesWhenFirst 21 = .ok (.aload_n 0, 1) := by decide +kernel
theorem dX9_agreesWhenFirst_22 : decode cX9_agreesWhenFirst 22 = .ok (.getfield 39, 3) := by decide +kernel
theorem dX9_agreesWhenFirst_25 : decode cX9_agreesWhenFirst 25 = .ok (.getfield 332, 3) := by decide +kernel
theorem dX9_agreesWhenFirst_28 : decode cX9_agreesWhenFirst 28 = .ok (.iconst 1, 1) := by decide +kernel
theorem dX9_agreesWhenFirst_29 : decode cX9_agreesWhenFirst 29 = .ok (.iaload, 1) := by decide +kernel
theorem dX9_agreesWhenFirst_30 : decode cX9_agreesWhenFirst 30 = .ok (.istore_n 3, 1) := by decide +kernel
theorem dX9_agreesWhenFirst_31 : decode cX9_agreesWhenFirst 31 = .ok (.aload_n 0, 1) := by decide +kernel
theorem dX9_agreesWhenFirst_32 : decode cX9_agreesWhenFirst 32 = .ok (.getfield 39, 3) := by decide +kernel
theorem dX9_agreesWhenFirst_35 : decode cX9_agreesWhenFirst 35 = .ok (.iload_n 1, 1) := by decide +kernel
theorem dX9_agreesWhenFirst_36 : decode cX9_agreesWhenFirst 36 = .ok (.iload_n 1, 1) := by decide +kernel
theorem dX9_agreesWhenFirst_37 : decode cX9_agreesWhenFirst 37 = .ok (.invokevirtual 149, 3) := by decide +kernel
theorem dX9_agreesWhenFirst_40 : decode cX9_agreesWhenFirst 40 = .ok (.pop, 1) := by decide +kernel
theorem dX9_agreesWhenFirst_41 : decode cX9_agreesWhenFirst 41 = .ok (.aload_n 0, 1) := by decide +kernel
theorem dX9_agreesWhenFirst_42 : decode cX9_agreesWhenFirst 42 = .ok (.getfield 39, 3) := by decide +kernel
theorem dX9_agreesWhenFirst_45 : decode cX9_agreesWhenFirst 45 = .ok (.iconst 1, 1) := by decide +kernel
theorem dX9_agreesWhenFirst_46 : decode cX9_agreesWhenFirst 46 = .ok (.iload_n 1, 1) := by decide +kernel
theorem dX9_agreesWhenFirst_47 : decode cX9_agreesWhenFirst 47 = .ok (.isub, 1) := by decide +kernel
theorem dX9_agreesWhenFirst_48 : decode cX9_agreesWhenFirst 48 = .ok (.iconst 1, 1) := by decide +kernel
theorem dX9_agreesWhenFirst_49 : decode cX9_agreesWhenFirst 49 = .ok (.iload_n 1, 1) := by decide +kernel
theorem dX9_agreesWhenFirst_50 : decode cX9_agreesWhenFirst 50 = .ok (.isub, 1) := by decide +kernel
theorem dX9_agreesWhenFirst_51 : decode cX9_agreesWhenFirst 51 = .ok (.invokevirtual 149, 3) := by decide +kernel
theorem dX9_agreesWhenFirst_54 : decode cX9_agreesWhenFirst 54 = .ok (.pop, 1) := by decide +kernel
theorem dX9_agreesWhenFirst_55 : decode cX9_agreesWhenFirst 55 = .ok (.iload_n 2, 1) := by decide +kernel
theorem dX9_agreesWhenFirst_56 : decode cX9_agreesWhenFirst 56 = .ok (.invokestatic 214, 3) := by decide +kernel
theorem dX9_agreesWhenFirst_59 : decode cX9_agreesWhenFirst 59 = .ok (.ifCond .eq 84, 3) := by decide +kernel
theorem dX9_agreesWhenFirst_62 : decode cX9_agreesWhenFirst 62 = .ok (.iload_n 3, 1) := by decide +kernel
theorem dX9_agreesWhenFirst_63 : decode cX9_agreesWhenFirst 63 = .ok (.invokestatic 214, 3) := by decide +kernel
theorem dX9_agreesWhenFirst_66 : decode cX9_agreesWhenFirst 66 = .ok (.ifCond .eq 77, 3) := by decide +kernel
theorem dX9_agreesWhenFirst_69 : decode cX9_agreesWhenFirst 69 = .ok (.aload_n 0, 1) := by decide +kernel
theorem dX9_agreesWhenFirst_70 : decode cX9_agreesWhenFirst 70 = .ok (.getfield 39, 3) := by decide +kernel
theorem dX9_agreesWhenFirst_73 : decode cX9_agreesWhenFirst 73 = .ok (.aload_n 0, 1) := by decide +kernel
theorem dX9_agreesWhenFirst_74 : decode cX9_agreesWhenFirst 74 = .ok (.getfield 39, 3) := by decide +kernel
theorem dX9_agreesWhenFirst_77 : decode cX9_agreesWhenFirst 77 = .ok (.getfield 139, 3) := by decide +kernel
theorem dX9_agreesWhenFirst_80 : decode cX9_agreesWhenFirst 80 = .ok (.iconst 0, 1) := by decide +kernel
theorem dX9_agreesWhenFirst_81 : decode cX9_agreesWhenFirst 81 = .ok (.iaload, 1) := by decide +kernel
theorem dX9_agreesWhenFirst_82 : decode cX9_agreesWhenFirst 82 = .ok (.invokevirtual 267, 3) := by decide +kernel
theorem dX9_agreesWhenFirst_85 : decode cX9_agreesWhenFirst 85 = .ok (.aload_n 0, 1) := by decide +kernel
theorem dX9_agreesWhenFirst_86 : decode cX9_agreesWhenFirst 86 = .ok (.getfield 39, 3) := by decide +kernel
theorem dX9_agreesWhenFirst_89 : decode cX9_agreesWhenFirst 89 = .ok (.aload_n 0, 1) := by decide +kernel
theorem dX9_agreesWhenFirst_90 : decode cX9_agreesWhenFirst 90 = .ok (.getfield 39, 3) := by decide +kernel
theorem dX9_agreesWhenFirst_93 : decode cX9_agreesWhenFirst 93 = .ok (.getfield 217, 3) := by decide +kernel
theorem dX9_agreesWhenFirst_96 : decode cX9_agreesWhenFirst 96 = .ok (.iload_n 2, 1) := by decide +kernel
theorem dX9_agreesWhenFirst_97 : decode cX9_agreesWhenFirst 97 = .ok (.iaload, 1) := by decide +kernel
theorem dX9_agreesWhenFirst_98 : decode cX9_agreesWhenFirst 98 = .ok (.invokevirtual 267, 3) := by decide +kernel
theorem dX9_agreesWhenFirst_101 : decode cX9_agreesWhenFirst 101 = .ok (.if_icmp .ne 42, 3) := by decide +kernel
theorem dX9_agreesWhenFirst_104 : decode cX9_agreesWhenFirst 104 = .ok (.aload_n 0, 1) := by decide +kernel
theorem dX9_agreesWhenFirst_105 : decode cX9_agreesWhenFirst 105 = .ok (.getfield 39, 3) := by decide +kernel
theorem dX9_agreesWhenFirst_108 : decode cX9_agreesWhenFirst 108 = .ok (.aload_n 0, 1) := by decide +kernel
theorem dX9_agreesWhenFirst_109 : decode cX9_agreesWhenFirst 109 = .ok (.getfield 39, 3) := by decide +kernel
theorem dX9_agreesWhenFirst_112 : decode cX9_agreesWhenFirst 112 = .ok (.getfield 139, 3) := by decide +kernel
theorem dX9_agreesWhenFirst_115 : decode cX9_agreesWhenFirst 115 = .ok (.iconst 1, 1) := by decide +kernel
theorem dX9_agreesWhenFirst_116 : decode cX9_agreesWhenFirst 116 = .ok (.iaload, 1) := by decide +kernel
theorem dX9_agreesWhenFirst_117 : decode cX9_agreesWhenFirst 117 = .ok (.invokevirtual 267, 3) := by decide +kernel
theorem dX9_agreesWhenFirst_120 : decode cX9_agreesWhenFirst 120 = .ok (.aload_n 0, 1) := by decide +kernel
theorem dX9_agreesWhenFirst_121 : decode cX9_agreesWhenFirst 121 = .ok (.getfield 39, 3) := by decide +kernel
theorem dX9_agreesWhenFirst_124 : decode cX9_agreesWhenFirst 124 = .ok (.aload_n 0, 1) := by decide +kernel
theorem dX9_agreesWhenFirst_125 : decode cX9_agreesWhenFirst 125 = .ok (.getfield 39, 3) := by decide +kernel
theorem dX9_agreesWhenFirst_128 : decode cX9_agreesWhenFirst 128 = .ok (.getfield 217, 3) := by decide +kernel
theorem dX9_agreesWhenFirst_131 : decode cX9_agreesWhenFirst 131 = .ok (.iload_n 3, 1) := by decide +kernel
theorem dX9_agreesWhenFirst_132 : decode cX9_agreesWhenFirst 132 = .ok (.iaload, 1) := by decide +kernel
theorem dX9_agreesWhenFirst_133 : decode cX9_agreesWhenFirst 133 = .ok (.invokevirtual 267, 3) := by decide +kernel
theorem dX9_agreesWhenFirst_136 : decode cX9_agreesWhenFirst 136 = .ok (.if_icmp .ne 7, 3) := by decide +kernel
theorem dX9_agreesWhenFirst_139 : decode cX9_agreesWhenFirst 139 = .ok (.iconst 1, 1) := by decide +kernel
theorem dX9_agreesWhenFirst_140 : decode cX9_agreesWhenFirst 140 = .ok (.goto 4, 3) := by decide +kernel
theorem dX9_agreesWhenFirst_143 : decode cX9_agreesWhenFirst 143 = .ok (.iconst 0, 1) := by decide +kernel
theorem dX9_agreesWhenFirst_144 : decode cX9_agreesWhenFirst 144 = .ok (.ireturn, 1) := by decide +kernel
def f_X9_agreesWhenFirst (M : xm) (a1 : Int32) : Option (Int32 × xm) := xb1 (f_X1_takeOver 971 1 M) (fun M2 => xlet (M2 (971 + 10) 0) (fun v4 => xlet (M2 (971 + 10) 1) (fun v5 => xb2 (f_X1_finishRead 971 M2 a1 a1) (fun v7 M8 => xb2 (f_X1_finishRead 971 M8 ((1 : Int32) - a1) ((1 : Int32) - a1)) (fun v11 M12 => (if (f_X9_isAddress v4) = 0 then some ((0 : Int32), M12) else (if (f_X9_isAddress v5) = 0 then some ((0 : Int32), M12) else xb1 (f_X1_leadsTo 971 M12 (M12 (971 + 8) 0)) (fun v19 => if xin v4 64 = true then xb1 (f_X1_leadsTo 971 M12 (M12 (971 + 1) (Int32.toNatClampNeg v4))) (fun v23 => (if v19 = v23 then xb1 (f_X1_leadsTo 971 M12 (M12 (971 + 8) 1)) (fun v27 => if xin v5 64 = true then xb1 (f_X1_leadsTo 971 M12 (M12 (971 + 1) (Int32.toNatClampNeg v5))) (fun v31 => (if v27 = v31 then some ((1 : Int32), M12) else some ((0 : Int32), M12))) else none) else some ((0 : Int32), M12))) else none))))))))
set_option maxHeartbeats 4000000 in
set_option maxRecDepth 20000 in
theorem c_X9_agreesWhenFirst (l : Launch) (E : xE) (b : Nat) (M : xm) (a1 : Int32) {r : Int32} {M' : xm} (hf : f_X9_agreesWhenFirst M a1 = some (r, M')) :
    xMet l E b NX yX9_agreesWhenFirst cX9_agreesWhenFirst 4 (some .boolean) (xR 6) [.ref (b + 0), .int a1] (cX E b M) (some (.int r)) (xbo r = true) (cX E b M') := by
  refine xMet.ofW (own := RX9) (by decide) rfl (Nat.le_of_ble_eq_true rfl) ?_
  intro p e s m below meth c H locs ls C hm hl
  have hx := C.1.1
  have hb := C.1.2.1
  have hl : lv_has ls 4 [(0, .ref (b + 0)), (1, .int a1)] := hl
  unfold f_X9_agreesWhenFirst at hf
  refine lv_aload_n hx hb dX9_agreesWhenFirst_0 rfl (lv_at hl 0 rfl) ?_
  refine x_get C hm inX9 rfl 6 (by decide) tf_RX9_39 (cx_ColouredHeap LX_top) rfl dX9_agreesWhenFirst_1 ?_
  refine lv_aload_n hx hb dX9_agreesWhenFirst_4 rfl (lv_at hl 0 rfl) ?_
  refine x_get C hm inX9 rfl 0 (by decide) tf_RX9_10 (cx_ColouredHeap LX_top) rfl dX9_agreesWhenFirst_5 ?_
  obtain ⟨M2, hq1, hf⟩ := xb1_e hf
  refine x_callVv (As := [.ref (b + 1)]) (rest := []) C hm (c_X1_takeOver l E b LX_trial LX_heap M hq1) rfl (cx_Heap (LX_trial 0 _ rfl)) tc_X1_takeOver tm_RX9_261 ti_X1_takeOver ts_X1_takeOver tn_RX1 td_X1_takeOver rfl rfl ⟨Nat.le_of_ble_eq_true rfl, Nat.le_of_ble_eq_true rfl⟩ rfl hl.1 rfl (Nat.le_of_ble_eq_true rfl) dX9_agreesWhenFirst_8 (fun H locs hP3 hm => ?_)
  refine lv_aload_n hx hb dX9_agreesWhenFirst_11 rfl (lv_at hl 0 rfl) ?_
  refine x_get C hm inX9 rfl 6 (by decide) tf_RX9_39 (cx_ColouredHeap LX_top) rfl dX9_agreesWhenFirst_12 ?_
  refine x_get C hm inX1 rfl 9 (by decide) tf_RX9_332 (cx_Heap (LX_trial 0 _ rfl)) rfl dX9_agreesWhenFirst_15 ?_
  refine lv_iconst (v := (0 : Int32)) hx hb dX9_agreesWhenFirst_18 (by decide) ?_
  refine x_iald (j := 0) C hm (cx_I (LX_trial 10 _ rfl)) (by decide) dX9_agreesWhenFirst_19 (by decide) ?_
  refine lv_topi (fun v4 ev4 => ?_)
  have hf := xlet_e ev4 hf
  refine lv_istore_n (lv' := [(2, .int v4), (0, .ref (b + 0)), (1, .int a1)]) hx hb dX9_agreesWhenFirst_20 rfl hl (by decide) rfl (fun ls hl => ?_)
  refine lv_aload_n hx hb dX9_agreesWhenFirst_21 rfl (lv_at hl 1 rfl) ?_
  refine x_get C hm inX9 rfl 6 (by decide) tf_RX9_39 (cx_ColouredHeap LX_top) rfl dX9_agreesWhenFirst_22 ?_
  refine x_get C hm inX1 rfl 9 (by decide) tf_RX9_332 (cx_Heap (LX_trial 0 _ rfl)) rfl dX9_agreesWhenFirst_25 ?_
  refine lv_iconst (v := (1 : Int32)) hx hb dX9_agreesWhenFirst_28 (by decide) ?_
  refine x_iald (j := 1) C hm (cx_I (LX_trial 10 _ rfl)) (by decide) dX9_agreesWhenFirst_29 (by decide) ?_
  refine lv_topi (fun v5 ev5 => ?_)
  have hf := xlet_e ev5 hf
  refine lv_istore_n (lv' := [(3, .int v5), (2, .int v4), (0, .ref (b + 0)), (1, .int a1)]) hx hb dX9_agreesWhenFirst_30 rfl hl (by decide) rfl (fun ls hl => ?_)
  refine lv_aload_n hx hb dX9_agreesWhenFirst_31 rfl (lv_at hl 2 rfl) ?_
  refine x_get C hm inX9 rfl 6 (by decide) tf_RX9_39 (cx_ColouredHeap LX_top) rfl dX9_agreesWhenFirst_32 ?_
  refine lv_iload_n hx hb dX9_agreesWhenFirst_35 rfl (lv_at hl 3 rfl) ?_
  refine lv_iload_n hx hb dX9_agreesWhenFirst_36 rfl (lv_at hl 3 rfl) ?_
  obtain ⟨v7, M8, hq6, hf⟩ := xb2_e hf
  refine x_callVi (As := [.int a1, .int a1]) (rest := []) C hm (c_X1_finishRead l E b LX_trial M2 a1 a1 hq6) rfl (cx_Heap (LX_trial 0 _ rfl)) tc_X1_finishRead tm_RX9_149 ti_X1_finishRead ts_X1_finishRead tn_RX1 td_X1_finishRead rfl rfl ⟨Nat.le_of_ble_eq_true rfl, Nat.le_of_ble_eq_true rfl⟩ rfl hl.1 rfl (Nat.le_of_ble_eq_true rfl) dX9_agreesWhenFirst_37 (fun H locs hP9 hm => ?_)
  refine lv_pop hx hb dX9_agreesWhenFirst_40 rfl ?_
  refine lv_aload_n hx hb dX9_agreesWhenFirst_41 rfl (lv_at hl 2 rfl) ?_
  refine x_get C hm inX9 rfl 6 (by decide) tf_RX9_39 (cx_ColouredHeap LX_top) rfl dX9_agreesWhenFirst_42 ?_
  refine lv_iconst (v := (1 : Int32)) hx hb dX9_agreesWhenFirst_45 (by decide) ?_
  refine lv_iload_n hx hb dX9_agreesWhenFirst_46 rfl (lv_at hl 3 rfl) ?_
  refine lv_isub hx hb dX9_agreesWhenFirst_47 ?_
  refine lv_iconst (v := (1 : Int32)) hx hb dX9_agreesWhenFirst_48 (by decide) ?_
  refine lv_iload_n hx hb dX9_agreesWhenFirst_49 rfl (lv_at hl 3 rfl) ?_
  refine lv_isub hx hb dX9_agreesWhenFirst_50 ?_
  obtain ⟨v11, M12, hq10, hf⟩ := xb2_e hf
  refine x_callVi (As := [.int ((1 : Int32) - a1), .int ((1 : Int32) - a1)]) (rest := []) C hm (c_X1_finishRead l E b LX_trial M8 ((1 : Int32) - a1) ((1 : Int32) - a1) hq10) rfl (cx_Heap (LX_trial 0 _ rfl)) tc_X1_finishRead tm_RX9_149 ti_X1_finishRead ts_X1_finishRead tn_RX1 td_X1_finishRead rfl rfl ⟨Nat.le_of_ble_eq_true rfl, Nat.le_of_ble_eq_true rfl⟩ rfl hl.1 rfl (Nat.le_of_ble_eq_true rfl) dX9_agreesWhenFirst_51 (fun H locs hP13 hm => ?_)
  refine lv_pop hx hb dX9_agreesWhenFirst_54 rfl ?_
  refine lv_iload_n hx hb dX9_agreesWhenFirst_55 rfl (lv_at hl 1 rfl) ?_
  refine x_callSi (As := [.int v4]) (rest := []) C hm (c_X9_isAddress l E b M12 v4 rfl) tc_X9_isAddress tm_RX9_214 tz_X9_isAddress tn_RX9 td_X9_isAddress rfl rfl ⟨Nat.le_of_ble_eq_true rfl, Nat.le_of_ble_eq_true rfl⟩ rfl hl.1 rfl (Nat.le_of_ble_eq_true rfl) dX9_agreesWhenFirst_56 (fun H locs hP14 hm => ?_)
  refine lv_if_eq (tgt := 143) hx hb dX9_agreesWhenFirst_59 (by decide) (fun hc15 => ?_) (fun hc15 => ?_)
  · have hf := xif_t hc15 hf
    refine lv_iconst (v := (0 : Int32)) hx hb dX9_agreesWhenFirst_143 (by decide) ?_
    cases hf
    exact x_zret C hm (by decide) (by decide) dX9_agreesWhenFirst_144
  have hf := xif_f hc15 hf
  refine lv_iload_n hx hb dX9_agreesWhenFirst_62 rfl (lv_at hl 0 rfl) ?_
  refine x_callSi (As := [.int v5]) (rest := []) C hm (c_X9_isAddress l E b M12 v5 rfl) tc_X9_isAddress tm_RX9_214 tz_X9_isAddress tn_RX9 td_X9_isAddress rfl rfl ⟨Nat.le_of_ble_eq_true rfl, Nat.le_of_ble_eq_true rfl⟩ rfl hl.1 rfl (Nat.le_of_ble_eq_true rfl) dX9_agreesWhenFirst_63 (fun H locs hP16 hm => ?_)
  refine lv_if_eq (tgt := 143) hx hb dX9_agreesWhenFirst_66 (by decide) (fun hc17 => ?_) (fun hc17 => ?_)
  · have hf := xif_t hc17 hf
    refine lv_iconst (v := (0 : Int32)) hx hb dX9_agreesWhenFirst_143 (by decide) ?_
    cases hf
    exact x_zret C hm (by decide) (by decide) dX9_agreesWhenFirst_144
  have hf := xif_f hc17 hf
  refine lv_aload_n hx hb dX9_agreesWhenFirst_69 rfl (lv_at hl 2 rfl) ?_
  refine x_get C hm inX9 rfl 6 (by decide) tf_RX9_39 (cx_ColouredHeap LX_top) rfl dX9_agreesWhenFirst_70 ?_
  refine lv_aload_n hx hb dX9_agreesWhenFirst_73 rfl (lv_at hl 2 rfl) ?_
  refine x_get C hm inX9 rfl 6 (by decide) tf_RX9_39 (cx_ColouredHeap LX_top) rfl dX9_agreesWhenFirst_74 ?_
  refine x_get C hm inX1 rfl 7 (by decide) tf_RX9_139 (cx_Heap (LX_trial 0 _ rfl)) rfl dX9_agreesWhenFirst_77 ?_
  refine lv_iconst (v := (0 : Int32)) hx hb dX9_agreesWhenFirst_80 (by decide) ?_
  refine x_iald (j := 0) C hm (cx_I (LX_trial 8 _ rfl)) (by decide) dX9_agreesWhenFirst_81 (by decide) ?_
  obtain ⟨v19, hq18, hf⟩ := xb1_e hf
  refine x_callVi (As := [.int (M12 (971 + 8) 0)]) (rest := []) C hm (c_X1_leadsTo l E b LX_trial M12 (M12 (971 + 8) 0) hq18) rfl (cx_Heap (LX_trial 0 _ rfl)) tc_X1_leadsTo tm_RX9_267 ti_X1_leadsTo ts_X1_leadsTo tn_RX1 td_X1_leadsTo rfl rfl ⟨Nat.le_of_ble_eq_true rfl, Nat.le_of_ble_eq_true rfl⟩ rfl hl.1 rfl (Nat.le_of_ble_eq_true rfl) dX9_agreesWhenFirst_82 (fun H locs hP20 hm => ?_)
  refine lv_aload_n hx hb dX9_agreesWhenFirst_85 rfl (lv_at hl 2 rfl) ?_
  refine x_get C hm inX9 rfl 6 (by decide) tf_RX9_39 (cx_ColouredHeap LX_top) rfl dX9_agreesWhenFirst_86 ?_
  refine lv_aload_n hx hb dX9_agreesWhenFirst_89 rfl (lv_at hl 2 rfl) ?_
  refine x_get C hm inX9 rfl 6 (by decide) tf_RX9_39 (cx_ColouredHeap LX_top) rfl dX9_agreesWhenFirst_90 ?_
  refine x_get C hm inX1 rfl 0 (by decide) tf_RX9_217 (cx_Heap (LX_trial 0 _ rfl)) rfl dX9_agreesWhenFirst_93 ?_
  refine lv_iload_n hx hb dX9_agreesWhenFirst_96 rfl (lv_at hl 1 rfl) ?_
  obtain ⟨hi21, hf⟩ := xif_s hf
  refine x_iald (j := (Int32.toNatClampNeg v4)) C hm (cx_I (LX_trial 1 _ rfl)) hi21 dX9_agreesWhenFirst_97 rfl ?_
  obtain ⟨v23, hq22, hf⟩ := xb1_e hf
  refine x_callVi (As := [.int (M12 (971 + 1) (Int32.toNatClampNeg v4))]) (rest := [.int v19]) C hm (c_X1_leadsTo l E b LX_trial M12 (M12 (971 + 1) (Int32.toNatClampNeg v4)) hq22) rfl (cx_Heap (LX_trial 0 _ rfl)) tc_X1_leadsTo tm_RX9_267 ti_X1_leadsTo ts_X1_leadsTo tn_RX1 td_X1_leadsTo rfl rfl ⟨Nat.le_of_ble_eq_true rfl, Nat.le_of_ble_eq_true rfl⟩ rfl hl.1 rfl (Nat.le_of_ble_eq_true rfl) dX9_agreesWhenFirst_98 (fun H locs hP24 hm => ?_)
  refine lv_icmp_ne (tgt := 143) hx hb dX9_agreesWhenFirst_101 (by decide) (fun hc25 => ?_) (fun hc25 => ?_)
  · have hf := xif_f hc25 hf
    refine lv_iconst (v := (0 : Int32)) hx hb dX9_agreesWhenFirst_143 (by decide) ?_
    cases hf
    exact x_zret C hm (by decide) (by decide) dX9_agreesWhenFirst_144
  have hf := xif_t hc25 hf
  refine lv_aload_n hx hb dX9_agreesWhenFirst_104 rfl (lv_at hl 2 rfl) ?_
  refine x_get C hm inX9 rfl 6 (by decide) tf_RX9_39 (cx_ColouredHeap LX_top) rfl dX9_agreesWhenFirst_105 ?_
  refine lv_aload_n hx hb dX9_agreesWhenFirst_108 rfl (lv_at hl 2 rfl) ?_
  refine x_get C hm inX9 rfl 6 (by decide) tf_RX9_39 (cx_ColouredHeap LX_top) rfl dX9_agreesWhenFirst_109 ?_
  refine x_get C hm inX1 rfl 7 (by decide) tf_RX9_139 (cx_Heap (LX_trial 0 _ rfl)) rfl dX9_agreesWhenFirst_112 ?_
  refine lv_iconst (v := (1 : Int32)) hx hb dX9_agreesWhenFirst_115 (by decide) ?_
  refine x_iald (j := 1) C hm (cx_I (LX_trial 8 _ rfl)) (by decide) dX9_agreesWhenFirst_116 (by decide) ?_
  obtain ⟨v27, hq26, hf⟩ := xb1_e hf
  refine x_callVi (As := [.int (M12 (971 + 8) 1)]) (rest := []) C hm (c_X1_leadsTo l E b LX_trial M12 (M12 (971 + 8) 1) hq26) rfl (cx_Heap (LX_trial 0 _ rfl)) tc_X1_leadsTo tm_RX9_267 ti_X1_leadsTo ts_X1_leadsTo tn_RX1 td_X1_leadsTo rfl rfl ⟨Nat.le_of_ble_eq_true rfl, Nat.le_of_ble_eq_true rfl⟩ rfl hl.1 rfl (Nat.le_of_ble_eq_true rfl) dX9_agreesWhenFirst_117 (fun H locs hP28 hm => ?_)
  refine lv_aload_n hx hb dX9_agreesWhenFirst_120 rfl (lv_at hl 2 rfl) ?_
  refine x_get C hm inX9 rfl 6 (by decide) tf_RX9_39 (cx_ColouredHeap LX_top) rfl dX9_agreesWhenFirst_121 ?_
  refine lv_aload_n hx hb dX9_agreesWhenFirst_124 rfl (lv_at hl 2 rfl) ?_
  refine x_get C hm inX9 rfl 6 (by decide) tf_RX9_39 (cx_ColouredHeap LX_top) rfl dX9_agreesWhenFirst_125 ?_
  refine x_get C hm inX1 rfl 0 (by decide) tf_RX9_217 (cx_Heap (LX_trial 0 _ rfl)) rfl dX9_agreesWhenFirst_128 ?_
  refine lv_iload_n hx hb dX9_agreesWhenFirst_131 rfl (lv_at hl 0 rfl) ?_
  obtain ⟨hi29, hf⟩ := xif_s hf
  refine x_iald (j := (Int32.toNatClampNeg v5)) C hm (cx_I (LX_trial 1 _ rfl)) hi29 dX9_agreesWhenFirst_132 rfl ?_
  obtain ⟨v31, hq30, hf⟩ := xb1_e hf
  refine x_callVi (As := [.int (M12 (971 + 1) (Int32.toNatClampNeg v5))]) (rest := [.int v27]) C hm (c_X1_leadsTo l E b LX_trial M12 (M12 (971 + 1) (Int32.toNatClampNeg v5)) hq30) rfl (cx_Heap (LX_trial 0 _ rfl)) tc_X1_leadsTo tm_RX9_267 ti_X1_leadsTo ts_X1_leadsTo tn_RX1 td_X1_leadsTo rfl rfl ⟨Nat.le_of_ble_eq_true rfl, Nat.le_of_ble_eq_true rfl⟩ rfl hl.1 rfl (Nat.le_of_ble_eq_true rfl) dX9_agreesWhenFirst_133 (fun H locs hP32 hm => ?_)
  refine lv_icmp_ne (tgt := 143) hx hb dX9_agreesWhenFirst_136 (by decide) (fun hc33 => ?_) (fun hc33 => ?_)
  · have hf := xif_f hc33 hf
    refine lv_iconst (v := (0 : Int32)) hx hb dX9_agreesWhenFirst_143 (by decide) ?_
    cases hf
    exact x_zret C hm (by decide) (by decide) dX9_agreesWhenFirst_144
  have hf := xif_t hc33 hf
  refine lv_iconst (v := (1 : Int32)) hx hb dX9_agreesWhenFirst_139 (by decide) ?_
  refine lv_goto (tgt := 144) hx hb dX9_agreesWhenFirst_140 (by decide) ?_
  cases hf
  exact x_zret C hm (by decide) (by decide) dX9_agreesWhenFirst_144
/-! ColouredHeap.agreesWithSaid(LColouredHeap$Text;)Z -/
theorem dX9_agreesWithSaid_0 : decode cX9_agreesWithSaid 0 = .ok (.iconst 0, 1) := by decide +kernel
theorem dX9_agreesWithSaid_1 : decode cX9_agreesWithSaid 1 = .ok (.istore_n 2, 1) := by decide +kernel
theorem dX9_agreesWithSaid_2 : decode cX9_agreesWithSaid 2 = .ok (.iload_n 2, 1) := by decide +kernel
theorem dX9_agreesWithSaid_3 : decode cX9_agreesWithSaid 3 = .ok (.bipush 8, 2) := by decide +kernel
theorem dX9_agreesWithSaid_5 : decode cX9_agreesWithSaid 5 = .ok (.if_icmp .ge 66, 3) := by decide +kernel
theorem dX9_agreesWithSaid_8 : decode cX9_agreesWithSaid 8 = .ok (.iload_n 2, 1) := by decide +kernel
theorem dX9_agreesWithSaid_9 : decode cX9_agreesWithSaid 9 = .ok (.aload_n 0, 1) := by decide +kernel
theorem dX9_agreesWithSaid_10 : decode cX9_agreesWithSaid 10 = .ok (.getfield 26, 3) := by decide +kernel
theorem dX9_agreesWithSaid_13 : decode cX9_agreesWithSaid 13 = .ok (.getfield 310, 3) := by decide +kernel
theorem dX9_agreesWithSaid_16 : decode cX9_agreesWithSaid 16 = .ok (.if_icmp .ge 55, 3) := by decide +kernel
theorem dX9_agreesWithSaid_19 : decode cX9_agreesWithSaid 19 = .ok (.aload_n 0, 1) := by decide +kernel
theorem dX9_agreesWithSaid_20 : decode cX9_agreesWithSaid 20 = .ok (.getfield 59, 3) := by decide +kernel
theorem dX9_agreesWithSaid_23 : decode cX9_agreesWithSaid 23 = .ok (.aload_n 1, 1) := by decide +kernel
theorem dX9_agreesWithSaid_24 : decode cX9_agreesWithSaid 24 = .ok (.aload_n 0, 1) := by decide +kernel
theorem dX9_agreesWithSaid_25 : decode cX9_agreesWithSaid 25 = .ok (.getfield 10, 3) := by decide +kernel
theorem dX9_agreesWithSaid_28 : decode cX9_agreesWithSaid 28 = .ok (.aload_n 0, 1) := by decide +kernel
theorem dX9_agreesWithSaid_29 : decode cX9_agreesWithSaid 29 = .ok (.getfield 26, 3) := by decide +kernel
theorem dX9_agreesWithSaid_32 : decode cX9_agreesWithSaid 32 = .ok (.getfield 313, 3) := by decide +kernel
theorem dX9_agreesWithSaid_35 : decode cX9_agreesWithSaid 35 = .ok (.iload_n 2, 1) := by decide +kernel
theorem dX9_agreesWithSaid_36 : decode cX9_agreesWithSaid 36 = .ok (.iaload, 1) := by decide +kernel
theorem dX9_agreesWithSaid_37 : decode cX9_agreesWithSaid 37 = .ok (.invokevirtual 235, 3) := by decide +kernel
theorem dX9_agreesWithSaid_40 : decode cX9_agreesWithSaid 40 = .ok (.istore_n 3, 1) := by decide +kernel
theorem dX9_agreesWithSaid_41 : decode cX9_agreesWithSaid 41 = .ok (.iload_n 3, 1) := by decide +kernel
theorem dX9_agreesWithSaid_42 : decode cX9_agreesWithSaid 42 = .ok (.aload_n 0, 1) := by decide +kernel
theorem dX9_agreesWithSaid_43 : decode cX9_agreesWithSaid 43 = .ok (.getfield 26, 3) := by decide +kernel
theorem dX9_agreesWithSaid_46 : decode cX9_agreesWithSaid 46 = .ok (.getfield 316, 3) := by decide +kernel
theorem dX9_agreesWithSaid_49 : decode cX9_agreesWithSaid 49 = .ok (.iload_n 2, 1) := by decide +kernel
theorem dX9_agreesWithSaid_50 : decode cX9_agreesWithSaid 50 = .ok (.iaload, 1) := by decide +kernel
theorem dX9_agreesWithSaid_51 : decode cX9_agreesWithSaid 51 = .ok (.iconst 1, 1) := by decide +kernel
theorem dX9_agreesWithSaid_52 : decode cX9_agreesWithSaid 52 = .ok (.if_icmp .ne 7, 3) := by decide +kernel
theorem dX9_agreesWithSaid_55 : decode cX9_agreesWithSaid 55 = .ok (.iconst 1, 1) := by decide +kernel
theorem dX9_agreesWithSaid_56 : decode cX9_agreesWithSaid 56 = .ok (.goto 4, 3) := by decide +kernel
theorem dX9_agreesWithSaid_59 : decode cX9_agreesWithSaid 59 = .ok (.iconst 0, 1) := by decide +kernel
theorem dX9_agreesWithSaid_60 : decode cX9_agreesWithSaid 60 = .ok (.if_icmp .eq 5, 3) := by decide +kernel
theorem dX9_agreesWithSaid_63 : decode cX9_agreesWithSaid 63 = .ok (.iconst 0, 1) := by decide +kernel
theorem dX9_agreesWithSaid_64 : decode cX9_agreesWithSaid 64 = .ok (.ireturn, 1) := by decide +kernel
theorem dX9_agreesWithSaid_65 : decode cX9_agreesWithSaid 65 = .ok (.iinc 2 1, 3) := by decide +kernel
theorem dX9_agreesWithSaid_68 : decode cX9_agreesWithSaid 68 = .ok (.goto (-66), 3) := by decide +kernel
theorem dX9_agreesWithSaid_71 : decode cX9_agreesWithSaid 71 = .ok (.iconst 1, 1) := by decide +kernel
theorem dX9_agreesWithSaid_72 : decode cX9_agreesWithSaid 72 = .ok (.ireturn, 1) := by decide +kernel
def g_X9_agreesWithSaid_2 (o1 : Nat) : Nat → xm → Int32 → Option ((xm) ⊕ (xm))
  | 0, _, _ => none
  | n + 1, M3, x2 => (if (8 : Int32) ≤ x2 then some (Sum.inr M3) else (if (M3 483 2) ≤ x2 then some (Sum.inr M3) else if xin x2 8 = true then xb2 (f_X3_picked (some o1) 1 M3 (M3 (483 + 1) (Int32.toNatClampNeg x2))) (fun v8 M9 => (if (M9 (483 + 2) (Int32.toNatClampNeg x2)) = (1 : Int32) then (if v8 = (1 : Int32) then xlet (x2 + (1 : Int32)) (fun v15 => g_X9_agreesWithSaid_2 o1 n M9 v15) else some (Sum.inl M9)) else (if v8 = (0 : Int32) then xlet (x2 + (1 : Int32)) (fun v13 => g_X9_agreesWithSaid_2 o1 n M9 v13) else some (Sum.inl M9)))) else none))
def f_X9_agreesWithSaid (u1 : Nat) (M : xm) : Option (Int32 × xm) := xs2 (g_X9_agreesWithSaid_2 u1 xfuel M (0 : Int32)) (fun q16 => some ((0 : Int32), q16)) (fun q16 => some ((1 : Int32), q16))
set_option maxHeartbeats 4000000 in
set_option maxRecDepth 20000 in
theorem j_X9_agreesWithSaid_2 {p : Program} {l : Launch} {e : Env} {s : State} {m : MethodId} {args : Array Value} {below : List Frame} {meth : Method} {c : Code} {Q : State → Prop} {E : xE} {b : Nat} (C : xC p s m args meth c cX9_agreesWithSaid 4 RX9 (some .boolean) E) {o1 : Nat} (L_o1 : lat o1 pText) {r : (xm) ⊕ (xm)}
    (kx0 : ∀ q : xm, r = Sum.inl q → ∀ (H : Heap) (locs : List Loc) (ls : Array Slot), xM E b NX (cX E b q) s.heap H locs → lv_has ls 4 [] → W p l e (xR 5) s m args below meth c H locs 0 0 Q (F0 m 63 ls []))
    (kx1 : ∀ q : xm, r = Sum.inr q → ∀ (H : Heap) (locs : List Loc) (ls : Array Slot), xM E b NX (cX E b q) s.heap H locs → lv_has ls 4 [] → W p l e (xR 5) s m args below meth c H locs 0 0 Q (F0 m 71 ls [])) :
    ∀ (n : Nat) (M3 : xm) (x2 : Int32) (H : Heap) (locs : List Loc) (ls : Array Slot), g_X9_agreesWithSaid_2 o1 n M3 x2 = some r → xM E b NX (cX E b M3) s.heap H locs → lv_has ls 4 [(0, .ref (b + 0)), (1, .ref (b + o1)), (2, .int x2)] → W p l e (xR 5) s m args below meth c H locs 0 0 Q (F0 m 2 ls []) := by
  have hx := C.1.1
  have hb := C.1.2.1
  intro n
  induction n with
  | zero =>
    intro M3 x2 H locs ls hf hm hl
    rw [g_X9_agreesWithSaid_2] at hf
    cases hf
  | succ n ih =>
    intro M3 x2 H locs ls hf hm hl
    rw [g_X9_agreesWithSaid_2] at hf
    refine lv_iload_n hx hb dX9_agreesWithSaid_2 rfl (lv_at hl 2 rfl) ?_
    refine lv_bipush (v := (8 : Int32)) hx hb dX9_agreesWithSaid_3 (by decide) ?_
    refine lv_icmp_ge (tgt := 71) hx hb dX9_agreesWithSaid_5 (by decide) (fun hc4 => ?_) (fun hc4 => ?_)
    · have hf := xif_t hc4 hf
      cases hf
      exact kx1 M3 rfl H locs ls hm (lv_sub hl [] rfl)
    have hf := xif_f hc4 hf
    refine lv_iload_n hx hb dX9_agreesWithSaid_8 rfl (lv_at hl 2 rfl) ?_
    refine lv_aload_n hx hb dX9_agreesWithSaid_9 rfl (lv_at hl 0 rfl) ?_
    refine x_get C hm inX9 rfl 2 (by decide) tf_RX9_26 (cx_ColouredHeap LX_top) rfl dX9_agreesWithSaid_10 ?_
    refine x_get C hm inX8 rfl 2 (by decide) tf_RX9_310 (cx_Told (LX_told 0 _ rfl)) rfl dX9_agreesWithSaid_13 ?_
    refine lv_icmp_ge (tgt := 71) hx hb dX9_agreesWithSaid_16 (by decide) (fun hc5 => ?_) (fun hc5 => ?_)
    · have hf := xif_t hc5 hf
      cases hf
      exact kx1 M3 rfl H locs ls hm (lv_sub hl [] rfl)
    have hf := xif_f hc5 hf
    refine lv_aload_n hx hb dX9_agreesWithSaid_19 rfl (lv_at hl 0 rfl) ?_
    refine x_get C hm inX9 rfl 9 (by decide) tf_RX9_59 (cx_ColouredHeap LX_top) rfl dX9_agreesWithSaid_20 ?_
    refine lv_aload_n hx hb dX9_agreesWithSaid_23 rfl (lv_at hl 1 rfl) ?_
    refine lv_aload_n hx hb dX9_agreesWithSaid_24 rfl (lv_at hl 0 rfl) ?_
    refine x_get C hm inX9 rfl 0 (by decide) tf_RX9_10 (cx_ColouredHeap LX_top) rfl dX9_agreesWithSaid_25 ?_
    refine lv_aload_n hx hb dX9_agreesWithSaid_28 rfl (lv_at hl 0 rfl) ?_
    refine x_get C hm inX9 rfl 2 (by decide) tf_RX9_26 (cx_ColouredHeap LX_top) rfl dX9_agreesWithSaid_29 ?_
    refine x_get C hm inX8 rfl 0 (by decide) tf_RX9_313 (cx_Told (LX_told 0 _ rfl)) rfl dX9_agreesWithSaid_32 ?_
    refine lv_iload_n hx hb dX9_agreesWithSaid_35 rfl (lv_at hl 2 rfl) ?_
    obtain ⟨hi6, hf⟩ := xif_s hf
    refine x_iald (j := (Int32.toNatClampNeg x2)) C hm (cx_I (LX_told 1 _ rfl)) hi6 dX9_agreesWithSaid_36 rfl ?_
    obtain ⟨v8, M9, hq7, hf⟩ := xb2_e hf
    refine x_callVi (As := [.ref (b + o1), .ref (b + 1), .int (M3 (483 + 1) (Int32.toNatClampNeg x2))]) (rest := []) C hm (c_X3_picked l E b (fun k h => by cases h; exact L_o1) LX_heap M3 (M3 (483 + 1) (Int32.toNatClampNeg x2)) hq7) rfl (cx_Law (LX_law 0 _ rfl)) tc_X3_picked tm_RX9_235 ti_X3_picked ts_X3_picked tn_RX3 td_X3_picked rfl rfl ⟨Nat.le_of_ble_eq_true rfl, Nat.le_of_ble_eq_true rfl⟩ rfl hl.1 rfl (Nat.le_of_ble_eq_true rfl) dX9_agreesWithSaid_37 (fun H locs hP10 hm => ?_)
    refine lv_istore_n (lv' := [(3, .int v8), (0, .ref (b + 0)), (1, .ref (b + o1)), (2, .int x2)]) hx hb dX9_agreesWithSaid_40 rfl hl (by decide) rfl (fun ls hl => ?_)
    refine lv_iload_n hx hb dX9_agreesWithSaid_41 rfl (lv_at hl 0 rfl) ?_
    refine lv_aload_n hx hb dX9_agreesWithSaid_42 rfl (lv_at hl 1 rfl) ?_
    refine x_get C hm inX9 rfl 2 (by decide) tf_RX9_26 (cx_ColouredHeap LX_top) rfl dX9_agreesWithSaid_43 ?_
    refine x_get C hm inX8 rfl 1 (by decide) tf_RX9_316 (cx_Told (LX_told 0 _ rfl)) rfl dX9_agreesWithSaid_46 ?_
    refine lv_iload_n hx hb dX9_agreesWithSaid_49 rfl (lv_at hl 3 rfl) ?_
    refine x_iald (j := (Int32.toNatClampNeg x2)) C hm (cx_I (LX_told 2 _ rfl)) hi6 dX9_agreesWithSaid_50 rfl ?_
    refine lv_iconst (v := (1 : Int32)) hx hb dX9_agreesWithSaid_51 (by decide) ?_
    refine lv_icmp_ne (tgt := 59) hx hb dX9_agreesWithSaid_52 (by decide) (fun hc11 => ?_) (fun hc11 => ?_)
    · have hf := xif_f hc11 hf
      refine lv_iconst (v := (0 : Int32)) hx hb dX9_agreesWithSaid_59 (by decide) ?_
      refine lv_icmp_eq (tgt := 65) hx hb dX9_agreesWithSaid_60 (by decide) (fun hc12 => ?_) (fun hc12 => ?_)
      rotate_left
      · have hf := xif_f hc12 hf
        cases hf
        exact kx0 M9 rfl H locs ls hm (lv_sub hl [] rfl)
      have hf := xif_t hc12 hf
      obtain ⟨v13, ev13, hf⟩ := xlet_x hf
      refine lv_iinc (v := v13) (lv' := [(2, .int v13), (3, .int v8), (0, .ref (b + 0)), (1, .ref (b + o1))]) hx hb dX9_agreesWithSaid_65 hl (k := 3) rfl (by rw [ev13]; rfl) (by decide) rfl (fun ls hl => ?_)
      refine lv_goto (tgt := 2) hx hb dX9_agreesWithSaid_68 (by decide) ?_
      exact ih M9 v13 H locs ls hf hm (lv_sub hl [2, 3, 0] rfl)
    have hf := xif_t hc11 hf
    refine lv_iconst (v := (1 : Int32)) hx hb dX9_agreesWithSaid_55 (by decide) ?_
    refine lv_goto (tgt := 60) hx hb dX9_agreesWithSaid_56 (by decide) ?_
    refine lv_icmp_eq (tgt := 65) hx hb dX9_agreesWithSaid_60 (by decide) (fun hc14 => ?_) (fun hc14 => ?_)
    rotate_left
    · have hf := xif_f hc14 hf
      cases hf
      exact kx0 M9 rfl H locs ls hm (lv_sub hl [] rfl)
    have hf := xif_t hc14 hf
    obtain ⟨v15, ev15, hf⟩ := xlet_x hf
    refine lv_iinc (v := v15) (lv' := [(2, .int v15), (3, .int v8), (0, .ref (b + 0)), (1, .ref (b + o1))]) hx hb dX9_agreesWithSaid_65 hl (k := 3) rfl (by rw [ev15]; rfl) (by decide) rfl (fun ls hl => ?_)
    refine lv_goto (tgt := 2) hx hb dX9_agreesWithSaid_68 (by decide) ?_
    exact ih M9 v15 H locs ls hf hm (lv_sub hl [2, 3, 0] rfl)
set_option maxHeartbeats 4000000 in
set_option maxRecDepth 20000 in
theorem c_X9_agreesWithSaid (l : Launch) (E : xE) (b : Nat) {u1 : Nat} (L_u1 : lat u1 pText) (M : xm) {r : Int32} {M' : xm} (hf : f_X9_agreesWithSaid u1 M = some (r, M')) :
    xMet l E b NX yX9_agreesWithSaid cX9_agreesWithSaid 4 (some .boolean) (xR 5) [.ref (b + 0), .ref (b + u1)] (cX E b M) (some (.int r)) (xbo r = true) (cX E b M') := by
  refine xMet.ofW (own := RX9) (by decide) rfl (Nat.le_of_ble_eq_true rfl) ?_
  intro p e s m below meth c H locs ls C hm hl
  have hx := C.1.1
  have hb := C.1.2.1
  have hl : lv_has ls 4 [(0, .ref (b + 0)), (1, .ref (b + u1))] := hl
  unfold f_X9_agreesWithSaid at hf
  refine lv_iconst (v := (0 : Int32)) hx hb dX9_agreesWithSaid_0 (by decide) ?_
  refine lv_istore_n (lv' := [(2, .int (0 : Int32)), (0, .ref (b + 0)), (1, .ref (b + u1))]) hx hb dX9_agreesWithSaid_1 rfl hl (by decide) rfl (fun ls hl => ?_)
  rcases xs2_e hf with ⟨q16, hq, hf⟩ | ⟨q16, hq, hf⟩
  · refine j_X9_agreesWithSaid_2 C L_u1 (r := Sum.inl q16) (fun q2 hr H locs ls hm hl => ?_) (fun q2 hr => by cases hr) xfuel M (0 : Int32) H locs ls hq hm (lv_sub hl [1, 2, 0] rfl)
    cases hr
    refine lv_iconst (v := (0 : Int32)) hx hb dX9_agreesWithSaid_63 (by decide) ?_
    cases hf
    exact x_zret C hm (by decide) (by decide) dX9_agreesWithSaid_64
  · refine j_X9_agreesWithSaid_2 C L_u1 (r := Sum.inr q16) (fun q2 hr => by cases hr) (fun q2 hr H locs ls hm hl => ?_) xfuel M (0 : Int32) H locs ls hq hm (lv_sub hl [1, 2, 0] rfl)
    cases hr
    refine lv_iconst (v := (1 : Int32)) hx hb dX9_agreesWithSaid_71 (by decide) ?_
    cases hf
    exact x_zret C hm (by decide) (by decide) dX9_agreesWithSaid_72
/-! ColouredHeap.alike()I -/
theorem dX9_alike_0 : decode cX9_alike 0 = .ok (.aload_n 0, 1) := by decide +kernel
theorem dX9_alike_1 : decode cX9_alike 1 = .ok (.getfield 10, 3) := by decide +kernel
theorem dX9_alike_4 : decode cX9_alike 4 = .ok (.invokevirtual 298, 3) := by decide +kernel
theorem dX9_alike_7 : decode cX9_alike 7 = .ok (.iconst 3, 1) := by decide +kernel
theorem dX9_alike_8 : decode cX9_alike 8 = .ok (.if_icmp .eq 5, 3) := by decide +kernel
theorem dX9_alike_11 : decode cX9_alike 11 = .ok (.iconst (-1), 1) := by decide +kernel
theorem dX9_alike_12 : decode cX9_alike 12 = .ok (.ireturn, 1) := by decide +kernel
theorem dX9_alike_13 : decode cX9_alike 13 = .ok (.aload_n 0, 1) := by decide +kernel
theorem dX9_alike_14 : decode cX9_alike 14 = .ok (.iconst 0, 1) := by decide +kernel
theorem dX9_alike_15 : decode cX9_alike 15 = .ok (.invokevirtual 301, 3) := by decide +kernel
theorem dX9_alike_18 : decode cX9_alike 18 = .ok (.ifCond .eq 15, 3) := by decide +kernel
theorem dX9_alike_21 : decode cX9_alike 21 = .ok (.aload_n 0, 1) := by decide +kernel
theorem dX9_alike_22 : decode cX9_alike 22 = .ok (.iconst 1, 1) := by decide +kernel
theorem dX9_alike_23 : decode cX9_alike 23 = .ok (.invokevirtual 301, 3) := by decide +kernel
theorem dX9_alike_26 : decode cX9_alike 26 = .ok (.ifCond .eq 7, 3) := by decide +kernel
theorem dX9_alike_29 : decode cX9_alike 29 = .ok (.iconst 1, 1) := by decide +kernel
theorem dX9_alike_30 : decode cX9_alike 30 = .ok (.goto 4, 3) := by decide +kernel
theorem dX9_alike_33 : decode cX9_alike 33 = .ok (.iconst 0, 1) := by decide +kernel
theorem dX9_alike_34 : decode cX9_alike 34 = .ok (.ireturn, 1) := by decide +kernel
def f_X9_alike (M : xm) : Option (Int32 × xm) := xb1 (f_X1_threadsBegun 1 M) (fun v2 => (if v2 = (3 : Int32) then xb2 (f_X9_agreesWhenFirst M (0 : Int32)) (fun v6 M7 => (if v6 = 0 then some ((0 : Int32), M7) else xb2 (f_X9_agreesWhenFirst M7 (1 : Int32)) (fun v11 M12 => (if v11 = 0 then some ((0 : Int32), M12) else some ((1 : Int32), M12))))) else some ((-1 : Int32), M)))
set_option maxHeartbeats 4000000 in
set_option maxRecDepth 20000 in
theorem c_X9_alike (l : Launch) (E : xE) (b : Nat) (M : xm) {r : Int32} {M' : xm} (hf : f_X9_alike M = some (r, M')) :
    xMet l E b NX yX9_alike cX9_alike 1 (some .int) (xR 7) [.ref (b + 0)] (cX E b M) (some (.int r)) True (cX E b M') := by
  refine xMet.ofW (own := RX9) (by decide) rfl (Nat.le_of_ble_eq_true rfl) ?_
  intro p e s m below meth c H locs ls C hm hl
  have hx := C.1.1
  have hb := C.1.2.1
  have hl : lv_has ls 1 [(0, .ref (b + 0))] := hl
  unfold f_X9_alike at hf
  refine lv_aload_n hx hb dX9_alike_0 rfl (lv_at hl 0 rfl) ?_
  refine x_get C hm inX9 rfl 0 (by decide) tf_RX9_10 (cx_ColouredHeap LX_top) rfl dX9_alike_1 ?_
  obtain ⟨v2, hq1, hf⟩ := xb1_e hf
  refine x_callVi (As := []) (rest := []) C hm (c_X1_threadsBegun l E b LX_heap M hq1) rfl (cx_Heap (LX_heap 0 _ rfl)) tc_X1_threadsBegun tm_RX9_298 ti_X1_threadsBegun ts_X1_threadsBegun tn_RX1 td_X1_threadsBegun rfl rfl ⟨Nat.le_of_ble_eq_true rfl, Nat.le_of_ble_eq_true rfl⟩ rfl hl.1 rfl (Nat.le_of_ble_eq_true rfl) dX9_alike_4 (fun H locs hP3 hm => ?_)
  refine lv_iconst (v := (3 : Int32)) hx hb dX9_alike_7 (by decide) ?_
  refine lv_icmp_eq (tgt := 13) hx hb dX9_alike_8 (by decide) (fun hc4 => ?_) (fun hc4 => ?_)
  rotate_left
  · have hf := xif_f hc4 hf
    refine lv_iconst (v := (-1 : Int32)) hx hb dX9_alike_11 (by decide) ?_
    cases hf
    exact x_iret C hm trivial dX9_alike_12
  have hf := xif_t hc4 hf
  refine lv_aload_n hx hb dX9_alike_13 rfl (lv_at hl 0 rfl) ?_
  refine lv_iconst (v := (0 : Int32)) hx hb dX9_alike_14 (by decide) ?_
  obtain ⟨v6, M7, hq5, hf⟩ := xb2_e hf
  refine x_callVi (As := [.int (0 : Int32)]) (rest := []) C hm (c_X9_agreesWhenFirst l E b M (0 : Int32) hq5) rfl (cx_ColouredHeap LX_top) tc_X9_agreesWhenFirst tm_RX9_301 ti_X9_agreesWhenFirst ts_X9_agreesWhenFirst tn_RX9 td_X9_agreesWhenFirst rfl rfl ⟨Nat.le_of_ble_eq_true rfl, Nat.le_of_ble_eq_true rfl⟩ rfl hl.1 rfl (Nat.le_of_ble_eq_true rfl) dX9_alike_15 (fun H locs hP8 hm => ?_)
  refine lv_if_eq (tgt := 33) hx hb dX9_alike_18 (by decide) (fun hc9 => ?_) (fun hc9 => ?_)
  · have hf := xif_t hc9 hf
    refine lv_iconst (v := (0 : Int32)) hx hb dX9_alike_33 (by decide) ?_
    cases hf
    exact x_iret C hm trivial dX9_alike_34
  have hf := xif_f hc9 hf
  refine lv_aload_n hx hb dX9_alike_21 rfl (lv_at hl 0 rfl) ?_
  refine lv_iconst (v := (1 : Int32)) hx hb dX9_alike_22 (by decide) ?_
  obtain ⟨v11, M12, hq10, hf⟩ := xb2_e hf
  refine x_callVi (As := [.int (1 : Int32)]) (rest := []) C hm (c_X9_agreesWhenFirst l E b M7 (1 : Int32) hq10) rfl (cx_ColouredHeap LX_top) tc_X9_agreesWhenFirst tm_RX9_301 ti_X9_agreesWhenFirst ts_X9_agreesWhenFirst tn_RX9 td_X9_agreesWhenFirst rfl rfl ⟨Nat.le_of_ble_eq_true rfl, Nat.le_of_ble_eq_true rfl⟩ rfl hl.1 rfl (Nat.le_of_ble_eq_true rfl) dX9_alike_23 (fun H locs hP13 hm => ?_)
  refine lv_if_eq (tgt := 33) hx hb dX9_alike_26 (by decide) (fun hc14 => ?_) (fun hc14 => ?_)
  · have hf := xif_t hc14 hf
    refine lv_iconst (v := (0 : Int32)) hx hb dX9_alike_33 (by decide) ?_
    cases hf
    exact x_iret C hm trivial dX9_alike_34
  have hf := xif_f hc14 hf
  refine lv_iconst (v := (1 : Int32)) hx hb dX9_alike_29 (by decide) ?_
  refine lv_goto (tgt := 34) hx hb dX9_alike_30 (by decide) ?_
  cases hf
  exact x_iret C hm trivial dX9_alike_34
