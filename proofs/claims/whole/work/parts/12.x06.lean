/-! ColouredHeap$Reader.lawClause(I)V -/
theorem dX4_lawClause_0 : decode cX4_lawClause 0 = .ok (.iload_n 1, 1) := by decide +kernel
theorem dX4_lawClause_1 : decode cX4_lawClause 1 = .ok (.ifCond .lt 8, 3) := by decide +kernel
theorem dX4_lawClause_4 : decode cX4_lawClause 4 = .ok (.iload_n 1, 1) := by decide +kernel
theorem dX4_lawClause_5 : decode cX4_lawClause 5 = .ok (.iconst 2, 1) := by decide +kernel
theorem dX4_lawClause_6 : decode cX4_lawClause 6 = .ok (.if_icmp .lt 4, 3) := by decide +kernel
theorem dX4_lawClause_9 : decode cX4_lawClause 9 = .ok (.return_, 1) := by decide +kernel
theorem dX4_lawClause_10 : decode cX4_lawClause 10 = .ok (.aload_n 0, 1) := by decide +kernel
theorem dX4_lawClause_11 : decode cX4_lawClause 11 = .ok (.iload_n 1, 1) := by decide +kernel
theorem dX4_lawClause_12 : decode cX4_lawClause 12 = .ok (.putfield 47, 3) := by decide +kernel
theorem dX4_lawClause_15 : decode cX4_lawClause 15 = .ok (.aload_n 0, 1) := by decide +kernel
theorem dX4_lawClause_16 : decode cX4_lawClause 16 = .ok (.getfield 27, 3) := by decide +kernel
theorem dX4_lawClause_19 : decode cX4_lawClause 19 = .ok (.getfield 136, 3) := by decide +kernel
theorem dX4_lawClause_22 : decode cX4_lawClause 22 = .ok (.iload_n 1, 1) := by decide +kernel
theorem dX4_lawClause_23 : decode cX4_lawClause 23 = .ok (.aload_n 0, 1) := by decide +kernel
theorem dX4_lawClause_24 : decode cX4_lawClause 24 = .ok (.getfield 27, 3) := by decide +kernel
theorem dX4_lawClause_27 : decode cX4_lawClause 27 = .ok (.getfield 139, 3) := by decide +kernel
theorem dX4_lawClause_30 : decode cX4_lawClause 30 = .ok (.iastore, 1) := by decide +kernel
theorem dX4_lawClause_31 : decode cX4_lawClause 31 = .ok (.aload_n 0, 1) := by decide +kernel
theorem dX4_lawClause_32 : decode cX4_lawClause 32 = .ok (.iconst 0, 1) := by decide +kernel
theorem dX4_lawClause_33 : decode cX4_lawClause 33 = .ok (.invokevirtual 142, 3) := by decide +kernel
theorem dX4_lawClause_36 : decode cX4_lawClause 36 = .ok (.aload_n 0, 1) := by decide +kernel
theorem dX4_lawClause_37 : decode cX4_lawClause 37 = .ok (.getfield 27, 3) := by decide +kernel
theorem dX4_lawClause_40 : decode cX4_lawClause 40 = .ok (.getfield 145, 3) := by decide +kernel
theorem dX4_lawClause_43 : decode cX4_lawClause 43 = .ok (.iload_n 1, 1) := by decide +kernel
theorem dX4_lawClause_44 : decode cX4_lawClause 44 = .ok (.aload_n 0, 1) := by decide +kernel
theorem dX4_lawClause_45 : decode cX4_lawClause 45 = .ok (.getfield 27, 3) := by decide +kernel
theorem dX4_lawClause_48 : decode cX4_lawClause 48 = .ok (.getfield 139, 3) := by decide +kernel
theorem dX4_lawClause_51 : decode cX4_lawClause 51 = .ok (.iastore, 1) := by decide +kernel
theorem dX4_lawClause_52 : decode cX4_lawClause 52 = .ok (.aload_n 0, 1) := by decide +kernel
theorem dX4_lawClause_53 : decode cX4_lawClause 53 = .ok (.getfield 27, 3) := by decide +kernel
theorem dX4_lawClause_56 : decode cX4_lawClause 56 = .ok (.iload_n 1, 1) := by decide +kernel
theorem dX4_lawClause_57 : decode cX4_lawClause 57 = .ok (.iconst 0, 1) := by decide +kernel
theorem dX4_lawClause_58 : decode cX4_lawClause 58 = .ok (.iconst 0, 1) := by decide +kernel
theorem dX4_lawClause_59 : decode cX4_lawClause 59 = .ok (.iconst 0, 1) := by decide +kernel
theorem dX4_lawClause_60 : decode cX4_lawClause 60 = .ok (.invokevirtual 148, 3) := by decide +kernel
theorem dX4_lawClause_63 : decode cX4_lawClause 63 = .ok (.return_, 1) := by decide +kernel
def f_X4_lawClause (M : xm) (a1 : Int32) : Option (xm) := (if a1 < 0 then some M else (if a1 < (2 : Int32) then xlet (up2 M 990 10 a1) (fun M3 => if xin a1 2 = true then xlet (up2 M3 ((990 + 5) + 7) (Int32.toNatClampNeg a1) (M3 (990 + 5) 9)) (fun M5 => xb1 (f_X4_sum M5 (0 : Int32)) (fun M7 => xlet (up2 M7 ((990 + 5) + 8) (Int32.toNatClampNeg a1) (M7 (990 + 5) 9)) (fun M9 => xb1 (f_X7_addClause (990 + 5) M9 a1 (0 : Int32) (0 : Int32) (0 : Int32)) (fun M11 => some M11)))) else none) else some M))
set_option maxHeartbeats 4000000 in
set_option maxRecDepth 20000 in
theorem c_X4_lawClause (l : Launch) (E : xE) (b : Nat) (M : xm) (a1 : Int32) {M' : xm} (hf : f_X4_lawClause M a1 = some M') :
    xMet l E b NX yX4_lawClause cX4_lawClause 2 none (xR 209) [.ref (b + 990), .int a1] (cX E b M) none True (cX E b M') := by
  refine xMet.ofW (own := RX4) (by decide) rfl (Nat.le_of_ble_eq_true rfl) ?_
  intro p e s m below meth c H locs ls C hm hl
  have hx := C.1.1
  have hb := C.1.2.1
  have hl : lv_has ls 2 [(0, .ref (b + 990)), (1, .int a1)] := hl
  unfold f_X4_lawClause at hf
  refine lv_iload_n hx hb dX4_lawClause_0 rfl (lv_at hl 1 rfl) ?_
  refine lv_if_lt (tgt := 9) hx hb dX4_lawClause_1 (by decide) (fun hc1 => ?_) (fun hc1 => ?_)
  · have hf := xif_t hc1 hf
    cases hf
    exact x_vret C hm trivial dX4_lawClause_9
  have hf := xif_f hc1 hf
  refine lv_iload_n hx hb dX4_lawClause_4 rfl (lv_at hl 1 rfl) ?_
  refine lv_iconst (v := (2 : Int32)) hx hb dX4_lawClause_5 (by decide) ?_
  refine lv_icmp_lt (tgt := 10) hx hb dX4_lawClause_6 (by decide) (fun hc2 => ?_) (fun hc2 => ?_)
  rotate_left
  · have hf := xif_f hc2 hf
    cases hf
    exact x_vret C hm trivial dX4_lawClause_9
  have hf := xif_t hc2 hf
  refine lv_aload_n hx hb dX4_lawClause_10 rfl (lv_at hl 0 rfl) ?_
  refine lv_iload_n hx hb dX4_lawClause_11 rfl (lv_at hl 1 rfl) ?_
  obtain ⟨M3, eM3, hf⟩ := xlet_x hf
  refine x_put (cf' := cX E b M3) C hm inX4 tyX4 tyX4_ok nmX4 rfl 10 (by decide) tf_RX4_47 rfl rfl rfl (cx_Reader (LX_reader 0 _ rfl)) (Nat.le_of_ble_eq_true rfl) (by rw [eM3]; exact cu_Reader_10 (LX_reader 0 _ rfl)) (by rw [eM3]; exact cX_o) dX4_lawClause_12 (fun H locs hm => ?_)
  refine lv_aload_n hx hb dX4_lawClause_15 rfl (lv_at hl 0 rfl) ?_
  refine x_get C hm inX4 rfl 4 (by decide) tf_RX4_27 (cx_Reader (LX_reader 0 _ rfl)) rfl dX4_lawClause_16 ?_
  refine x_get C hm inX7 rfl 6 (by decide) tf_RX4_136 (cx_Text ((lat_draft LX_reader) 0 _ rfl)) rfl dX4_lawClause_19 ?_
  refine lv_iload_n hx hb dX4_lawClause_22 rfl (lv_at hl 1 rfl) ?_
  refine lv_aload_n hx hb dX4_lawClause_23 rfl (lv_at hl 0 rfl) ?_
  refine x_get C hm inX4 rfl 4 (by decide) tf_RX4_27 (cx_Reader (LX_reader 0 _ rfl)) rfl dX4_lawClause_24 ?_
  refine x_get C hm inX7 rfl 9 (by decide) tf_RX4_139 (cx_Text ((lat_draft LX_reader) 0 _ rfl)) rfl dX4_lawClause_27 ?_
  obtain ⟨hi4, hf⟩ := xif_s hf
  obtain ⟨M5, eM5, hf⟩ := xlet_x hf
  refine x_iast (j := (Int32.toNatClampNeg a1)) (cf' := cX E b M5) C hm (cx_I ((lat_draft LX_reader) 7 _ rfl)) hi4 dX4_lawClause_30 rfl (by rw [eM5]; exact cu_I ((lat_draft LX_reader) 7 _ rfl)) (by rw [eM5]; exact cX_o) (fun H locs hm => ?_)
  refine lv_aload_n hx hb dX4_lawClause_31 rfl (lv_at hl 0 rfl) ?_
  refine lv_iconst (v := (0 : Int32)) hx hb dX4_lawClause_32 (by decide) ?_
  obtain ⟨M7, hq6, hf⟩ := xb1_e hf
  refine x_callVv (As := [.int (0 : Int32)]) (rest := []) C hm (c_X4_sum l E b M5 (0 : Int32) hq6) rfl (cx_Reader (LX_reader 0 _ rfl)) tc_X4_sum tm_RX4_142 ti_X4_sum ts_X4_sum tn_RX4 td_X4_sum rfl rfl ⟨Nat.le_of_ble_eq_true rfl, Nat.le_of_ble_eq_true rfl⟩ rfl hl.1 rfl (Nat.le_of_ble_eq_true rfl) ⟨Nat.zero_le _, Nat.zero_le _⟩ dX4_lawClause_33 (fun H locs hP8 hm => ?_)
  refine lv_aload_n hx hb dX4_lawClause_36 rfl (lv_at hl 0 rfl) ?_
  refine x_get C hm inX4 rfl 4 (by decide) tf_RX4_27 (cx_Reader (LX_reader 0 _ rfl)) rfl dX4_lawClause_37 ?_
  refine x_get C hm inX7 rfl 7 (by decide) tf_RX4_145 (cx_Text ((lat_draft LX_reader) 0 _ rfl)) rfl dX4_lawClause_40 ?_
  refine lv_iload_n hx hb dX4_lawClause_43 rfl (lv_at hl 1 rfl) ?_
  refine lv_aload_n hx hb dX4_lawClause_44 rfl (lv_at hl 0 rfl) ?_
  refine x_get C hm inX4 rfl 4 (by decide) tf_RX4_27 (cx_Reader (LX_reader 0 _ rfl)) rfl dX4_lawClause_45 ?_
  refine x_get C hm inX7 rfl 9 (by decide) tf_RX4_139 (cx_Text ((lat_draft LX_reader) 0 _ rfl)) rfl dX4_lawClause_48 ?_
  obtain ⟨M9, eM9, hf⟩ := xlet_x hf
  refine x_iast (j := (Int32.toNatClampNeg a1)) (cf' := cX E b M9) C hm (cx_I ((lat_draft LX_reader) 8 _ rfl)) hi4 dX4_lawClause_51 rfl (by rw [eM9]; exact cu_I ((lat_draft LX_reader) 8 _ rfl)) (by rw [eM9]; exact cX_o) (fun H locs hm => ?_)
  refine lv_aload_n hx hb dX4_lawClause_52 rfl (lv_at hl 0 rfl) ?_
  refine x_get C hm inX4 rfl 4 (by decide) tf_RX4_27 (cx_Reader (LX_reader 0 _ rfl)) rfl dX4_lawClause_53 ?_
  refine lv_iload_n hx hb dX4_lawClause_56 rfl (lv_at hl 1 rfl) ?_
  refine lv_iconst (v := (0 : Int32)) hx hb dX4_lawClause_57 (by decide) ?_
  refine lv_iconst (v := (0 : Int32)) hx hb dX4_lawClause_58 (by decide) ?_
  refine lv_iconst (v := (0 : Int32)) hx hb dX4_lawClause_59 (by decide) ?_
  obtain ⟨M11, hq10, hf⟩ := xb1_e hf
  refine x_callVv (As := [.int a1, .int (0 : Int32), .int (0 : Int32), .int (0 : Int32)]) (rest := []) C hm (c_X7_addClause l E b (lat_draft LX_reader) M9 a1 (0 : Int32) (0 : Int32) (0 : Int32) hq10) rfl (cx_Text ((lat_draft LX_reader) 0 _ rfl)) tc_X7_addClause tm_RX4_148 ti_X7_addClause ts_X7_addClause tn_RX7 td_X7_addClause rfl rfl ⟨Nat.le_of_ble_eq_true rfl, Nat.le_of_ble_eq_true rfl⟩ rfl hl.1 rfl (Nat.le_of_ble_eq_true rfl) ⟨Nat.zero_le _, Nat.zero_le _⟩ dX4_lawClause_60 (fun H locs hP12 hm => ?_)
  cases hf
  exact x_vret C hm trivial dX4_lawClause_63
/-! ColouredHeap$Reader.clause()V -/
theorem dX4_clause_0 : decode cX4_clause 0 = .ok (.aload_n 0, 1) := by decide +kernel
theorem dX4_clause_1 : decode cX4_clause 1 = .ok (.invokevirtual 111, 3) := by decide +kernel
theorem dX4_clause_4 : decode cX4_clause 4 = .ok (.istore_n 1, 1) := by decide +kernel
theorem dX4_clause_5 : decode cX4_clause 5 = .ok (.iload_n 1, 1) := by decide +kernel
theorem dX4_clause_6 : decode cX4_clause 6 = .ok (.bipush 6, 2) := by decide +kernel
theorem dX4_clause_8 : decode cX4_clause 8 = .ok (.if_icmp .le 11, 3) := by decide +kernel
theorem dX4_clause_11 : decode cX4_clause 11 = .ok (.aload_n 0, 1) := by decide +kernel
theorem dX4_clause_12 : decode cX4_clause 12 = .ok (.iconst 1, 1) := by decide +kernel
theorem dX4_clause_13 : decode cX4_clause 13 = .ok (.invokevirtual 114, 3) := by decide +kernel
theorem dX4_clause_16 : decode cX4_clause 16 = .ok (.goto 77, 3) := by decide +kernel
theorem dX4_clause_19 : decode cX4_clause 19 = .ok (.aload_n 0, 1) := by decide +kernel
theorem dX4_clause_20 : decode cX4_clause 20 = .ok (.getfield 27, 3) := by decide +kernel
theorem dX4_clause_23 : decode cX4_clause 23 = .ok (.iload_n 1, 1) := by decide +kernel
theorem dX4_clause_24 : decode cX4_clause 24 = .ok (.invokevirtual 121, 3) := by decide +kernel
theorem dX4_clause_27 : decode cX4_clause 27 = .ok (.ifCond .eq 11, 3) := by decide +kernel
theorem dX4_clause_30 : decode cX4_clause 30 = .ok (.aload_n 0, 1) := by decide +kernel
theorem dX4_clause_31 : decode cX4_clause 31 = .ok (.iconst 4, 1) := by decide +kernel
theorem dX4_clause_32 : decode cX4_clause 32 = .ok (.invokevirtual 114, 3) := by decide +kernel
theorem dX4_clause_35 : decode cX4_clause 35 = .ok (.goto 58, 3) := by decide +kernel
theorem dX4_clause_38 : decode cX4_clause 38 = .ok (.aload_n 0, 1) := by decide +kernel
theorem dX4_clause_39 : decode cX4_clause 39 = .ok (.getfield 27, 3) := by decide +kernel
theorem dX4_clause_42 : decode cX4_clause 42 = .ok (.getfield 124, 3) := by decide +kernel
theorem dX4_clause_45 : decode cX4_clause 45 = .ok (.bipush 24, 2) := by decide +kernel
theorem dX4_clause_47 : decode cX4_clause 47 = .ok (.if_icmp .lt 12, 3) := by decide +kernel
theorem dX4_clause_50 : decode cX4_clause 50 = .ok (.aload_n 0, 1) := by decide +kernel
theorem dX4_clause_51 : decode cX4_clause 51 = .ok (.bipush 6, 2) := by decide +kernel
theorem dX4_clause_53 : decode cX4_clause 53 = .ok (.invokevirtual 114, 3) := by decide +kernel
theorem dX4_clause_56 : decode cX4_clause 56 = .ok (.goto 37, 3) := by decide +kernel
theorem dX4_clause_59 : decode cX4_clause 59 = .ok (.aload_n 0, 1) := by decide +kernel
theorem dX4_clause_60 : decode cX4_clause 60 = .ok (.dup, 1) := by decide +kernel
theorem dX4_clause_61 : decode cX4_clause 61 = .ok (.getfield 44, 3) := by decide +kernel
theorem dX4_clause_64 : decode cX4_clause 64 = .ok (.iconst 1, 1) := by decide +kernel
theorem dX4_clause_65 : decode cX4_clause 65 = .ok (.iadd, 1) := by decide +kernel
theorem dX4_clause_66 : decode cX4_clause 66 = .ok (.putfield 44, 3) := by decide +kernel
theorem dX4_clause_69 : decode cX4_clause 69 = .ok (.iload_n 1, 1) := by decide +kernel
theorem dX4_clause_70 : decode cX4_clause 70 = .ok (.iconst 1, 1) := by decide +kernel
theorem dX4_clause_71 : decode cX4_clause 71 = .ok (.if_icmp .gt 11, 3) := by decide +kernel
theorem dX4_clause_74 : decode cX4_clause 74 = .ok (.aload_n 0, 1) := by decide +kernel
theorem dX4_clause_75 : decode cX4_clause 75 = .ok (.iload_n 1, 1) := by decide +kernel
theorem dX4_clause_76 : decode cX4_clause 76 = .ok (.invokevirtual 127, 3) := by decide +kernel
theorem dX4_clause_79 : decode cX4_clause 79 = .ok (.goto 8, 3) := by decide +kernel
theorem dX4_clause_82 : decode cX4_clause 82 = .ok (.aload_n 0, 1) := by decide +kernel
theorem dX4_clause_83 : decode cX4_clause 83 = .ok (.iload_n 1, 1) := by decide +kernel
theorem dX4_clause_84 : decode cX4_clause 84 = .ok (.invokevirtual 130, 3) := by decide +kernel
theorem dX4_clause_87 : decode cX4_clause 87 = .ok (.aload_n 0, 1) := by decide +kernel
theorem dX4_clause_88 : decode cX4_clause 88 = .ok (.bipush 37, 2) := by decide +kernel
theorem dX4_clause_90 : decode cX4_clause 90 = .ok (.invokevirtual 133, 3) := by decide +kernel
theorem dX4_clause_93 : decode cX4_clause 93 = .ok (.return_, 1) := by decide +kernel
def f_X4_clause (M : xm) : Option (xm) := xb1 (f_X4_nextKind M) (fun v2 => (if v2 ≤ (6 : Int32) then xb1 (f_X7_hasLaw (990 + 5) M v2) (fun v6 => (if v6 = 0 then (if (M (990 + 5) 8) < (24 : Int32) then xlet (up2 M 990 9 ((M 990 9) + (1 : Int32))) (fun M10 => (if (1 : Int32) < v2 then xb1 (f_X4_deedClause M10 v2) (fun M13 => xb1 (f_X4_want M13 (37 : Int32)) (fun M16 => some M16)) else xb1 (f_X4_lawClause M10 v2) (fun M19 => xb1 (f_X4_want M19 (37 : Int32)) (fun M22 => some M22)))) else xb1 (f_X4_refuse M (6 : Int32)) (fun M25 => some M25)) else xb1 (f_X4_refuse M (4 : Int32)) (fun M28 => some M28))) else xb1 (f_X4_refuse M (1 : Int32)) (fun M31 => some M31)))
set_option maxHeartbeats 4000000 in
set_option maxRecDepth 20000 in
theorem c_X4_clause (l : Launch) (E : xE) (b : Nat) (M : xm) {M' : xm} (hf : f_X4_clause M = some M') :
    xMet l E b NX yX4_clause cX4_clause 2 none (xR 210) [.ref (b + 990)] (cX E b M) none True (cX E b M') := by
  refine xMet.ofW (own := RX4) (by decide) rfl (Nat.le_of_ble_eq_true rfl) ?_
  intro p e s m below meth c H locs ls C hm hl
  have hx := C.1.1
  have hb := C.1.2.1
  have hl : lv_has ls 2 [(0, .ref (b + 990))] := hl
  unfold f_X4_clause at hf
  refine lv_aload_n hx hb dX4_clause_0 rfl (lv_at hl 0 rfl) ?_
  obtain ⟨v2, hq1, hf⟩ := xb1_e hf
  refine x_callVi (As := []) (rest := []) C hm (c_X4_nextKind l E b M hq1) rfl (cx_Reader (LX_reader 0 _ rfl)) tc_X4_nextKind tm_RX4_111 ti_X4_nextKind ts_X4_nextKind tn_RX4 td_X4_nextKind rfl rfl ⟨Nat.le_of_ble_eq_true rfl, Nat.le_of_ble_eq_true rfl⟩ rfl hl.1 rfl (Nat.le_of_ble_eq_true rfl) ⟨Nat.zero_le _, Nat.zero_le _⟩ dX4_clause_1 (fun H locs hP3 hm => ?_)
  refine lv_istore_n (lv' := [(1, .int v2), (0, .ref (b + 990))]) hx hb dX4_clause_4 rfl hl (by decide) rfl (fun ls hl => ?_)
  refine lv_iload_n hx hb dX4_clause_5 rfl (lv_at hl 0 rfl) ?_
  refine lv_bipush (v := (6 : Int32)) hx hb dX4_clause_6 (by decide) ?_
  refine lv_icmp_le (tgt := 19) hx hb dX4_clause_8 (by decide) (fun hc4 => ?_) (fun hc4 => ?_)
  rotate_left
  · have hf := xif_f hc4 hf
    refine lv_aload_n hx hb dX4_clause_11 rfl (lv_at hl 1 rfl) ?_
    refine lv_iconst (v := (1 : Int32)) hx hb dX4_clause_12 (by decide) ?_
    obtain ⟨M31, hq30, hf⟩ := xb1_e hf
    refine x_callVv (As := [.int (1 : Int32)]) (rest := []) C hm (c_X4_refuse l E b M (1 : Int32) hq30) rfl (cx_Reader (LX_reader 0 _ rfl)) tc_X4_refuse tm_RX4_114 ti_X4_refuse ts_X4_refuse tn_RX4 td_X4_refuse rfl rfl ⟨Nat.le_of_ble_eq_true rfl, Nat.le_of_ble_eq_true rfl⟩ rfl hl.1 rfl (Nat.le_of_ble_eq_true rfl) ⟨Nat.zero_le _, Nat.zero_le _⟩ dX4_clause_13 (fun H locs hP32 hm => ?_)
    refine lv_goto (tgt := 93) hx hb dX4_clause_16 (by decide) ?_
    cases hf
    exact x_vret C hm trivial dX4_clause_93
  have hf := xif_t hc4 hf
  refine lv_aload_n hx hb dX4_clause_19 rfl (lv_at hl 1 rfl) ?_
  refine x_get C hm inX4 rfl 4 (by decide) tf_RX4_27 (cx_Reader (LX_reader 0 _ rfl)) rfl dX4_clause_20 ?_
  refine lv_iload_n hx hb dX4_clause_23 rfl (lv_at hl 0 rfl) ?_
  obtain ⟨v6, hq5, hf⟩ := xb1_e hf
  refine x_callVi (As := [.int v2]) (rest := []) C hm (c_X7_hasLaw l E b (lat_draft LX_reader) M v2 hq5) rfl (cx_Text ((lat_draft LX_reader) 0 _ rfl)) tc_X7_hasLaw tm_RX4_121 ti_X7_hasLaw ts_X7_hasLaw tn_RX7 td_X7_hasLaw rfl rfl ⟨Nat.le_of_ble_eq_true rfl, Nat.le_of_ble_eq_true rfl⟩ rfl hl.1 rfl (Nat.le_of_ble_eq_true rfl) ⟨Nat.zero_le _, Nat.zero_le _⟩ dX4_clause_24 (fun H locs hP7 hm => ?_)
  refine lv_if_eq (tgt := 38) hx hb dX4_clause_27 (by decide) (fun hc8 => ?_) (fun hc8 => ?_)
  rotate_left
  · have hf := xif_f hc8 hf
    refine lv_aload_n hx hb dX4_clause_30 rfl (lv_at hl 1 rfl) ?_
    refine lv_iconst (v := (4 : Int32)) hx hb dX4_clause_31 (by decide) ?_
    obtain ⟨M28, hq27, hf⟩ := xb1_e hf
    refine x_callVv (As := [.int (4 : Int32)]) (rest := []) C hm (c_X4_refuse l E b M (4 : Int32) hq27) rfl (cx_Reader (LX_reader 0 _ rfl)) tc_X4_refuse tm_RX4_114 ti_X4_refuse ts_X4_refuse tn_RX4 td_X4_refuse rfl rfl ⟨Nat.le_of_ble_eq_true rfl, Nat.le_of_ble_eq_true rfl⟩ rfl hl.1 rfl (Nat.le_of_ble_eq_true rfl) ⟨Nat.zero_le _, Nat.zero_le _⟩ dX4_clause_32 (fun H locs hP29 hm => ?_)
    refine lv_goto (tgt := 93) hx hb dX4_clause_35 (by decide) ?_
    cases hf
    exact x_vret C hm trivial dX4_clause_93
  have hf := xif_t hc8 hf
  refine lv_aload_n hx hb dX4_clause_38 rfl (lv_at hl 1 rfl) ?_
  refine x_get C hm inX4 rfl 4 (by decide) tf_RX4_27 (cx_Reader (LX_reader 0 _ rfl)) rfl dX4_clause_39 ?_
  refine x_get C hm inX7 rfl 8 (by decide) tf_RX4_124 (cx_Text ((lat_draft LX_reader) 0 _ rfl)) rfl dX4_clause_42 ?_
  refine lv_bipush (v := (24 : Int32)) hx hb dX4_clause_45 (by decide) ?_
  refine lv_icmp_lt (tgt := 59) hx hb dX4_clause_47 (by decide) (fun hc9 => ?_) (fun hc9 => ?_)
  rotate_left
  · have hf := xif_f hc9 hf
    refine lv_aload_n hx hb dX4_clause_50 rfl (lv_at hl 1 rfl) ?_
    refine lv_bipush (v := (6 : Int32)) hx hb dX4_clause_51 (by decide) ?_
    obtain ⟨M25, hq24, hf⟩ := xb1_e hf
    refine x_callVv (As := [.int (6 : Int32)]) (rest := []) C hm (c_X4_refuse l E b M (6 : Int32) hq24) rfl (cx_Reader (LX_reader 0 _ rfl)) tc_X4_refuse tm_RX4_114 ti_X4_refuse ts_X4_refuse tn_RX4 td_X4_refuse rfl rfl ⟨Nat.le_of_ble_eq_true rfl, Nat.le_of_ble_eq_true rfl⟩ rfl hl.1 rfl (Nat.le_of_ble_eq_true rfl) ⟨Nat.zero_le _, Nat.zero_le _⟩ dX4_clause_53 (fun H locs hP26 hm => ?_)
    refine lv_goto (tgt := 93) hx hb dX4_clause_56 (by decide) ?_
    cases hf
    exact x_vret C hm trivial dX4_clause_93
  have hf := xif_t hc9 hf
  refine lv_aload_n hx hb dX4_clause_59 rfl (lv_at hl 1 rfl) ?_
  refine lv_dup hx hb dX4_clause_60 rfl ?_
  refine x_get C hm inX4 rfl 9 (by decide) tf_RX4_44 (cx_Reader (LX_reader 0 _ rfl)) rfl dX4_clause_61 ?_
  refine lv_iconst (v := (1 : Int32)) hx hb dX4_clause_64 (by decide) ?_
  refine lv_iadd hx hb dX4_clause_65 ?_
  obtain ⟨M10, eM10, hf⟩ := xlet_x hf
  refine x_put (cf' := cX E b M10) C hm inX4 tyX4 tyX4_ok nmX4 rfl 9 (by decide) tf_RX4_44 rfl rfl rfl (cx_Reader (LX_reader 0 _ rfl)) (Nat.le_of_ble_eq_true rfl) (by rw [eM10]; exact cu_Reader_9 (LX_reader 0 _ rfl)) (by rw [eM10]; exact cX_o) dX4_clause_66 (fun H locs hm => ?_)
  refine lv_iload_n hx hb dX4_clause_69 rfl (lv_at hl 0 rfl) ?_
  refine lv_iconst (v := (1 : Int32)) hx hb dX4_clause_70 (by decide) ?_
  refine lv_icmp_gt (tgt := 82) hx hb dX4_clause_71 (by decide) (fun hc11 => ?_) (fun hc11 => ?_)
  · have hf := xif_t hc11 hf
    refine lv_aload_n hx hb dX4_clause_82 rfl (lv_at hl 1 rfl) ?_
    refine lv_iload_n hx hb dX4_clause_83 rfl (lv_at hl 0 rfl) ?_
    obtain ⟨M13, hq12, hf⟩ := xb1_e hf
    refine x_callVv (As := [.int v2]) (rest := []) C hm (c_X4_deedClause l E b M10 v2 hq12) rfl (cx_Reader (LX_reader 0 _ rfl)) tc_X4_deedClause tm_RX4_130 ti_X4_deedClause ts_X4_deedClause tn_RX4 td_X4_deedClause rfl rfl ⟨Nat.le_of_ble_eq_true rfl, Nat.le_of_ble_eq_true rfl⟩ rfl hl.1 rfl (Nat.le_of_ble_eq_true rfl) ⟨Nat.zero_le _, Nat.zero_le _⟩ dX4_clause_84 (fun H locs hP14 hm => ?_)
    refine lv_aload_n hx hb dX4_clause_87 rfl (lv_at hl 1 rfl) ?_
    refine lv_bipush (v := (37 : Int32)) hx hb dX4_clause_88 (by decide) ?_
    obtain ⟨M16, hq15, hf⟩ := xb1_e hf
    refine x_callVv (As := [.int (37 : Int32)]) (rest := []) C hm (c_X4_want l E b M13 (37 : Int32) hq15) rfl (cx_Reader (LX_reader 0 _ rfl)) tc_X4_want tm_RX4_133 ti_X4_want ts_X4_want tn_RX4 td_X4_want rfl rfl ⟨Nat.le_of_ble_eq_true rfl, Nat.le_of_ble_eq_true rfl⟩ rfl hl.1 rfl (Nat.le_of_ble_eq_true rfl) ⟨Nat.zero_le _, Nat.zero_le _⟩ dX4_clause_90 (fun H locs hP17 hm => ?_)
    cases hf
    exact x_vret C hm trivial dX4_clause_93
  have hf := xif_f hc11 hf
  refine lv_aload_n hx hb dX4_clause_74 rfl (lv_at hl 1 rfl) ?_
  refine lv_iload_n hx hb dX4_clause_75 rfl (lv_at hl 0 rfl) ?_
  obtain ⟨M19, hq18, hf⟩ := xb1_e hf
  refine x_callVv (As := [.int v2]) (rest := []) C hm (c_X4_lawClause l E b M10 v2 hq18) rfl (cx_Reader (LX_reader 0 _ rfl)) tc_X4_lawClause tm_RX4_127 ti_X4_lawClause ts_X4_lawClause tn_RX4 td_X4_lawClause rfl rfl ⟨Nat.le_of_ble_eq_true rfl, Nat.le_of_ble_eq_true rfl⟩ rfl hl.1 rfl (Nat.le_of_ble_eq_true rfl) ⟨Nat.zero_le _, Nat.zero_le _⟩ dX4_clause_76 (fun H locs hP20 hm => ?_)
  refine lv_goto (tgt := 87) hx hb dX4_clause_79 (by decide) ?_
  refine lv_aload_n hx hb dX4_clause_87 rfl (lv_at hl 1 rfl) ?_
  refine lv_bipush (v := (37 : Int32)) hx hb dX4_clause_88 (by decide) ?_
  obtain ⟨M22, hq21, hf⟩ := xb1_e hf
  refine x_callVv (As := [.int (37 : Int32)]) (rest := []) C hm (c_X4_want l E b M19 (37 : Int32) hq21) rfl (cx_Reader (LX_reader 0 _ rfl)) tc_X4_want tm_RX4_133 ti_X4_want ts_X4_want tn_RX4 td_X4_want rfl rfl ⟨Nat.le_of_ble_eq_true rfl, Nat.le_of_ble_eq_true rfl⟩ rfl hl.1 rfl (Nat.le_of_ble_eq_true rfl) ⟨Nat.zero_le _, Nat.zero_le _⟩ dX4_clause_90 (fun H locs hP23 hm => ?_)
  cases hf
  exact x_vret C hm trivial dX4_clause_93
/-! ColouredHeap$Reader.isDigit(I)Z -/
theorem dX4_isDigit_0 : decode cX4_isDigit 0 = .ok (.iload_n 0, 1) := by decide +kernel
theorem dX4_isDigit_1 : decode cX4_isDigit 1 = .ok (.bipush 48, 2) := by decide +kernel
theorem dX4_isDigit_3 : decode cX4_isDigit 3 = .ok (.if_icmp .lt 13, 3) := by decide +kernel
theorem dX4_isDigit_6 : decode cX4_isDigit 6 = .ok (.iload_n 0, 1) := by decide +kernel
theorem dX4_isDigit_7 : decode cX4_isDigit 7 = .ok (.bipush 57, 2) := by decide +kernel
theorem dX4_isDigit_9 : decode cX4_isDigit 9 = .ok (.if_icmp .gt 7, 3) := by decide +kernel
theorem dX4_isDigit_12 : decode cX4_isDigit 12 = .ok (.iconst 1, 1) := by decide +kernel
theorem dX4_isDigit_13 : decode cX4_isDigit 13 = .ok (.goto 4, 3) := by decide +kernel
theorem dX4_isDigit_16 : decode cX4_isDigit 16 = .ok (.iconst 0, 1) := by decide +kernel
theorem dX4_isDigit_17 : decode cX4_isDigit 17 = .ok (.ireturn, 1) := by decide +kernel
def f_X4_isDigit (a0 : Int32) : Int32 := (if a0 < (48 : Int32) then (0 : Int32) else (if (57 : Int32) < a0 then (0 : Int32) else (1 : Int32)))
set_option maxHeartbeats 4000000 in
set_option maxRecDepth 20000 in
theorem c_X4_isDigit (l : Launch) (E : xE) (b : Nat) (M : xm) (a0 : Int32) {r : Int32} (hf : f_X4_isDigit a0 = r) :
    xMet l E b NX yX4_isDigit cX4_isDigit 1 (some .boolean) (xR 1) [.int a0] (cX E b M) (some (.int r)) (xbo r = true) (cX E b M) := by
  refine xMet.ofW (own := RX4) (by decide) rfl (Nat.le_of_ble_eq_true rfl) ?_
  intro p e s m below meth c H locs ls C hm hl
  have hx := C.1.1
  have hb := C.1.2.1
  have hl : lv_has ls 1 [(0, .int a0)] := hl
  unfold f_X4_isDigit at hf
  refine lv_iload_n hx hb dX4_isDigit_0 rfl (lv_at hl 0 rfl) ?_
  refine lv_bipush (v := (48 : Int32)) hx hb dX4_isDigit_1 (by decide) ?_
  refine lv_icmp_lt (tgt := 16) hx hb dX4_isDigit_3 (by decide) (fun hc1 => ?_) (fun hc1 => ?_)
  · have hf := xif_t hc1 hf
    refine lv_iconst (v := (0 : Int32)) hx hb dX4_isDigit_16 (by decide) ?_
    cases hf
    exact x_zret C hm (by decide) (by decide) dX4_isDigit_17
  have hf := xif_f hc1 hf
  refine lv_iload_n hx hb dX4_isDigit_6 rfl (lv_at hl 0 rfl) ?_
  refine lv_bipush (v := (57 : Int32)) hx hb dX4_isDigit_7 (by decide) ?_
  refine lv_icmp_gt (tgt := 16) hx hb dX4_isDigit_9 (by decide) (fun hc2 => ?_) (fun hc2 => ?_)
  · have hf := xif_t hc2 hf
    refine lv_iconst (v := (0 : Int32)) hx hb dX4_isDigit_16 (by decide) ?_
    cases hf
    exact x_zret C hm (by decide) (by decide) dX4_isDigit_17
  have hf := xif_f hc2 hf
  refine lv_iconst (v := (1 : Int32)) hx hb dX4_isDigit_12 (by decide) ?_
  refine lv_goto (tgt := 17) hx hb dX4_isDigit_13 (by decide) ?_
  cases hf
  exact x_zret C hm (by decide) (by decide) dX4_isDigit_17
/-! ColouredHeap$Reader.isLetter(I)Z -/
theorem dX4_isLetter_0 : decode cX4_isLetter 0 = .ok (.iload_n 0, 1) := by decide +kernel
theorem dX4_isLetter_1 : decode cX4_isLetter 1 = .ok (.bipush 97, 2) := by decide +kernel
theorem dX4_isLetter_3 : decode cX4_isLetter 3 = .ok (.if_icmp .lt 9, 3) := by decide +kernel
theorem dX4_isLetter_6 : decode cX4_isLetter 6 = .ok (.iload_n 0, 1) := by decide +kernel
theorem dX4_isLetter_7 : decode cX4_isLetter 7 = .ok (.bipush 122, 2) := by decide +kernel
theorem dX4_isLetter_9 : decode cX4_isLetter 9 = .ok (.if_icmp .le 15, 3) := by decide +kernel
theorem dX4_isLetter_12 : decode cX4_isLetter 12 = .ok (.iload_n 0, 1) := by decide +kernel
theorem dX4_isLetter_13 : decode cX4_isLetter 13 = .ok (.bipush 65, 2) := by decide +kernel
theorem dX4_isLetter_15 : decode cX4_isLetter 15 = .ok (.if_icmp .lt 13, 3) := by decide +kernel
theorem dX4_isLetter_18 : decode cX4_isLetter 18 = .ok (.iload_n 0, 1) := by decide +kernel
theorem dX4_isLetter_19 : decode cX4_isLetter 19 = .ok (.bipush 90, 2) := by decide +kernel
theorem dX4_isLetter_21 : decode cX4_isLetter 21 = .ok (.if_icmp .gt 7, 3) := by decide +kernel
theorem dX4_isLetter_24 : decode cX4_isLetter 24 = .ok (.iconst 1, 1) := by decide +kernel
theorem dX4_isLetter_25 : decode cX4_isLetter 25 = .ok (.goto 4, 3) := by decide +kernel
theorem dX4_isLetter_28 : decode cX4_isLetter 28 = .ok (.iconst 0, 1) := by decide +kernel
theorem dX4_isLetter_29 : decode cX4_isLetter 29 = .ok (.ireturn, 1) := by decide +kernel
def f_X4_isLetter (a0 : Int32) : Int32 := xlet ((if a0 < (65 : Int32) then (0 : Int32) else (if (90 : Int32) < a0 then (0 : Int32) else (1 : Int32)))) (fun k1 => (if a0 < (97 : Int32) then k1 else (if a0 ≤ (122 : Int32) then (1 : Int32) else k1)))
set_option maxHeartbeats 4000000 in
set_option maxRecDepth 20000 in
theorem c_X4_isLetter (l : Launch) (E : xE) (b : Nat) (M : xm) (a0 : Int32) {r : Int32} (hf : f_X4_isLetter a0 = r) :
    xMet l E b NX yX4_isLetter cX4_isLetter 1 (some .boolean) (xR 1) [.int a0] (cX E b M) (some (.int r)) (xbo r = true) (cX E b M) := by
  refine xMet.ofW (own := RX4) (by decide) rfl (Nat.le_of_ble_eq_true rfl) ?_
  intro p e s m below meth c H locs ls C hm hl
  have hx := C.1.1
  have hb := C.1.2.1
  have hl : lv_has ls 1 [(0, .int a0)] := hl
  unfold f_X4_isLetter at hf
  refine lv_iload_n hx hb dX4_isLetter_0 rfl (lv_at hl 0 rfl) ?_
  refine lv_bipush (v := (97 : Int32)) hx hb dX4_isLetter_1 (by decide) ?_
  obtain ⟨k1, ek1, hf⟩ := xlet_x hf
  have jk1 : ∀  (H : Heap) (locs : List Loc) (ls : Array Slot), k1 = r → xM E b NX (cX E b M) s.heap H locs → lv_has ls 1 [(0, .int a0)] → W p l e (xR 1) s m ([.int a0] : List Value).toArray below meth c H locs 0 0 (MQ below (xQ E b NX (some (.int r)) (xbo r = true) (cX E b M)) ([.int a0] : List Value).toArray s 0 0 (xA b NX)) (F0 m 12 ls []) := by
    intro  H locs ls hf hm hl
    have hf := xap0 ek1 hf
    refine lv_iload_n hx hb dX4_isLetter_12 rfl (lv_at hl 0 rfl) ?_
    refine lv_bipush (v := (65 : Int32)) hx hb dX4_isLetter_13 (by decide) ?_
    refine lv_icmp_lt (tgt := 28) hx hb dX4_isLetter_15 (by decide) (fun hc2 => ?_) (fun hc2 => ?_)
    · have hf := xif_t hc2 hf
      refine lv_iconst (v := (0 : Int32)) hx hb dX4_isLetter_28 (by decide) ?_
      cases hf
      exact x_zret C hm (by decide) (by decide) dX4_isLetter_29
    have hf := xif_f hc2 hf
    refine lv_iload_n hx hb dX4_isLetter_18 rfl (lv_at hl 0 rfl) ?_
    refine lv_bipush (v := (90 : Int32)) hx hb dX4_isLetter_19 (by decide) ?_
    refine lv_icmp_gt (tgt := 28) hx hb dX4_isLetter_21 (by decide) (fun hc3 => ?_) (fun hc3 => ?_)
    · have hf := xif_t hc3 hf
      refine lv_iconst (v := (0 : Int32)) hx hb dX4_isLetter_28 (by decide) ?_
      cases hf
      exact x_zret C hm (by decide) (by decide) dX4_isLetter_29
    have hf := xif_f hc3 hf
    refine lv_iconst (v := (1 : Int32)) hx hb dX4_isLetter_24 (by decide) ?_
    refine lv_goto (tgt := 29) hx hb dX4_isLetter_25 (by decide) ?_
    cases hf
    exact x_zret C hm (by decide) (by decide) dX4_isLetter_29
  refine lv_icmp_lt (tgt := 12) hx hb dX4_isLetter_3 (by decide) (fun hc4 => ?_) (fun hc4 => ?_)
  · have hf := xif_t hc4 hf
    exact jk1  H locs ls  hf hm (lv_sub hl [0] rfl)
  have hf := xif_f hc4 hf
  refine lv_iload_n hx hb dX4_isLetter_6 rfl (lv_at hl 0 rfl) ?_
  refine lv_bipush (v := (122 : Int32)) hx hb dX4_isLetter_7 (by decide) ?_
  refine lv_icmp_le (tgt := 24) hx hb dX4_isLetter_9 (by decide) (fun hc5 => ?_) (fun hc5 => ?_)
  rotate_left
  · have hf := xif_f hc5 hf
    exact jk1  H locs ls  hf hm (lv_sub hl [0] rfl)
  have hf := xif_t hc5 hf
  refine lv_iconst (v := (1 : Int32)) hx hb dX4_isLetter_24 (by decide) ?_
  refine lv_goto (tgt := 29) hx hb dX4_isLetter_25 (by decide) ?_
  cases hf
  exact x_zret C hm (by decide) (by decide) dX4_isLetter_29
/-! ColouredHeap$Reader.isWord(IIII)Z -/
theorem dX4_isWord_0 : decode cX4_isWord 0 = .ok (.iload_n 2, 1) := by decide +kernel
theorem dX4_isWord_1 : decode cX4_isWord 1 = .ok (.iload_n 1, 1) := by decide +kernel
theorem dX4_isWord_2 : decode cX4_isWord 2 = .ok (.isub, 1) := by decide +kernel
theorem dX4_isWord_3 : decode cX4_isWord 3 = .ok (.iload 4, 2) := by decide +kernel
theorem dX4_isWord_5 : decode cX4_isWord 5 = .ok (.iload_n 3, 1) := by decide +kernel
theorem dX4_isWord_6 : decode cX4_isWord 6 = .ok (.isub, 1) := by decide +kernel
theorem dX4_isWord_7 : decode cX4_isWord 7 = .ok (.if_icmp .ne 17, 3) := by decide +kernel
theorem dX4_isWord_10 : decode cX4_isWord 10 = .ok (.iload_n 3, 1) := by decide +kernel
theorem dX4_isWord_11 : decode cX4_isWord 11 = .ok (.ifCond .lt 13, 3) := by decide +kernel
theorem dX4_isWord_14 : decode cX4_isWord 14 = .ok (.iload 4, 2) := by decide +kernel
theorem dX4_isWord_16 : decode cX4_isWord 16 = .ok (.ldc 98, 2) := by decide +kernel
theorem dX4_isWord_18 : decode cX4_isWord 18 = .ok (.invokevirtual 100, 3) := by decide +kernel
theorem dX4_isWord_21 : decode cX4_isWord 21 = .ok (.if_icmp .le 5, 3) := by decide +kernel
theorem dX4_isWord_24 : decode cX4_isWord 24 = .ok (.iconst 0, 1) := by decide +kernel
theorem dX4_isWord_25 : decode cX4_isWord 25 = .ok (.ireturn, 1) := by decide +kernel
theorem dX4_isWord_26 : decode cX4_isWord 26 = .ok (.iconst 0, 1) := by decide +kernel
theorem dX4_isWord_27 : decode cX4_isWord 27 = .ok (.istore 5, 2) := by decide +kernel
theorem dX4_isWord_29 : decode cX4_isWord 29 = .ok (.iload 5, 2) := by decide +kernel
theorem dX4_isWord_31 : decode cX4_isWord 31 = .ok (.iload 4, 2) := by decide +kernel
theorem dX4_isWord_33 : decode cX4_isWord 33 = .ok (.iload_n 3, 1) := by decide +kernel
theorem dX4_isWord_34 : decode cX4_isWord 34 = .ok (.isub, 1) := by decide +kernel
theorem dX4_isWord_35 : decode cX4_isWord 35 = .ok (.if_icmp .ge 31, 3) := by decide +kernel
theorem dX4_isWord_38 : decode cX4_isWord 38 = .ok (.aload_n 0, 1) := by decide +kernel
theorem dX4_isWord_39 : decode cX4_isWord 39 = .ok (.iload_n 1, 1) := by decide +kernel
theorem dX4_isWord_40 : decode cX4_isWord 40 = .ok (.iload 5, 2) := by decide +kernel
theorem dX4_isWord_42 : decode cX4_isWord 42 = .ok (.iadd, 1) := by decide +kernel
theorem dX4_isWord_43 : decode cX4_isWord 43 = .ok (.invokevirtual 73, 3) := by decide +kernel
theorem dX4_isWord_46 : decode cX4_isWord 46 = .ok (.ldc 98, 2) := by decide +kernel
theorem dX4_isWord_48 : decode cX4_isWord 48 = .ok (.iload_n 3, 1) := by decide +kernel
theorem dX4_isWord_49 : decode cX4_isWord 49 = .ok (.iload 5, 2) := by decide +kernel
theorem dX4_isWord_51 : decode cX4_isWord 51 = .ok (.iadd, 1) := by decide +kernel
theorem dX4_isWord_52 : decode cX4_isWord 52 = .ok (.invokevirtual 103, 3) := by decide +kernel
theorem dX4_isWord_55 : decode cX4_isWord 55 = .ok (.if_icmp .eq 5, 3) := by decide +kernel
theorem dX4_isWord_58 : decode cX4_isWord 58 = .ok (.iconst 0, 1) := by decide +kernel
theorem dX4_isWord_59 : decode cX4_isWord 59 = .ok (.ireturn, 1) := by decide +kernel
theorem dX4_isWord_60 : decode cX4_isWord 60 = .ok (.iinc 5 1, 3) := by decide +kernel
theorem dX4_isWord_63 : decode cX4_isWord 63 = .ok (.goto (-34), 3) := by decide +kernel
theorem dX4_isWord_66 : decode cX4_isWord 66 = .ok (.iconst 1, 1) := by decide +kernel
theorem dX4_isWord_67 : decode cX4_isWord 67 = .ok (.ireturn, 1) := by decide +kernel
def g_X4_isWord_29 (M : xm) (x5 : Int32) (x6 : Int32) (x7 : Int32) : Nat → Int32 → Option ((Unit) ⊕ (Unit))
  | 0, _ => none
  | n + 1, x8 => (if (x7 - x6) ≤ x8 then some (Sum.inr ()) else xb1 (f_X4_byteAt M (x5 + x8)) (fun v11 => xb1 (f_J0_charAt_5068e 1 (x6 + x8)) (fun v14 => (if v11 = v14 then xlet (x8 + (1 : Int32)) (fun v17 => g_X4_isWord_29 M x5 x6 x7 n v17) else some (Sum.inl ())))))
def f_X4_isWord (M : xm) (a1 : Int32) (a2 : Int32) (a3 : Int32) (a4 : Int32) : Option (Int32) := (if (a2 - a1) = (a4 - a3) then (if a3 < 0 then some (0 : Int32) else (if a4 ≤ (f_J0_length_8abf5 1) then xs2 (g_X4_isWord_29 M a1 a3 a4 xfuel (0 : Int32)) (fun q18 => some (0 : Int32)) (fun q18 => some (1 : Int32)) else some (0 : Int32))) else some (0 : Int32))
set_option maxHeartbeats 4000000 in
set_option maxRecDepth 20000 in
theorem j_X4_isWord_29 {p : Program} {l : Launch} {e : Env} {s : State} {m : MethodId} {args : Array Value} {below : List Frame} {meth : Method} {c : Code} {Q : State → Prop} {E : xE} {b : Nat} (C : xC p s m args meth c cX4_isWord 6 RX4 (some .boolean) E b) (M : xm) (x5 : Int32) (x6 : Int32) (x7 : Int32) {r : (Unit) ⊕ (Unit)}
    (kx0 : ∀ q : Unit, r = Sum.inl q → ∀ (H : Heap) (locs : List Loc) (ls : Array Slot), xM E b NX (cX E b M) s.heap H locs → lv_has ls 6 [] → W p l e (xR 5) s m args below meth c H locs 0 0 Q (F0 m 58 ls []))
    (kx1 : ∀ q : Unit, r = Sum.inr q → ∀ (H : Heap) (locs : List Loc) (ls : Array Slot), xM E b NX (cX E b M) s.heap H locs → lv_has ls 6 [] → W p l e (xR 5) s m args below meth c H locs 0 0 Q (F0 m 66 ls [])) :
    ∀ (n : Nat) (x8 : Int32) (H : Heap) (locs : List Loc) (ls : Array Slot), g_X4_isWord_29 M x5 x6 x7 n x8 = some r → xM E b NX (cX E b M) s.heap H locs → lv_has ls 6 [(0, .ref (b + 990)), (1, .int x5), (3, .int x6), (4, .int x7), (5, .int x8)] → W p l e (xR 5) s m args below meth c H locs 0 0 Q (F0 m 29 ls []) := by
  have hx := C.1.1
  have hb := C.1.2.1
  intro n
  induction n with
  | zero =>
    intro x8 H locs ls hf hm hl
    rw [g_X4_isWord_29] at hf
    cases hf
  | succ n ih =>
    intro x8 H locs ls hf hm hl
    rw [g_X4_isWord_29] at hf
    refine lv_iload hx hb dX4_isWord_29 (lv_at hl 4 rfl) ?_
    refine lv_iload hx hb dX4_isWord_31 (lv_at hl 3 rfl) ?_
    refine lv_iload_n hx hb dX4_isWord_33 rfl (lv_at hl 2 rfl) ?_
    refine lv_isub hx hb dX4_isWord_34 ?_
    refine lv_icmp_ge (tgt := 66) hx hb dX4_isWord_35 (by decide) (fun hc9 => ?_) (fun hc9 => ?_)
    · have hf := xif_t hc9 hf
      cases hf
      exact kx1 () rfl H locs ls hm (lv_sub hl [] rfl)
    have hf := xif_f hc9 hf
    refine lv_aload_n hx hb dX4_isWord_38 rfl (lv_at hl 0 rfl) ?_
    refine lv_iload_n hx hb dX4_isWord_39 rfl (lv_at hl 1 rfl) ?_
    refine lv_iload hx hb dX4_isWord_40 (lv_at hl 4 rfl) ?_
    refine lv_iadd hx hb dX4_isWord_42 ?_
    obtain ⟨v11, hq10, hf⟩ := xb1_e hf
    refine x_callVi (As := [.int (x5 + x8)]) (rest := []) C hm (c_X4_byteAt l E b M (x5 + x8) hq10) rfl (cx_Reader (LX_reader 0 _ rfl)) tc_X4_byteAt tm_RX4_73 ti_X4_byteAt ts_X4_byteAt tn_RX4 td_X4_byteAt rfl rfl ⟨Nat.le_of_ble_eq_true rfl, Nat.le_of_ble_eq_true rfl⟩ rfl hl.1 rfl (Nat.le_of_ble_eq_true rfl) ⟨Nat.zero_le _, Nat.zero_le _⟩ dX4_isWord_43 (fun H locs hP12 hm => ?_)
    refine va_ldcS hx hb C.1.2.2.2.1 C.2.2.2.2.2.2.2.1 dX4_isWord_46 ?_
    refine lv_iload_n hx hb dX4_isWord_48 rfl (lv_at hl 2 rfl) ?_
    refine lv_iload hx hb dX4_isWord_49 (lv_at hl 4 rfl) ?_
    refine lv_iadd hx hb dX4_isWord_51 ?_
    obtain ⟨v14, hq13, hf⟩ := xb1_e hf
    refine x_callVAi (As := [.int (x6 + x8)]) (rest := [.int v11]) C hm (c_J0_charAt_5068e l E b (by decide) M (x6 + x8) hq13) (xs_recv C hm (by decide)) tc_J0_charAt_5068e tm_RX4_103 ti_J0_charAt_5068e ts_J0_charAt_5068e tn_RJ0 td_J0_charAt_5068e rfl rfl ⟨Nat.le_of_ble_eq_true rfl, Nat.le_of_ble_eq_true rfl⟩ rfl hl.1 rfl (Nat.le_of_ble_eq_true rfl) ⟨Nat.zero_le _, Nat.zero_le _⟩ dX4_isWord_52 (fun H locs hP15 hm => ?_)
    refine lv_icmp_eq (tgt := 60) hx hb dX4_isWord_55 (by decide) (fun hc16 => ?_) (fun hc16 => ?_)
    rotate_left
    · have hf := xif_f hc16 hf
      cases hf
      exact kx0 () rfl H locs ls hm (lv_sub hl [] rfl)
    have hf := xif_t hc16 hf
    obtain ⟨v17, ev17, hf⟩ := xlet_x hf
    refine lv_iinc (v := v17) (lv' := [(5, .int v17), (0, .ref (b + 990)), (1, .int x5), (3, .int x6), (4, .int x7)]) hx hb dX4_isWord_60 hl (k := 4) rfl (by rw [ev17]; rfl) (by decide) rfl (fun ls hl => ?_)
    refine lv_goto (tgt := 29) hx hb dX4_isWord_63 (by decide) ?_
    exact ih v17 H locs ls hf hm (lv_sub hl [1, 2, 3, 4, 0] rfl)
set_option maxHeartbeats 4000000 in
set_option maxRecDepth 20000 in
theorem c_X4_isWord (l : Launch) (E : xE) (b : Nat) (M : xm) (a1 : Int32) (a2 : Int32) (a3 : Int32) (a4 : Int32) {r : Int32} (hf : f_X4_isWord M a1 a2 a3 a4 = some r) :
    xMet l E b NX yX4_isWord cX4_isWord 6 (some .boolean) (xR 5) [.ref (b + 990), .int a1, .int a2, .int a3, .int a4] (cX E b M) (some (.int r)) (xbo r = true) (cX E b M) := by
  refine xMet.ofW (own := RX4) (by decide) rfl (Nat.le_of_ble_eq_true rfl) ?_
  intro p e s m below meth c H locs ls C hm hl
  have hx := C.1.1
  have hb := C.1.2.1
  have hl : lv_has ls 6 [(0, .ref (b + 990)), (1, .int a1), (2, .int a2), (3, .int a3), (4, .int a4)] := hl
  unfold f_X4_isWord at hf
  refine lv_iload_n hx hb dX4_isWord_0 rfl (lv_at hl 2 rfl) ?_
  refine lv_iload_n hx hb dX4_isWord_1 rfl (lv_at hl 1 rfl) ?_
  refine lv_isub hx hb dX4_isWord_2 ?_
  refine lv_iload hx hb dX4_isWord_3 (lv_at hl 4 rfl) ?_
  refine lv_iload_n hx hb dX4_isWord_5 rfl (lv_at hl 3 rfl) ?_
  refine lv_isub hx hb dX4_isWord_6 ?_
  refine lv_icmp_ne (tgt := 24) hx hb dX4_isWord_7 (by decide) (fun hc1 => ?_) (fun hc1 => ?_)
  · have hf := xif_f hc1 hf
    refine lv_iconst (v := (0 : Int32)) hx hb dX4_isWord_24 (by decide) ?_
    cases hf
    exact x_zret C hm (by decide) (by decide) dX4_isWord_25
  have hf := xif_t hc1 hf
  refine lv_iload_n hx hb dX4_isWord_10 rfl (lv_at hl 3 rfl) ?_
  refine lv_if_lt (tgt := 24) hx hb dX4_isWord_11 (by decide) (fun hc2 => ?_) (fun hc2 => ?_)
  · have hf := xif_t hc2 hf
    refine lv_iconst (v := (0 : Int32)) hx hb dX4_isWord_24 (by decide) ?_
    cases hf
    exact x_zret C hm (by decide) (by decide) dX4_isWord_25
  have hf := xif_f hc2 hf
  refine lv_iload hx hb dX4_isWord_14 (lv_at hl 4 rfl) ?_
  refine va_ldcS hx hb C.1.2.2.2.1 C.2.2.2.2.2.2.2.1 dX4_isWord_16 ?_
  refine x_callVAi (As := []) (rest := [.int a4]) C hm (c_J0_length_8abf5 l E b (by decide) M rfl) (xs_recv C hm (by decide)) tc_J0_length_8abf5 tm_RX4_100 ti_J0_length_8abf5 ts_J0_length_8abf5 tn_RJ0 td_J0_length_8abf5 rfl rfl ⟨Nat.le_of_ble_eq_true rfl, Nat.le_of_ble_eq_true rfl⟩ rfl hl.1 rfl (Nat.le_of_ble_eq_true rfl) ⟨Nat.zero_le _, Nat.zero_le _⟩ dX4_isWord_18 (fun H locs hP3 hm => ?_)
  refine lv_icmp_le (tgt := 26) hx hb dX4_isWord_21 (by decide) (fun hc4 => ?_) (fun hc4 => ?_)
  rotate_left
  · have hf := xif_f hc4 hf
    refine lv_iconst (v := (0 : Int32)) hx hb dX4_isWord_24 (by decide) ?_
    cases hf
    exact x_zret C hm (by decide) (by decide) dX4_isWord_25
  have hf := xif_t hc4 hf
  refine lv_iconst (v := (0 : Int32)) hx hb dX4_isWord_26 (by decide) ?_
  refine lv_istore (lv' := [(5, .int (0 : Int32)), (0, .ref (b + 990)), (1, .int a1), (2, .int a2), (3, .int a3), (4, .int a4)]) hx hb dX4_isWord_27 hl (by decide) rfl (fun ls hl => ?_)
  rcases xs2_e hf with ⟨q18, hq, hf⟩ | ⟨q18, hq, hf⟩
  · refine j_X4_isWord_29 C M a1 a3 a4 (r := Sum.inl q18) (fun q2 hr H locs ls hm hl => ?_) (fun q2 hr => by cases hr) xfuel (0 : Int32) H locs ls hq hm (lv_sub hl [1, 2, 4, 5, 0] rfl)
    cases hr
    refine lv_iconst (v := (0 : Int32)) hx hb dX4_isWord_58 (by decide) ?_
    cases hf
    exact x_zret C hm (by decide) (by decide) dX4_isWord_59
  · refine j_X4_isWord_29 C M a1 a3 a4 (r := Sum.inr q18) (fun q2 hr => by cases hr) (fun q2 hr H locs ls hm hl => ?_) xfuel (0 : Int32) H locs ls hq hm (lv_sub hl [1, 2, 4, 5, 0] rfl)
    cases hr
    refine lv_iconst (v := (1 : Int32)) hx hb dX4_isWord_66 (by decide) ?_
    cases hf
    exact x_zret C hm (by decide) (by decide) dX4_isWord_67
/-! ColouredHeap$Reader.wordKind(II)I -/
theorem dX4_wordKind_0 : decode cX4_wordKind 0 = .ok (.iconst 0, 1) := by decide +kernel
theorem dX4_wordKind_1 : decode cX4_wordKind 1 = .ok (.istore_n 3, 1) := by decide +kernel
theorem dX4_wordKind_2 : decode cX4_wordKind 2 = .ok (.iconst 1, 1) := by decide +kernel
theorem dX4_wordKind_3 : decode cX4_wordKind 3 = .ok (.istore 4, 2) := by decide +kernel
theorem dX4_wordKind_5 : decode cX4_wordKind 5 = .ok (.iconst 1, 1) := by decide +kernel
theorem dX4_wordKind_6 : decode cX4_wordKind 6 = .ok (.istore 5, 2) := by decide +kernel
theorem dX4_wordKind_8 : decode cX4_wordKind 8 = .ok (.iload 5, 2) := by decide +kernel
theorem dX4_wordKind_10 : decode cX4_wordKind 10 = .ok (.ldc 98, 2) := by decide +kernel
theorem dX4_wordKind_12 : decode cX4_wordKind 12 = .ok (.invokevirtual 100, 3) := by decide +kernel
theorem dX4_wordKind_15 : decode cX4_wordKind 15 = .ok (.if_icmp .ge 45, 3) := by decide +kernel
theorem dX4_wordKind_18 : decode cX4_wordKind 18 = .ok (.ldc 98, 2) := by decide +kernel
theorem dX4_wordKind_20 : decode cX4_wordKind 20 = .ok (.iload 5, 2) := by decide +kernel
theorem dX4_wordKind_22 : decode cX4_wordKind 22 = .ok (.invokevirtual 103, 3) := by decide +kernel
theorem dX4_wordKind_25 : decode cX4_wordKind 25 = .ok (.bipush 32, 2) := by decide +kernel
theorem dX4_wordKind_27 : decode cX4_wordKind 27 = .ok (.if_icmp .ne 27, 3) := by decide +kernel
theorem dX4_wordKind_30 : decode cX4_wordKind 30 = .ok (.aload_n 0, 1) := by decide +kernel
theorem dX4_wordKind_31 : decode cX4_wordKind 31 = .ok (.iload_n 1, 1) := by decide +kernel
theorem dX4_wordKind_32 : decode cX4_wordKind 32 = .ok (.iload_n 2, 1) := by decide +kernel
theorem dX4_wordKind_33 : decode cX4_wordKind 33 = .ok (.iload 4, 2) := by decide +kernel
theorem dX4_wordKind_35 : decode cX4_wordKind 35 = .ok (.iload 5, 2) := by decide +kernel
theorem dX4_wordKind_37 : decode cX4_wordKind 37 = .ok (.invokevirtual 107, 3) := by decide +kernel
theorem dX4_wordKind_40 : decode cX4_wordKind 40 = .ok (.ifCond .eq 5, 3) := by decide +kernel
theorem dX4_wordKind_43 : decode cX4_wordKind 43 = .ok (.iload_n 3, 1) := by decide +kernel
theorem dX4_wordKind_44 : decode cX4_wordKind 44 = .ok (.ireturn, 1) := by decide +kernel
theorem dX4_wordKind_45 : decode cX4_wordKind 45 = .ok (.iinc 3 1, 3) := by decide +kernel
theorem dX4_wordKind_48 : decode cX4_wordKind 48 = .ok (.iload 5, 2) := by decide +kernel
theorem dX4_wordKind_50 : decode cX4_wordKind 50 = .ok (.iconst 1, 1) := by decide +kernel
theorem dX4_wordKind_51 : decode cX4_wordKind 51 = .ok (.iadd, 1) := by decide +kernel
theorem dX4_wordKind_52 : decode cX4_wordKind 52 = .ok (.istore 4, 2) := by decide +kernel
theorem dX4_wordKind_54 : decode cX4_wordKind 54 = .ok (.iinc 5 1, 3) := by decide +kernel
theorem dX4_wordKind_57 : decode cX4_wordKind 57 = .ok (.goto (-49), 3) := by decide +kernel
theorem dX4_wordKind_60 : decode cX4_wordKind 60 = .ok (.bipush 42, 2) := by decide +kernel
theorem dX4_wordKind_62 : decode cX4_wordKind 62 = .ok (.ireturn, 1) := by decide +kernel
def g_X4_wordKind_8 (M : xm) (x1 : Int32) (x2 : Int32) : Nat → Int32 → Int32 → Int32 → Option ((Int32) ⊕ (Unit))
  | 0, _, _, _ => none
  | n + 1, x3, x4, x5 => (if (f_J0_length_8abf5 1) ≤ x5 then some (Sum.inr ()) else xb1 (f_J0_charAt_5068e 1 x5) (fun v9 => (if v9 = (32 : Int32) then xb1 (f_X4_isWord M x1 x2 x4 x5) (fun v14 => (if v14 = 0 then xlet (x3 + (1 : Int32)) (fun v17 => xlet (x5 + (1 : Int32)) (fun v18 => xlet (x5 + (1 : Int32)) (fun v19 => g_X4_wordKind_8 M x1 x2 n v17 v18 v19))) else some (Sum.inl x3))) else xlet (x5 + (1 : Int32)) (fun v12 => g_X4_wordKind_8 M x1 x2 n x3 x4 v12))))
def f_X4_wordKind (M : xm) (a1 : Int32) (a2 : Int32) : Option (Int32) := xs2 (g_X4_wordKind_8 M a1 a2 xfuel (0 : Int32) (1 : Int32) (1 : Int32)) (fun q20 => some q20) (fun q20 => some (42 : Int32))
set_option maxHeartbeats 4000000 in
set_option maxRecDepth 20000 in
theorem j_X4_wordKind_8 {p : Program} {l : Launch} {e : Env} {s : State} {m : MethodId} {args : Array Value} {below : List Frame} {meth : Method} {c : Code} {Q : State → Prop} {E : xE} {b : Nat} (C : xC p s m args meth c cX4_wordKind 6 RX4 (some .int) E b) (M : xm) (x1 : Int32) (x2 : Int32) {r : (Int32) ⊕ (Unit)}
    (kx0 : ∀ q : Int32, r = Sum.inl q → ∀ (H : Heap) (locs : List Loc) (ls : Array Slot), xM E b NX (cX E b M) s.heap H locs → lv_has ls 6 [(3, .int q)] → W p l e (xR 6) s m args below meth c H locs 0 0 Q (F0 m 43 ls []))
    (kx1 : ∀ q : Unit, r = Sum.inr q → ∀ (H : Heap) (locs : List Loc) (ls : Array Slot), xM E b NX (cX E b M) s.heap H locs → lv_has ls 6 [] → W p l e (xR 6) s m args below meth c H locs 0 0 Q (F0 m 60 ls [])) :
    ∀ (n : Nat) (x3 : Int32) (x4 : Int32) (x5 : Int32) (H : Heap) (locs : List Loc) (ls : Array Slot), g_X4_wordKind_8 M x1 x2 n x3 x4 x5 = some r → xM E b NX (cX E b M) s.heap H locs → lv_has ls 6 [(0, .ref (b + 990)), (1, .int x1), (2, .int x2), (3, .int x3), (4, .int x4), (5, .int x5)] → W p l e (xR 6) s m args below meth c H locs 0 0 Q (F0 m 8 ls []) := by
  have hx := C.1.1
  have hb := C.1.2.1
  intro n
  induction n with
  | zero =>
    intro x3 x4 x5 H locs ls hf hm hl
    rw [g_X4_wordKind_8] at hf
    cases hf
  | succ n ih =>
    intro x3 x4 x5 H locs ls hf hm hl
    rw [g_X4_wordKind_8] at hf
    refine lv_iload hx hb dX4_wordKind_8 (lv_at hl 5 rfl) ?_
    refine va_ldcS hx hb C.1.2.2.2.1 C.2.2.2.2.2.2.2.1 dX4_wordKind_10 ?_
    refine x_callVAi (As := []) (rest := [.int x5]) C hm (c_J0_length_8abf5 l E b (by decide) M rfl) (xs_recv C hm (by decide)) tc_J0_length_8abf5 tm_RX4_100 ti_J0_length_8abf5 ts_J0_length_8abf5 tn_RJ0 td_J0_length_8abf5 rfl rfl ⟨Nat.le_of_ble_eq_true rfl, Nat.le_of_ble_eq_true rfl⟩ rfl hl.1 rfl (Nat.le_of_ble_eq_true rfl) ⟨Nat.zero_le _, Nat.zero_le _⟩ dX4_wordKind_12 (fun H locs hP6 hm => ?_)
    refine lv_icmp_ge (tgt := 60) hx hb dX4_wordKind_15 (by decide) (fun hc7 => ?_) (fun hc7 => ?_)
    · have hf := xif_t hc7 hf
      cases hf
      exact kx1 () rfl H locs ls hm (lv_sub hl [] rfl)
    have hf := xif_f hc7 hf
    refine va_ldcS hx hb C.1.2.2.2.1 C.2.2.2.2.2.2.2.1 dX4_wordKind_18 ?_
    refine lv_iload hx hb dX4_wordKind_20 (lv_at hl 5 rfl) ?_
    obtain ⟨v9, hq8, hf⟩ := xb1_e hf
    refine x_callVAi (As := [.int x5]) (rest := []) C hm (c_J0_charAt_5068e l E b (by decide) M x5 hq8) (xs_recv C hm (by decide)) tc_J0_charAt_5068e tm_RX4_103 ti_J0_charAt_5068e ts_J0_charAt_5068e tn_RJ0 td_J0_charAt_5068e rfl rfl ⟨Nat.le_of_ble_eq_true rfl, Nat.le_of_ble_eq_true rfl⟩ rfl hl.1 rfl (Nat.le_of_ble_eq_true rfl) ⟨Nat.zero_le _, Nat.zero_le _⟩ dX4_wordKind_22 (fun H locs hP10 hm => ?_)
    refine lv_bipush (v := (32 : Int32)) hx hb dX4_wordKind_25 (by decide) ?_
    refine lv_icmp_ne (tgt := 54) hx hb dX4_wordKind_27 (by decide) (fun hc11 => ?_) (fun hc11 => ?_)
    · have hf := xif_f hc11 hf
      obtain ⟨v12, ev12, hf⟩ := xlet_x hf
      refine lv_iinc (v := v12) (lv' := [(5, .int v12), (0, .ref (b + 990)), (1, .int x1), (2, .int x2), (3, .int x3), (4, .int x4)]) hx hb dX4_wordKind_54 hl (k := 5) rfl (by rw [ev12]; rfl) (by decide) rfl (fun ls hl => ?_)
      refine lv_goto (tgt := 8) hx hb dX4_wordKind_57 (by decide) ?_
      exact ih x3 x4 v12 H locs ls hf hm (lv_sub hl [1, 2, 3, 4, 5, 0] rfl)
    have hf := xif_t hc11 hf
    refine lv_aload_n hx hb dX4_wordKind_30 rfl (lv_at hl 0 rfl) ?_
    refine lv_iload_n hx hb dX4_wordKind_31 rfl (lv_at hl 1 rfl) ?_
    refine lv_iload_n hx hb dX4_wordKind_32 rfl (lv_at hl 2 rfl) ?_
    refine lv_iload hx hb dX4_wordKind_33 (lv_at hl 4 rfl) ?_
    refine lv_iload hx hb dX4_wordKind_35 (lv_at hl 5 rfl) ?_
    obtain ⟨v14, hq13, hf⟩ := xb1_e hf
    refine x_callVi (As := [.int x1, .int x2, .int x4, .int x5]) (rest := []) C hm (c_X4_isWord l E b M x1 x2 x4 x5 hq13) rfl (cx_Reader (LX_reader 0 _ rfl)) tc_X4_isWord tm_RX4_107 ti_X4_isWord ts_X4_isWord tn_RX4 td_X4_isWord rfl rfl ⟨Nat.le_of_ble_eq_true rfl, Nat.le_of_ble_eq_true rfl⟩ rfl hl.1 rfl (Nat.le_of_ble_eq_true rfl) ⟨Nat.zero_le _, Nat.zero_le _⟩ dX4_wordKind_37 (fun H locs hP15 hm => ?_)
    refine lv_if_eq (tgt := 45) hx hb dX4_wordKind_40 (by decide) (fun hc16 => ?_) (fun hc16 => ?_)
    rotate_left
    · have hf := xif_f hc16 hf
      cases hf
      exact kx0 x3 rfl H locs ls hm (lv_sub hl [3] rfl)
    have hf := xif_t hc16 hf
    obtain ⟨v17, ev17, hf⟩ := xlet_x hf
    refine lv_iinc (v := v17) (lv' := [(3, .int v17), (0, .ref (b + 990)), (1, .int x1), (2, .int x2), (4, .int x4), (5, .int x5)]) hx hb dX4_wordKind_45 hl (k := 3) rfl (by rw [ev17]; rfl) (by decide) rfl (fun ls hl => ?_)
    refine lv_iload hx hb dX4_wordKind_48 (lv_at hl 5 rfl) ?_
    refine lv_iconst (v := (1 : Int32)) hx hb dX4_wordKind_50 (by decide) ?_
    refine lv_iadd hx hb dX4_wordKind_51 ?_
    refine lv_topi (fun v18 ev18 => ?_)
    have hf := xlet_e ev18 hf
    refine lv_istore (lv' := [(4, .int v18), (3, .int v17), (0, .ref (b + 990)), (1, .int x1), (2, .int x2), (5, .int x5)]) hx hb dX4_wordKind_52 hl (by decide) rfl (fun ls hl => ?_)
    obtain ⟨v19, ev19, hf⟩ := xlet_x hf
    refine lv_iinc (v := v19) (lv' := [(5, .int v19), (4, .int v18), (3, .int v17), (0, .ref (b + 990)), (1, .int x1), (2, .int x2)]) hx hb dX4_wordKind_54 hl (k := 5) rfl (by rw [ev19]; rfl) (by decide) rfl (fun ls hl => ?_)
    refine lv_goto (tgt := 8) hx hb dX4_wordKind_57 (by decide) ?_
    exact ih v17 v18 v19 H locs ls hf hm (lv_sub hl [3, 4, 5, 2, 1, 0] rfl)
set_option maxHeartbeats 4000000 in
set_option maxRecDepth 20000 in
theorem c_X4_wordKind (l : Launch) (E : xE) (b : Nat) (M : xm) (a1 : Int32) (a2 : Int32) {r : Int32} (hf : f_X4_wordKind M a1 a2 = some r) :
    xMet l E b NX yX4_wordKind cX4_wordKind 6 (some .int) (xR 6) [.ref (b + 990), .int a1, .int a2] (cX E b M) (some (.int r)) True (cX E b M) := by
  refine xMet.ofW (own := RX4) (by decide) rfl (Nat.le_of_ble_eq_true rfl) ?_
  intro p e s m below meth c H locs ls C hm hl
  have hx := C.1.1
  have hb := C.1.2.1
  have hl : lv_has ls 6 [(0, .ref (b + 990)), (1, .int a1), (2, .int a2)] := hl
  unfold f_X4_wordKind at hf
  refine lv_iconst (v := (0 : Int32)) hx hb dX4_wordKind_0 (by decide) ?_
  refine lv_istore_n (lv' := [(3, .int (0 : Int32)), (0, .ref (b + 990)), (1, .int a1), (2, .int a2)]) hx hb dX4_wordKind_1 rfl hl (by decide) rfl (fun ls hl => ?_)
  refine lv_iconst (v := (1 : Int32)) hx hb dX4_wordKind_2 (by decide) ?_
  refine lv_istore (lv' := [(4, .int (1 : Int32)), (3, .int (0 : Int32)), (0, .ref (b + 990)), (1, .int a1), (2, .int a2)]) hx hb dX4_wordKind_3 hl (by decide) rfl (fun ls hl => ?_)
  refine lv_iconst (v := (1 : Int32)) hx hb dX4_wordKind_5 (by decide) ?_
  refine lv_istore (lv' := [(5, .int (1 : Int32)), (4, .int (1 : Int32)), (3, .int (0 : Int32)), (0, .ref (b + 990)), (1, .int a1), (2, .int a2)]) hx hb dX4_wordKind_6 hl (by decide) rfl (fun ls hl => ?_)
  rcases xs2_e hf with ⟨q20, hq, hf⟩ | ⟨q20, hq, hf⟩
  · refine j_X4_wordKind_8 C M a1 a2 (r := Sum.inl q20) (fun q2 hr H locs ls hm hl => ?_) (fun q2 hr => by cases hr) xfuel (0 : Int32) (1 : Int32) (1 : Int32) H locs ls hq hm (lv_sub hl [3, 4, 5, 2, 1, 0] rfl)
    cases hr
    refine lv_iload_n hx hb dX4_wordKind_43 rfl (lv_at hl 0 rfl) ?_
    cases hf
    exact x_iret C hm trivial dX4_wordKind_44
  · refine j_X4_wordKind_8 C M a1 a2 (r := Sum.inr q20) (fun q2 hr => by cases hr) (fun q2 hr H locs ls hm hl => ?_) xfuel (0 : Int32) (1 : Int32) (1 : Int32) H locs ls hq hm (lv_sub hl [3, 4, 5, 2, 1, 0] rfl)
    cases hr
    refine lv_bipush (v := (42 : Int32)) hx hb dX4_wordKind_60 (by decide) ?_
    cases hf
    exact x_iret C hm trivial dX4_wordKind_62
/-! ColouredHeap$Reader.scanFrom(I)I -/
theorem dX4_scanFrom_0 : decode cX4_scanFrom 0 = .ok (.aload_n 0, 1) := by decide +kernel
theorem dX4_scanFrom_1 : decode cX4_scanFrom 1 = .ok (.iload_n 1, 1) := by decide +kernel
theorem dX4_scanFrom_2 : decode cX4_scanFrom 2 = .ok (.invokevirtual 73, 3) := by decide +kernel
theorem dX4_scanFrom_5 : decode cX4_scanFrom 5 = .ok (.istore_n 2, 1) := by decide +kernel
theorem dX4_scanFrom_6 : decode cX4_scanFrom 6 = .ok (.iload_n 2, 1) := by decide +kernel
theorem dX4_scanFrom_7 : decode cX4_scanFrom 7 = .ok (.bipush 32, 2) := by decide +kernel
theorem dX4_scanFrom_9 : decode cX4_scanFrom 9 = .ok (.if_icmp .eq 9, 3) := by decide +kernel
theorem dX4_scanFrom_12 : decode cX4_scanFrom 12 = .ok (.iload_n 2, 1) := by decide +kernel
theorem dX4_scanFrom_13 : decode cX4_scanFrom 13 = .ok (.bipush 10, 2) := by decide +kernel
theorem dX4_scanFrom_15 : decode cX4_scanFrom 15 = .ok (.if_icmp .ne 7, 3) := by decide +kernel
theorem dX4_scanFrom_18 : decode cX4_scanFrom 18 = .ok (.iload_n 1, 1) := by decide +kernel
theorem dX4_scanFrom_19 : decode cX4_scanFrom 19 = .ok (.iconst 1, 1) := by decide +kernel
theorem dX4_scanFrom_20 : decode cX4_scanFrom 20 = .ok (.iadd, 1) := by decide +kernel
theorem dX4_scanFrom_21 : decode cX4_scanFrom 21 = .ok (.ireturn, 1) := by decide +kernel
theorem dX4_scanFrom_22 : decode cX4_scanFrom 22 = .ok (.iload_n 2, 1) := by decide +kernel
theorem dX4_scanFrom_23 : decode cX4_scanFrom 23 = .ok (.invokestatic 76, 3) := by decide +kernel
theorem dX4_scanFrom_26 : decode cX4_scanFrom 26 = .ok (.ifCond .eq 44, 3) := by decide +kernel
theorem dX4_scanFrom_29 : decode cX4_scanFrom 29 = .ok (.iload_n 1, 1) := by decide +kernel
theorem dX4_scanFrom_30 : decode cX4_scanFrom 30 = .ok (.istore_n 3, 1) := by decide +kernel
theorem dX4_scanFrom_31 : decode cX4_scanFrom 31 = .ok (.iload_n 3, 1) := by decide +kernel
theorem dX4_scanFrom_32 : decode cX4_scanFrom 32 = .ok (.aload_n 0, 1) := by decide +kernel
theorem dX4_scanFrom_33 : decode cX4_scanFrom 33 = .ok (.getfield 31, 3) := by decide +kernel
theorem dX4_scanFrom_36 : decode cX4_scanFrom 36 = .ok (.if_icmp .ge 20, 3) := by decide +kernel
theorem dX4_scanFrom_39 : decode cX4_scanFrom 39 = .ok (.aload_n 0, 1) := by decide +kernel
theorem dX4_scanFrom_40 : decode cX4_scanFrom 40 = .ok (.iload_n 3, 1) := by decide +kernel
theorem dX4_scanFrom_41 : decode cX4_scanFrom 41 = .ok (.invokevirtual 73, 3) := by decide +kernel
theorem dX4_scanFrom_44 : decode cX4_scanFrom 44 = .ok (.invokestatic 76, 3) := by decide +kernel
theorem dX4_scanFrom_47 : decode cX4_scanFrom 47 = .ok (.ifCond .eq 9, 3) := by decide +kernel
theorem dX4_scanFrom_50 : decode cX4_scanFrom 50 = .ok (.iinc 3 1, 3) := by decide +kernel
theorem dX4_scanFrom_53 : decode cX4_scanFrom 53 = .ok (.goto (-22), 3) := by decide +kernel
theorem dX4_scanFrom_56 : decode cX4_scanFrom 56 = .ok (.aload_n 0, 1) := by decide +kernel
theorem dX4_scanFrom_57 : decode cX4_scanFrom 57 = .ok (.aload_n 0, 1) := by decide +kernel
theorem dX4_scanFrom_58 : decode cX4_scanFrom 58 = .ok (.iload_n 1, 1) := by decide +kernel
theorem dX4_scanFrom_59 : decode cX4_scanFrom 59 = .ok (.iload_n 3, 1) := by decide +kernel
theorem dX4_scanFrom_60 : decode cX4_scanFrom 60 = .ok (.invokevirtual 79, 3) := by decide +kernel
theorem dX4_scanFrom_63 : decode cX4_scanFrom 63 = .ok (.iload_n 1, 1) := by decide +kernel
theorem dX4_scanFrom_64 : decode cX4_scanFrom 64 = .ok (.iconst 0, 1) := by decide +kernel
theorem dX4_scanFrom_65 : decode cX4_scanFrom 65 = .ok (.invokevirtual 69, 3) := by decide +kernel
theorem dX4_scanFrom_68 : decode cX4_scanFrom 68 = .ok (.iload_n 3, 1) := by decide +kernel
theorem dX4_scanFrom_69 : decode cX4_scanFrom 69 = .ok (.ireturn, 1) := by decide +kernel
theorem dX4_scanFrom_70 : decode cX4_scanFrom 70 = .ok (.iload_n 2, 1) := by decide +kernel
theorem dX4_scanFrom_71 : decode cX4_scanFrom 71 = .ok (.invokestatic 83, 3) := by decide +kernel
theorem dX4_scanFrom_74 : decode cX4_scanFrom 74 = .ok (.ifCond .eq 66, 3) := by decide +kernel
theorem dX4_scanFrom_77 : decode cX4_scanFrom 77 = .ok (.iload_n 1, 1) := by decide +kernel
theorem dX4_scanFrom_78 : decode cX4_scanFrom 78 = .ok (.istore_n 3, 1) := by decide +kernel
theorem dX4_scanFrom_79 : decode cX4_scanFrom 79 = .ok (.iconst 0, 1) := by decide +kernel
theorem dX4_scanFrom_80 : decode cX4_scanFrom 80 = .ok (.istore 4, 2) := by decide +kernel
theorem dX4_scanFrom_82 : decode cX4_scanFrom 82 = .ok (.iload_n 3, 1) := by decide +kernel
theorem dX4_scanFrom_83 : decode cX4_scanFrom 83 = .ok (.aload_n 0, 1) := by decide +kernel
theorem dX4_scanFrom_84 : decode cX4_scanFrom 84 = .ok (.getfield 31, 3) := by decide +kernel
theorem dX4_scanFrom_87 : decode cX4_scanFrom 87 = .ok (.if_icmp .ge 42, 3) := by decide +kernel
theorem dX4_scanFrom_90 : decode cX4_scanFrom 90 = .ok (.aload_n 0, 1) := by decide +kernel
theorem dX4_scanFrom_91 : decode cX4_scanFrom 91 = .ok (.iload_n 3, 1) := by decide +kernel
theorem dX4_scanFrom_92 : decode cX4_scanFrom 92 = .ok (.invokevirtual 73, 3) := by decide +kernel
theorem dX4_scanFrom_95 : decode cX4_scanFrom 95 = .ok (.invokestatic 83, 3) := by decide +kernel
theorem dX4_scanFrom_98 : decode cX4_scanFrom 98 = .ok (.ifCond .eq 31, 3) := by decide +kernel
theorem dX4_scanFrom_101 : decode cX4_scanFrom 101 = .ok (.sipush 10000, 3) := by decide +kernel
theorem dX4_scanFrom_104 : decode cX4_scanFrom 104 = .ok (.iload 4, 2) := by decide +kernel
theorem dX4_scanFrom_106 : decode cX4_scanFrom 106 = .ok (.bipush 10, 2) := by decide +kernel
theorem dX4_scanFrom_108 : decode cX4_scanFrom 108 = .ok (.imul, 1) := by decide +kernel
theorem dX4_scanFrom_109 : decode cX4_scanFrom 109 = .ok (.aload_n 0, 1) := by decide +kernel
theorem dX4_scanFrom_110 : decode cX4_scanFrom 110 = .ok (.iload_n 3, 1) := by decide +kernel
theorem dX4_scanFrom_111 : decode cX4_scanFrom 111 = .ok (.invokevirtual 73, 3) := by decide +kernel
theorem dX4_scanFrom_114 : decode cX4_scanFrom 114 = .ok (.iadd, 1) := by decide +kernel
theorem dX4_scanFrom_115 : decode cX4_scanFrom 115 = .ok (.bipush 48, 2) := by decide +kernel
theorem dX4_scanFrom_117 : decode cX4_scanFrom 117 = .ok (.isub, 1) := by decide +kernel
theorem dX4_scanFrom_118 : decode cX4_scanFrom 118 = .ok (.invokestatic 86, 3) := by decide +kernel
theorem dX4_scanFrom_121 : decode cX4_scanFrom 121 = .ok (.istore 4, 2) := by decide +kernel
theorem dX4_scanFrom_123 : decode cX4_scanFrom 123 = .ok (.iinc 3 1, 3) := by decide +kernel
theorem dX4_scanFrom_126 : decode cX4_scanFrom 126 = .ok (.goto (-44), 3) := by decide +kernel
theorem dX4_scanFrom_129 : decode cX4_scanFrom 129 = .ok (.aload_n 0, 1) := by decide +kernel
theorem dX4_scanFrom_130 : decode cX4_scanFrom 130 = .ok (.bipush 40, 2) := by decide +kernel
theorem dX4_scanFrom_132 : decode cX4_scanFrom 132 = .ok (.iload_n 1, 1) := by decide +kernel
theorem dX4_scanFrom_133 : decode cX4_scanFrom 133 = .ok (.iload 4, 2) := by decide +kernel
theorem dX4_scanFrom_135 : decode cX4_scanFrom 135 = .ok (.invokevirtual 69, 3) := by decide +kernel
theorem dX4_scanFrom_138 : decode cX4_scanFrom 138 = .ok (.iload_n 3, 1) := by decide +kernel
theorem dX4_scanFrom_139 : decode cX4_scanFrom 139 = .ok (.ireturn, 1) := by decide +kernel
theorem dX4_scanFrom_140 : decode cX4_scanFrom 140 = .ok (.iload_n 2, 1) := by decide +kernel
theorem dX4_scanFrom_141 : decode cX4_scanFrom 141 = .ok (.bipush 60, 2) := by decide +kernel
theorem dX4_scanFrom_143 : decode cX4_scanFrom 143 = .ok (.if_icmp .eq 9, 3) := by decide +kernel
theorem dX4_scanFrom_146 : decode cX4_scanFrom 146 = .ok (.iload_n 2, 1) := by decide +kernel
theorem dX4_scanFrom_147 : decode cX4_scanFrom 147 = .ok (.bipush 62, 2) := by decide +kernel
theorem dX4_scanFrom_149 : decode cX4_scanFrom 149 = .ok (.if_icmp .ne 19, 3) := by decide +kernel
theorem dX4_scanFrom_152 : decode cX4_scanFrom 152 = .ok (.aload_n 0, 1) := by decide +kernel
theorem dX4_scanFrom_153 : decode cX4_scanFrom 153 = .ok (.iload_n 1, 1) := by decide +kernel
theorem dX4_scanFrom_154 : decode cX4_scanFrom 154 = .ok (.iconst 1, 1) := by decide +kernel
theorem dX4_scanFrom_155 : decode cX4_scanFrom 155 = .ok (.iadd, 1) := by decide +kernel
theorem dX4_scanFrom_156 : decode cX4_scanFrom 156 = .ok (.invokevirtual 73, 3) := by decide +kernel
theorem dX4_scanFrom_159 : decode cX4_scanFrom 159 = .ok (.bipush 61, 2) := by decide +kernel
theorem dX4_scanFrom_161 : decode cX4_scanFrom 161 = .ok (.if_icmp .ne 7, 3) := by decide +kernel
theorem dX4_scanFrom_164 : decode cX4_scanFrom 164 = .ok (.iconst 1, 1) := by decide +kernel
theorem dX4_scanFrom_165 : decode cX4_scanFrom 165 = .ok (.goto 4, 3) := by decide +kernel
theorem dX4_scanFrom_168 : decode cX4_scanFrom 168 = .ok (.iconst 0, 1) := by decide +kernel
theorem dX4_scanFrom_169 : decode cX4_scanFrom 169 = .ok (.istore_n 3, 1) := by decide +kernel
theorem dX4_scanFrom_170 : decode cX4_scanFrom 170 = .ok (.iload_n 3, 1) := by decide +kernel
theorem dX4_scanFrom_171 : decode cX4_scanFrom 171 = .ok (.ifCond .eq 26, 3) := by decide +kernel
theorem dX4_scanFrom_174 : decode cX4_scanFrom 174 = .ok (.aload_n 0, 1) := by decide +kernel
theorem dX4_scanFrom_175 : decode cX4_scanFrom 175 = .ok (.iload_n 2, 1) := by decide +kernel
theorem dX4_scanFrom_176 : decode cX4_scanFrom 176 = .ok (.bipush 60, 2) := by decide +kernel
theorem dX4_scanFrom_178 : decode cX4_scanFrom 178 = .ok (.if_icmp .ne 8, 3) := by decide +kernel
theorem dX4_scanFrom_181 : decode cX4_scanFrom 181 = .ok (.bipush 38, 2) := by decide +kernel
theorem dX4_scanFrom_183 : decode cX4_scanFrom 183 = .ok (.goto 5, 3) := by decide +kernel
theorem dX4_scanFrom_186 : decode cX4_scanFrom 186 = .ok (.bipush 39, 2) := by decide +kernel
theorem dX4_scanFrom_188 : decode cX4_scanFrom 188 = .ok (.iload_n 1, 1) := by decide +kernel
theorem dX4_scanFrom_189 : decode cX4_scanFrom 189 = .ok (.iconst 0, 1) := by decide +kernel
theorem dX4_scanFrom_190 : decode cX4_scanFrom 190 = .ok (.invokevirtual 69, 3) := by decide +kernel
theorem dX4_scanFrom_193 : decode cX4_scanFrom 193 = .ok (.iload_n 1, 1) := by decide +kernel
theorem dX4_scanFrom_194 : decode cX4_scanFrom 194 = .ok (.iconst 2, 1) := by decide +kernel
theorem dX4_scanFrom_195 : decode cX4_scanFrom 195 = .ok (.iadd, 1) := by decide +kernel
theorem dX4_scanFrom_196 : decode cX4_scanFrom 196 = .ok (.ireturn, 1) := by decide +kernel
theorem dX4_scanFrom_197 : decode cX4_scanFrom 197 = .ok (.ldc 91, 2) := by decide +kernel
theorem dX4_scanFrom_199 : decode cX4_scanFrom 199 = .ok (.iload_n 2, 1) := by decide +kernel
theorem dX4_scanFrom_200 : decode cX4_scanFrom 200 = .ok (.i2c, 1) := by decide +kernel
theorem dX4_scanFrom_201 : decode cX4_scanFrom 201 = .ok (.invokevirtual 93, 3) := by decide +kernel
theorem dX4_scanFrom_204 : decode cX4_scanFrom 204 = .ok (.istore 4, 2) := by decide +kernel
theorem dX4_scanFrom_206 : decode cX4_scanFrom 206 = .ok (.aload_n 0, 1) := by decide +kernel
theorem dX4_scanFrom_207 : decode cX4_scanFrom 207 = .ok (.iload 4, 2) := by decide +kernel
theorem dX4_scanFrom_209 : decode cX4_scanFrom 209 = .ok (.ifCond .ge 8, 3) := by decide +kernel
theorem dX4_scanFrom_212 : decode cX4_scanFrom 212 = .ok (.bipush 42, 2) := by decide +kernel
theorem dX4_scanFrom_214 : decode cX4_scanFrom 214 = .ok (.goto 8, 3) := by decide +kernel
theorem dX4_scanFrom_217 : decode cX4_scanFrom 217 = .ok (.bipush 27, 2) := by decide +kernel
theorem dX4_scanFrom_219 : decode cX4_scanFrom 219 = .ok (.iload 4, 2) := by decide +kernel
theorem dX4_scanFrom_221 : decode cX4_scanFrom 221 = .ok (.iadd, 1) := by decide +kernel
theorem dX4_scanFrom_222 : decode cX4_scanFrom 222 = .ok (.iload_n 1, 1) := by decide +kernel
theorem dX4_scanFrom_223 : decode cX4_scanFrom 223 = .ok (.iconst 0, 1) := by decide +kernel
theorem dX4_scanFrom_224 : decode cX4_scanFrom 224 = .ok (.invokevirtual 69, 3) := by decide +kernel
theorem dX4_scanFrom_227 : decode cX4_scanFrom 227 = .ok (.iload_n 1, 1) := by decide +kernel
theorem dX4_scanFrom_228 : decode cX4_scanFrom 228 = .ok (.iconst 1, 1) := by decide +kernel
theorem dX4_scanFrom_229 : decode cX4_scanFrom 229 = .ok (.iadd, 1) := by decide +kernel
theorem dX4_scanFrom_230 : decode cX4_scanFrom 230 = .ok (.ireturn, 1) := by decide +kernel
def g_X4_scanFrom_82 (M : xm) (x36 : Int32) : Nat → Int32 → Int32 → Option ((Int32 × Int32))
  | 0, _, _ => none
  | n + 1, x37, x38 => (if (M 990 5) ≤ x37 then some ((x37, x38)) else xb1 (f_X4_byteAt M x37) (fun v43 => (if (f_X4_isDigit v43) = 0 then some ((x37, x38)) else xb1 (f_X4_byteAt M x37) (fun v48 => xlet (xmin (10000 : Int32) (((x38 * (10 : Int32)) + v48) - (48 : Int32))) (fun v50 => xlet (x37 + (1 : Int32)) (fun v51 => g_X4_scanFrom_82 M x36 n v51 v50))))))
def g_X4_scanFrom_31 (M : xm) (x57 : Int32) : Nat → Int32 → Option ((Int32))
  | 0, _ => none
  | n + 1, x58 => (if (M 990 5) ≤ x58 then some (x58) else xb1 (f_X4_byteAt M x58) (fun v62 => (if (f_X4_isLetter v62) = 0 then some (x58) else xlet (x58 + (1 : Int32)) (fun v66 => g_X4_scanFrom_31 M x57 n v66))))
def f_X4_scanFrom (M : xm) (a1 : Int32) : Option (Int32 × xm) := xb1 (f_X4_byteAt M a1) (fun v2 => (if v2 = (32 : Int32) then some ((a1 + (1 : Int32)), M) else (if v2 = (10 : Int32) then some ((a1 + (1 : Int32)), M) else (if (f_X4_isLetter v2) = 0 then (if (f_X4_isDigit v2) = 0 then xlet (fun (w10 : Int32) => (if w10 = 0 then xb1 (f_J0_indexOf_0f7a4 0 ((v2.toUInt32 % 65536).toInt32)) (fun v14 => xlet (fun (w16 : Int32) => xb1 (f_X4_addToken M w16 a1 (0 : Int32)) (fun M19 => some ((a1 + (1 : Int32)), M19))) (fun k17 => (if 0 ≤ v14 then (k17 ((27 : Int32) + v14)) else (k17 (42 : Int32))))) else xlet (fun (w22 : Int32) => xb1 (f_X4_addToken M w22 a1 (0 : Int32)) (fun M25 => some ((a1 + (2 : Int32)), M25))) (fun k23 => (if v2 = (60 : Int32) then (k23 (38 : Int32)) else (k23 (39 : Int32)))))) (fun k11 => xlet ((k11 (0 : Int32))) (fun k28 => xlet (xb1 (f_X4_byteAt M (a1 + (1 : Int32))) (fun v31 => (if v31 = (61 : Int32) then (k11 (1 : Int32)) else k28))) (fun k29 => (if v2 = (60 : Int32) then k29 else (if v2 = (62 : Int32) then k29 else k28))))) else xb2 (g_X4_scanFrom_82 M a1 xfuel a1 (0 : Int32)) (fun v52 v53 => xb1 (f_X4_addToken M (40 : Int32) a1 v53) (fun M55 => some (v52, M55)))) else xb1 (g_X4_scanFrom_31 M a1 xfuel a1) (fun v67 => xb1 (f_X4_wordKind M a1 v67) (fun v69 => xb1 (f_X4_addToken M v69 a1 (0 : Int32)) (fun M72 => some (v67, M72))))))))
set_option maxHeartbeats 4000000 in
set_option maxRecDepth 20000 in
theorem j_X4_scanFrom_82 {p : Program} {l : Launch} {e : Env} {s : State} {m : MethodId} {args : Array Value} {below : List Frame} {meth : Method} {c : Code} {Q : State → Prop} {E : xE} {b : Nat} (C : xC p s m args meth c cX4_scanFrom 5 RX4 (some .int) E b) (M : xm) (x36 : Int32) {y39 : Int32} {y40 : Int32}
    (kx0 : ∀ (H : Heap) (locs : List Loc) (ls : Array Slot), xM E b NX (cX E b M) s.heap H locs → lv_has ls 5 [(0, .ref (b + 990)), (1, .int x36), (3, .int y39), (4, .int y40)] → W p l e (xR 7) s m args below meth c H locs 0 0 Q (F0 m 129 ls [])) :
    ∀ (n : Nat) (x37 : Int32) (x38 : Int32) (H : Heap) (locs : List Loc) (ls : Array Slot), g_X4_scanFrom_82 M x36 n x37 x38 = some (y39, y40) → xM E b NX (cX E b M) s.heap H locs → lv_has ls 5 [(0, .ref (b + 990)), (1, .int x36), (3, .int x37), (4, .int x38)] → W p l e (xR 7) s m args below meth c H locs 0 0 Q (F0 m 82 ls []) := by
  have hx := C.1.1
  have hb := C.1.2.1
  intro n
  induction n with
  | zero =>
    intro x37 x38 H locs ls hf hm hl
    rw [g_X4_scanFrom_82] at hf
    cases hf
  | succ n ih =>
    intro x37 x38 H locs ls hf hm hl
    rw [g_X4_scanFrom_82] at hf
    refine lv_iload_n hx hb dX4_scanFrom_82 rfl (lv_at hl 2 rfl) ?_
    refine lv_aload_n hx hb dX4_scanFrom_83 rfl (lv_at hl 0 rfl) ?_
    refine x_get C hm inX4 rfl 5 (by decide) tf_RX4_31 (cx_Reader (LX_reader 0 _ rfl)) rfl dX4_scanFrom_84 ?_
    refine lv_icmp_ge (tgt := 129) hx hb dX4_scanFrom_87 (by decide) (fun hc41 => ?_) (fun hc41 => ?_)
    · have hf := xif_t hc41 hf
      cases hf
      exact kx0 H locs ls hm (lv_sub hl [0, 1, 2, 3] rfl)
    have hf := xif_f hc41 hf
    refine lv_aload_n hx hb dX4_scanFrom_90 rfl (lv_at hl 0 rfl) ?_
    refine lv_iload_n hx hb dX4_scanFrom_91 rfl (lv_at hl 2 rfl) ?_
    obtain ⟨v43, hq42, hf⟩ := xb1_e hf
    refine x_callVi (As := [.int x37]) (rest := []) C hm (c_X4_byteAt l E b M x37 hq42) rfl (cx_Reader (LX_reader 0 _ rfl)) tc_X4_byteAt tm_RX4_73 ti_X4_byteAt ts_X4_byteAt tn_RX4 td_X4_byteAt rfl rfl ⟨Nat.le_of_ble_eq_true rfl, Nat.le_of_ble_eq_true rfl⟩ rfl hl.1 rfl (Nat.le_of_ble_eq_true rfl) ⟨Nat.zero_le _, Nat.zero_le _⟩ dX4_scanFrom_92 (fun H locs hP44 hm => ?_)
    refine x_callSi (As := [.int v43]) (rest := []) C hm (c_X4_isDigit l E b M v43 rfl) tc_X4_isDigit tm_RX4_83 tz_X4_isDigit tn_RX4 td_X4_isDigit rfl rfl ⟨Nat.le_of_ble_eq_true rfl, Nat.le_of_ble_eq_true rfl⟩ rfl hl.1 rfl (Nat.le_of_ble_eq_true rfl) ⟨Nat.zero_le _, Nat.zero_le _⟩ dX4_scanFrom_95 (fun H locs hP45 hm => ?_)
    refine lv_if_eq (tgt := 129) hx hb dX4_scanFrom_98 (by decide) (fun hc46 => ?_) (fun hc46 => ?_)
    · have hf := xif_t hc46 hf
      cases hf
      exact kx0 H locs ls hm (lv_sub hl [0, 1, 2, 3] rfl)
    have hf := xif_f hc46 hf
    refine lv_sipush (v := (10000 : Int32)) hx hb dX4_scanFrom_101 (by decide) ?_
    refine lv_iload hx hb dX4_scanFrom_104 (lv_at hl 3 rfl) ?_
    refine lv_bipush (v := (10 : Int32)) hx hb dX4_scanFrom_106 (by decide) ?_
    refine lv_imul hx hb dX4_scanFrom_108 ?_
    refine lv_aload_n hx hb dX4_scanFrom_109 rfl (lv_at hl 0 rfl) ?_
    refine lv_iload_n hx hb dX4_scanFrom_110 rfl (lv_at hl 2 rfl) ?_
    obtain ⟨v48, hq47, hf⟩ := xb1_e hf
    refine x_callVi (As := [.int x37]) (rest := [.int (x38 * (10 : Int32)), .int (10000 : Int32)]) C hm (c_X4_byteAt l E b M x37 hq47) rfl (cx_Reader (LX_reader 0 _ rfl)) tc_X4_byteAt tm_RX4_73 ti_X4_byteAt ts_X4_byteAt tn_RX4 td_X4_byteAt rfl rfl ⟨Nat.le_of_ble_eq_true rfl, Nat.le_of_ble_eq_true rfl⟩ rfl hl.1 rfl (Nat.le_of_ble_eq_true rfl) ⟨Nat.zero_le _, Nat.zero_le _⟩ dX4_scanFrom_111 (fun H locs hP49 hm => ?_)
    refine lv_iadd hx hb dX4_scanFrom_114 ?_
    refine lv_bipush (v := (48 : Int32)) hx hb dX4_scanFrom_115 (by decide) ?_
    refine lv_isub hx hb dX4_scanFrom_117 ?_
    refine va_mmin hx hb (C.1.2.2.1.trans hl.1.symm) C.1.2.2.2.1 (C.1.2.2.2.2 _ tm_RX4_86) (C.1.2.2.2.2 _ tz_Math_minI) (C.1.2.2.2.2 _ tn_Math) (C.1.2.2.2.2 _ tc_Math_minI) (Nat.le_of_ble_eq_true rfl) (Nat.le_of_ble_eq_true rfl) (Nat.zero_le _) (Nat.zero_le _) dX4_scanFrom_118 ?_
    refine lv_topi (fun v50 ev50 => ?_)
    have hf := xlet_e ev50 hf
    refine lv_istore (lv' := [(4, .int v50), (0, .ref (b + 990)), (1, .int x36), (3, .int x37)]) hx hb dX4_scanFrom_121 hl (by decide) rfl (fun ls hl => ?_)
    obtain ⟨v51, ev51, hf⟩ := xlet_x hf
    refine lv_iinc (v := v51) (lv' := [(3, .int v51), (4, .int v50), (0, .ref (b + 990)), (1, .int x36)]) hx hb dX4_scanFrom_123 hl (k := 3) rfl (by rw [ev51]; rfl) (by decide) rfl (fun ls hl => ?_)
    refine lv_goto (tgt := 82) hx hb dX4_scanFrom_126 (by decide) ?_
    exact ih v51 v50 H locs ls hf hm (lv_sub hl [2, 3, 0, 1] rfl)
set_option maxHeartbeats 4000000 in
set_option maxRecDepth 20000 in
theorem j_X4_scanFrom_31 {p : Program} {l : Launch} {e : Env} {s : State} {m : MethodId} {args : Array Value} {below : List Frame} {meth : Method} {c : Code} {Q : State → Prop} {E : xE} {b : Nat} (C : xC p s m args meth c cX4_scanFrom 5 RX4 (some .int) E b) (M : xm) (x57 : Int32) {y59 : Int32}
    (kx0 : ∀ (H : Heap) (locs : List Loc) (ls : Array Slot), xM E b NX (cX E b M) s.heap H locs → lv_has ls 5 [(0, .ref (b + 990)), (1, .int x57), (3, .int y59)] → W p l e (xR 7) s m args below meth c H locs 0 0 Q (F0 m 56 ls [])) :
    ∀ (n : Nat) (x58 : Int32) (H : Heap) (locs : List Loc) (ls : Array Slot), g_X4_scanFrom_31 M x57 n x58 = some y59 → xM E b NX (cX E b M) s.heap H locs → lv_has ls 5 [(0, .ref (b + 990)), (1, .int x57), (3, .int x58)] → W p l e (xR 7) s m args below meth c H locs 0 0 Q (F0 m 31 ls []) := by
  have hx := C.1.1
  have hb := C.1.2.1
  intro n
  induction n with
  | zero =>
    intro x58 H locs ls hf hm hl
    rw [g_X4_scanFrom_31] at hf
    cases hf
  | succ n ih =>
    intro x58 H locs ls hf hm hl
    rw [g_X4_scanFrom_31] at hf
    refine lv_iload_n hx hb dX4_scanFrom_31 rfl (lv_at hl 2 rfl) ?_
    refine lv_aload_n hx hb dX4_scanFrom_32 rfl (lv_at hl 0 rfl) ?_
    refine x_get C hm inX4 rfl 5 (by decide) tf_RX4_31 (cx_Reader (LX_reader 0 _ rfl)) rfl dX4_scanFrom_33 ?_
    refine lv_icmp_ge (tgt := 56) hx hb dX4_scanFrom_36 (by decide) (fun hc60 => ?_) (fun hc60 => ?_)
    · have hf := xif_t hc60 hf
      cases hf
      exact kx0 H locs ls hm (lv_sub hl [0, 1, 2] rfl)
    have hf := xif_f hc60 hf
    refine lv_aload_n hx hb dX4_scanFrom_39 rfl (lv_at hl 0 rfl) ?_
    refine lv_iload_n hx hb dX4_scanFrom_40 rfl (lv_at hl 2 rfl) ?_
    obtain ⟨v62, hq61, hf⟩ := xb1_e hf
    refine x_callVi (As := [.int x58]) (rest := []) C hm (c_X4_byteAt l E b M x58 hq61) rfl (cx_Reader (LX_reader 0 _ rfl)) tc_X4_byteAt tm_RX4_73 ti_X4_byteAt ts_X4_byteAt tn_RX4 td_X4_byteAt rfl rfl ⟨Nat.le_of_ble_eq_true rfl, Nat.le_of_ble_eq_true rfl⟩ rfl hl.1 rfl (Nat.le_of_ble_eq_true rfl) ⟨Nat.zero_le _, Nat.zero_le _⟩ dX4_scanFrom_41 (fun H locs hP63 hm => ?_)
    refine x_callSi (As := [.int v62]) (rest := []) C hm (c_X4_isLetter l E b M v62 rfl) tc_X4_isLetter tm_RX4_76 tz_X4_isLetter tn_RX4 td_X4_isLetter rfl rfl ⟨Nat.le_of_ble_eq_true rfl, Nat.le_of_ble_eq_true rfl⟩ rfl hl.1 rfl (Nat.le_of_ble_eq_true rfl) ⟨Nat.zero_le _, Nat.zero_le _⟩ dX4_scanFrom_44 (fun H locs hP64 hm => ?_)
    refine lv_if_eq (tgt := 56) hx hb dX4_scanFrom_47 (by decide) (fun hc65 => ?_) (fun hc65 => ?_)
    · have hf := xif_t hc65 hf
      cases hf
      exact kx0 H locs ls hm (lv_sub hl [0, 1, 2] rfl)
    have hf := xif_f hc65 hf
    obtain ⟨v66, ev66, hf⟩ := xlet_x hf
    refine lv_iinc (v := v66) (lv' := [(3, .int v66), (0, .ref (b + 990)), (1, .int x57)]) hx hb dX4_scanFrom_50 hl (k := 2) rfl (by rw [ev66]; rfl) (by decide) rfl (fun ls hl => ?_)
    refine lv_goto (tgt := 31) hx hb dX4_scanFrom_53 (by decide) ?_
    exact ih v66 H locs ls hf hm (lv_sub hl [1, 2, 0] rfl)
set_option maxHeartbeats 4000000 in
set_option maxRecDepth 20000 in
theorem c_X4_scanFrom (l : Launch) (E : xE) (b : Nat) (M : xm) (a1 : Int32) {r : Int32} {M' : xm} (hf : f_X4_scanFrom M a1 = some (r, M')) :
    xMet l E b NX yX4_scanFrom cX4_scanFrom 5 (some .int) (xR 7) [.ref (b + 990), .int a1] (cX E b M) (some (.int r)) True (cX E b M') := by
  refine xMet.ofW (own := RX4) (by decide) rfl (Nat.le_of_ble_eq_true rfl) ?_
  intro p e s m below meth c H locs ls C hm hl
  have hx := C.1.1
  have hb := C.1.2.1
  have hl : lv_has ls 5 [(0, .ref (b + 990)), (1, .int a1)] := hl
  unfold f_X4_scanFrom at hf
  refine lv_aload_n hx hb dX4_scanFrom_0 rfl (lv_at hl 0 rfl) ?_
  refine lv_iload_n hx hb dX4_scanFrom_1 rfl (lv_at hl 1 rfl) ?_
  obtain ⟨v2, hq1, hf⟩ := xb1_e hf
  refine x_callVi (As := [.int a1]) (rest := []) C hm (c_X4_byteAt l E b M a1 hq1) rfl (cx_Reader (LX_reader 0 _ rfl)) tc_X4_byteAt tm_RX4_73 ti_X4_byteAt ts_X4_byteAt tn_RX4 td_X4_byteAt rfl rfl ⟨Nat.le_of_ble_eq_true rfl, Nat.le_of_ble_eq_true rfl⟩ rfl hl.1 rfl (Nat.le_of_ble_eq_true rfl) ⟨Nat.zero_le _, Nat.zero_le _⟩ dX4_scanFrom_2 (fun H locs hP3 hm => ?_)
  refine lv_istore_n (lv' := [(2, .int v2), (0, .ref (b + 990)), (1, .int a1)]) hx hb dX4_scanFrom_5 rfl hl (by decide) rfl (fun ls hl => ?_)
  refine lv_iload_n hx hb dX4_scanFrom_6 rfl (lv_at hl 0 rfl) ?_
  refine lv_bipush (v := (32 : Int32)) hx hb dX4_scanFrom_7 (by decide) ?_
  refine lv_icmp_eq (tgt := 18) hx hb dX4_scanFrom_9 (by decide) (fun hc4 => ?_) (fun hc4 => ?_)
  · have hf := xif_t hc4 hf
    refine lv_iload_n hx hb dX4_scanFrom_18 rfl (lv_at hl 2 rfl) ?_
    refine lv_iconst (v := (1 : Int32)) hx hb dX4_scanFrom_19 (by decide) ?_
    refine lv_iadd hx hb dX4_scanFrom_20 ?_
    cases hf
    exact x_iret C hm trivial dX4_scanFrom_21
  have hf := xif_f hc4 hf
  refine lv_iload_n hx hb dX4_scanFrom_12 rfl (lv_at hl 0 rfl) ?_
  refine lv_bipush (v := (10 : Int32)) hx hb dX4_scanFrom_13 (by decide) ?_
  refine lv_icmp_ne (tgt := 22) hx hb dX4_scanFrom_15 (by decide) (fun hc5 => ?_) (fun hc5 => ?_)
  rotate_left
  · have hf := xif_t hc5 hf
    refine lv_iload_n hx hb dX4_scanFrom_18 rfl (lv_at hl 2 rfl) ?_
    refine lv_iconst (v := (1 : Int32)) hx hb dX4_scanFrom_19 (by decide) ?_
    refine lv_iadd hx hb dX4_scanFrom_20 ?_
    cases hf
    exact x_iret C hm trivial dX4_scanFrom_21
  have hf := xif_f hc5 hf
  refine lv_iload_n hx hb dX4_scanFrom_22 rfl (lv_at hl 0 rfl) ?_
  refine x_callSi (As := [.int v2]) (rest := []) C hm (c_X4_isLetter l E b M v2 rfl) tc_X4_isLetter tm_RX4_76 tz_X4_isLetter tn_RX4 td_X4_isLetter rfl rfl ⟨Nat.le_of_ble_eq_true rfl, Nat.le_of_ble_eq_true rfl⟩ rfl hl.1 rfl (Nat.le_of_ble_eq_true rfl) ⟨Nat.zero_le _, Nat.zero_le _⟩ dX4_scanFrom_23 (fun H locs hP6 hm => ?_)
  refine lv_if_eq (tgt := 70) hx hb dX4_scanFrom_26 (by decide) (fun hc7 => ?_) (fun hc7 => ?_)
  rotate_left
  · have hf := xif_f hc7 hf
    refine lv_iload_n hx hb dX4_scanFrom_29 rfl (lv_at hl 2 rfl) ?_
    refine lv_istore_n (lv' := [(3, .int a1), (2, .int v2), (0, .ref (b + 990)), (1, .int a1)]) hx hb dX4_scanFrom_30 rfl hl (by decide) rfl (fun ls hl => ?_)
    obtain ⟨v67, hq, hf⟩ := xb1_e hf
    refine j_X4_scanFrom_31 C M a1 (fun H locs ls hm hl => ?_) xfuel a1 H locs ls hq hm (lv_sub hl [2, 3, 0] rfl)
    refine lv_aload_n hx hb dX4_scanFrom_56 rfl (lv_at hl 0 rfl) ?_
    refine lv_aload_n hx hb dX4_scanFrom_57 rfl (lv_at hl 0 rfl) ?_
    refine lv_iload_n hx hb dX4_scanFrom_58 rfl (lv_at hl 1 rfl) ?_
    refine lv_iload_n hx hb dX4_scanFrom_59 rfl (lv_at hl 2 rfl) ?_
    obtain ⟨v69, hq68, hf⟩ := xb1_e hf
    refine x_callVi (As := [.int a1, .int v67]) (rest := [.ref (b + 990)]) C hm (c_X4_wordKind l E b M a1 v67 hq68) rfl (cx_Reader (LX_reader 0 _ rfl)) tc_X4_wordKind tm_RX4_79 ti_X4_wordKind ts_X4_wordKind tn_RX4 td_X4_wordKind rfl rfl ⟨Nat.le_of_ble_eq_true rfl, Nat.le_of_ble_eq_true rfl⟩ rfl hl.1 rfl (Nat.le_of_ble_eq_true rfl) ⟨Nat.zero_le _, Nat.zero_le _⟩ dX4_scanFrom_60 (fun H locs hP70 hm => ?_)
    refine lv_iload_n hx hb dX4_scanFrom_63 rfl (lv_at hl 1 rfl) ?_
    refine lv_iconst (v := (0 : Int32)) hx hb dX4_scanFrom_64 (by decide) ?_
    obtain ⟨M72, hq71, hf⟩ := xb1_e hf
    refine x_callVv (As := [.int v69, .int a1, .int (0 : Int32)]) (rest := []) C hm (c_X4_addToken l E b M v69 a1 (0 : Int32) hq71) rfl (cx_Reader (LX_reader 0 _ rfl)) tc_X4_addToken tm_RX4_69 ti_X4_addToken ts_X4_addToken tn_RX4 td_X4_addToken rfl rfl ⟨Nat.le_of_ble_eq_true rfl, Nat.le_of_ble_eq_true rfl⟩ rfl hl.1 rfl (Nat.le_of_ble_eq_true rfl) ⟨Nat.zero_le _, Nat.zero_le _⟩ dX4_scanFrom_65 (fun H locs hP73 hm => ?_)
    refine lv_iload_n hx hb dX4_scanFrom_68 rfl (lv_at hl 2 rfl) ?_
    cases hf
    exact x_iret C hm trivial dX4_scanFrom_69
  have hf := xif_t hc7 hf
  refine lv_iload_n hx hb dX4_scanFrom_70 rfl (lv_at hl 0 rfl) ?_
  refine x_callSi (As := [.int v2]) (rest := []) C hm (c_X4_isDigit l E b M v2 rfl) tc_X4_isDigit tm_RX4_83 tz_X4_isDigit tn_RX4 td_X4_isDigit rfl rfl ⟨Nat.le_of_ble_eq_true rfl, Nat.le_of_ble_eq_true rfl⟩ rfl hl.1 rfl (Nat.le_of_ble_eq_true rfl) ⟨Nat.zero_le _, Nat.zero_le _⟩ dX4_scanFrom_71 (fun H locs hP8 hm => ?_)
  refine lv_if_eq (tgt := 140) hx hb dX4_scanFrom_74 (by decide) (fun hc9 => ?_) (fun hc9 => ?_)
  rotate_left
  · have hf := xif_f hc9 hf
    refine lv_iload_n hx hb dX4_scanFrom_77 rfl (lv_at hl 2 rfl) ?_
    refine lv_istore_n (lv' := [(3, .int a1), (2, .int v2), (0, .ref (b + 990)), (1, .int a1)]) hx hb dX4_scanFrom_78 rfl hl (by decide) rfl (fun ls hl => ?_)
    refine lv_iconst (v := (0 : Int32)) hx hb dX4_scanFrom_79 (by decide) ?_
    refine lv_istore (lv' := [(4, .int (0 : Int32)), (3, .int a1), (2, .int v2), (0, .ref (b + 990)), (1, .int a1)]) hx hb dX4_scanFrom_80 hl (by decide) rfl (fun ls hl => ?_)
    obtain ⟨v52, v53, hq, hf⟩ := xb2_e hf
    refine j_X4_scanFrom_82 C M a1 (fun H locs ls hm hl => ?_) xfuel a1 (0 : Int32) H locs ls hq hm (lv_sub hl [3, 4, 1, 0] rfl)
    refine lv_aload_n hx hb dX4_scanFrom_129 rfl (lv_at hl 0 rfl) ?_
    refine lv_bipush (v := (40 : Int32)) hx hb dX4_scanFrom_130 (by decide) ?_
    refine lv_iload_n hx hb dX4_scanFrom_132 rfl (lv_at hl 1 rfl) ?_
    refine lv_iload hx hb dX4_scanFrom_133 (lv_at hl 3 rfl) ?_
    obtain ⟨M55, hq54, hf⟩ := xb1_e hf
    refine x_callVv (As := [.int (40 : Int32), .int a1, .int v53]) (rest := []) C hm (c_X4_addToken l E b M (40 : Int32) a1 v53 hq54) rfl (cx_Reader (LX_reader 0 _ rfl)) tc_X4_addToken tm_RX4_69 ti_X4_addToken ts_X4_addToken tn_RX4 td_X4_addToken rfl rfl ⟨Nat.le_of_ble_eq_true rfl, Nat.le_of_ble_eq_true rfl⟩ rfl hl.1 rfl (Nat.le_of_ble_eq_true rfl) ⟨Nat.zero_le _, Nat.zero_le _⟩ dX4_scanFrom_135 (fun H locs hP56 hm => ?_)
    refine lv_iload_n hx hb dX4_scanFrom_138 rfl (lv_at hl 2 rfl) ?_
    cases hf
    exact x_iret C hm trivial dX4_scanFrom_139
  have hf := xif_t hc9 hf
  refine lv_iload_n hx hb dX4_scanFrom_140 rfl (lv_at hl 0 rfl) ?_
  refine lv_bipush (v := (60 : Int32)) hx hb dX4_scanFrom_141 (by decide) ?_
  obtain ⟨k11, ek11, hf⟩ := xlet_x hf
  have jk11 : ∀ (w10 : Int32) (H : Heap) (locs : List Loc) (ls : Array Slot), k11 w10 = some (r, M') → xM E b NX (cX E b M) s.heap H locs → lv_has ls 5 [(0, .ref (b + 990)), (1, .int a1), (2, .int v2)] → W p l e (xR 7) s m ([.ref (b + 990), .int a1] : List Value).toArray below meth c H locs 0 0 (MQ below (xQ E b NX (some (.int r)) True (cX E b M')) ([.ref (b + 990), .int a1] : List Value).toArray s 0 0 (xA b NX)) (F0 m 169 ls [.int w10]) := by
    intro w10 H locs ls hf hm hl
    have hf := xap1 ek11 hf
    refine lv_istore_n (lv' := [(3, .int w10), (0, .ref (b + 990)), (1, .int a1), (2, .int v2)]) hx hb dX4_scanFrom_169 rfl hl (by decide) rfl (fun ls hl => ?_)
    refine lv_iload_n hx hb dX4_scanFrom_170 rfl (lv_at hl 0 rfl) ?_
    refine lv_if_eq (tgt := 197) hx hb dX4_scanFrom_171 (by decide) (fun hc12 => ?_) (fun hc12 => ?_)
    rotate_left
    · have hf := xif_f hc12 hf
      refine lv_aload_n hx hb dX4_scanFrom_174 rfl (lv_at hl 1 rfl) ?_
      refine lv_iload_n hx hb dX4_scanFrom_175 rfl (lv_at hl 3 rfl) ?_
      refine lv_bipush (v := (60 : Int32)) hx hb dX4_scanFrom_176 (by decide) ?_
      obtain ⟨k23, ek23, hf⟩ := xlet_x hf
      have jk23 : ∀ (w22 : Int32) (H : Heap) (locs : List Loc) (ls : Array Slot), k23 w22 = some (r, M') → xM E b NX (cX E b M) s.heap H locs → lv_has ls 5 [(1, .int a1)] → W p l e (xR 7) s m ([.ref (b + 990), .int a1] : List Value).toArray below meth c H locs 0 0 (MQ below (xQ E b NX (some (.int r)) True (cX E b M')) ([.ref (b + 990), .int a1] : List Value).toArray s 0 0 (xA b NX)) (F0 m 188 ls [.int w22, .ref (b + 990)]) := by
        intro w22 H locs ls hf hm hl
        have hf := xap1 ek23 hf
        refine lv_iload_n hx hb dX4_scanFrom_188 rfl (lv_at hl 0 rfl) ?_
        refine lv_iconst (v := (0 : Int32)) hx hb dX4_scanFrom_189 (by decide) ?_
        obtain ⟨M25, hq24, hf⟩ := xb1_e hf
        refine x_callVv (As := [.int w22, .int a1, .int (0 : Int32)]) (rest := []) C hm (c_X4_addToken l E b M w22 a1 (0 : Int32) hq24) rfl (cx_Reader (LX_reader 0 _ rfl)) tc_X4_addToken tm_RX4_69 ti_X4_addToken ts_X4_addToken tn_RX4 td_X4_addToken rfl rfl ⟨Nat.le_of_ble_eq_true rfl, Nat.le_of_ble_eq_true rfl⟩ rfl hl.1 rfl (Nat.le_of_ble_eq_true rfl) ⟨Nat.zero_le _, Nat.zero_le _⟩ dX4_scanFrom_190 (fun H locs hP26 hm => ?_)
        refine lv_iload_n hx hb dX4_scanFrom_193 rfl (lv_at hl 0 rfl) ?_
        refine lv_iconst (v := (2 : Int32)) hx hb dX4_scanFrom_194 (by decide) ?_
        refine lv_iadd hx hb dX4_scanFrom_195 ?_
        cases hf
        exact x_iret C hm trivial dX4_scanFrom_196
      refine lv_icmp_ne (tgt := 186) hx hb dX4_scanFrom_178 (by decide) (fun hc27 => ?_) (fun hc27 => ?_)
      · have hf := xif_f hc27 hf
        refine lv_bipush (v := (39 : Int32)) hx hb dX4_scanFrom_186 (by decide) ?_
        exact jk23 (39 : Int32) H locs ls  hf hm (lv_sub hl [2] rfl)
      have hf := xif_t hc27 hf
      refine lv_bipush (v := (38 : Int32)) hx hb dX4_scanFrom_181 (by decide) ?_
      refine lv_goto (tgt := 188) hx hb dX4_scanFrom_183 (by decide) ?_
      exact jk23 (38 : Int32) H locs ls  hf hm (lv_sub hl [2] rfl)
    have hf := xif_t hc12 hf
    refine va_ldcS hx hb C.1.2.2.2.1 C.2.2.2.2.2.2.1 dX4_scanFrom_197 ?_
    refine lv_iload_n hx hb dX4_scanFrom_199 rfl (lv_at hl 3 rfl) ?_
    refine lv_i2c hx hb dX4_scanFrom_200 rfl ?_
    obtain ⟨v14, hq13, hf⟩ := xb1_e hf
    refine x_callVAi (As := [.int ((v2.toUInt32 % 65536).toInt32)]) (rest := []) C hm (c_J0_indexOf_0f7a4 l E b (by decide) M ((v2.toUInt32 % 65536).toInt32) hq13) (xs_recv C hm (by decide)) tc_J0_indexOf_0f7a4 tm_RX4_93 ti_J0_indexOf_0f7a4 ts_J0_indexOf_0f7a4 tn_RJ0 td_J0_indexOf_0f7a4 rfl rfl ⟨Nat.le_of_ble_eq_true rfl, Nat.le_of_ble_eq_true rfl⟩ rfl hl.1 rfl (Nat.le_of_ble_eq_true rfl) ⟨Nat.zero_le _, Nat.zero_le _⟩ dX4_scanFrom_201 (fun H locs hP15 hm => ?_)
    refine lv_istore (lv' := [(4, .int v14), (3, .int w10), (0, .ref (b + 990)), (1, .int a1), (2, .int v2)]) hx hb dX4_scanFrom_204 hl (by decide) rfl (fun ls hl => ?_)
    refine lv_aload_n hx hb dX4_scanFrom_206 rfl (lv_at hl 2 rfl) ?_
    refine lv_iload hx hb dX4_scanFrom_207 (lv_at hl 0 rfl) ?_
    obtain ⟨k17, ek17, hf⟩ := xlet_x hf
    have jk17 : ∀ (w16 : Int32) (H : Heap) (locs : List Loc) (ls : Array Slot), k17 w16 = some (r, M') → xM E b NX (cX E b M) s.heap H locs → lv_has ls 5 [(1, .int a1)] → W p l e (xR 7) s m ([.ref (b + 990), .int a1] : List Value).toArray below meth c H locs 0 0 (MQ below (xQ E b NX (some (.int r)) True (cX E b M')) ([.ref (b + 990), .int a1] : List Value).toArray s 0 0 (xA b NX)) (F0 m 222 ls [.int w16, .ref (b + 990)]) := by
      intro w16 H locs ls hf hm hl
      have hf := xap1 ek17 hf
      refine lv_iload_n hx hb dX4_scanFrom_222 rfl (lv_at hl 0 rfl) ?_
      refine lv_iconst (v := (0 : Int32)) hx hb dX4_scanFrom_223 (by decide) ?_
      obtain ⟨M19, hq18, hf⟩ := xb1_e hf
      refine x_callVv (As := [.int w16, .int a1, .int (0 : Int32)]) (rest := []) C hm (c_X4_addToken l E b M w16 a1 (0 : Int32) hq18) rfl (cx_Reader (LX_reader 0 _ rfl)) tc_X4_addToken tm_RX4_69 ti_X4_addToken ts_X4_addToken tn_RX4 td_X4_addToken rfl rfl ⟨Nat.le_of_ble_eq_true rfl, Nat.le_of_ble_eq_true rfl⟩ rfl hl.1 rfl (Nat.le_of_ble_eq_true rfl) ⟨Nat.zero_le _, Nat.zero_le _⟩ dX4_scanFrom_224 (fun H locs hP20 hm => ?_)
      refine lv_iload_n hx hb dX4_scanFrom_227 rfl (lv_at hl 0 rfl) ?_
      refine lv_iconst (v := (1 : Int32)) hx hb dX4_scanFrom_228 (by decide) ?_
      refine lv_iadd hx hb dX4_scanFrom_229 ?_
      cases hf
      exact x_iret C hm trivial dX4_scanFrom_230
    refine lv_if_ge (tgt := 217) hx hb dX4_scanFrom_209 (by decide) (fun hc21 => ?_) (fun hc21 => ?_)
    rotate_left
    · have hf := xif_f hc21 hf
      refine lv_bipush (v := (42 : Int32)) hx hb dX4_scanFrom_212 (by decide) ?_
      refine lv_goto (tgt := 222) hx hb dX4_scanFrom_214 (by decide) ?_
      exact jk17 (42 : Int32) H locs ls  hf hm (lv_sub hl [3] rfl)
    have hf := xif_t hc21 hf
    refine lv_bipush (v := (27 : Int32)) hx hb dX4_scanFrom_217 (by decide) ?_
    refine lv_iload hx hb dX4_scanFrom_219 (lv_at hl 0 rfl) ?_
    refine lv_iadd hx hb dX4_scanFrom_221 ?_
    exact jk17 ((27 : Int32) + v14) H locs ls  hf hm (lv_sub hl [3] rfl)
  obtain ⟨k28, ek28, hf⟩ := xlet_x hf
  have jk28 : ∀  (H : Heap) (locs : List Loc) (ls : Array Slot), k28 = some (r, M') → xM E b NX (cX E b M) s.heap H locs → lv_has ls 5 [(0, .ref (b + 990)), (1, .int a1), (2, .int v2)] → W p l e (xR 7) s m ([.ref (b + 990), .int a1] : List Value).toArray below meth c H locs 0 0 (MQ below (xQ E b NX (some (.int r)) True (cX E b M')) ([.ref (b + 990), .int a1] : List Value).toArray s 0 0 (xA b NX)) (F0 m 168 ls []) := by
    intro  H locs ls hf hm hl
    have hf := xap0 ek28 hf
    refine lv_iconst (v := (0 : Int32)) hx hb dX4_scanFrom_168 (by decide) ?_
    exact jk11 (0 : Int32) H locs ls  hf hm (lv_sub hl [0, 1, 2] rfl)
  obtain ⟨k29, ek29, hf⟩ := xlet_x hf
  have jk29 : ∀  (H : Heap) (locs : List Loc) (ls : Array Slot), k29 = some (r, M') → xM E b NX (cX E b M) s.heap H locs → lv_has ls 5 [(0, .ref (b + 990)), (1, .int a1), (2, .int v2)] → W p l e (xR 7) s m ([.ref (b + 990), .int a1] : List Value).toArray below meth c H locs 0 0 (MQ below (xQ E b NX (some (.int r)) True (cX E b M')) ([.ref (b + 990), .int a1] : List Value).toArray s 0 0 (xA b NX)) (F0 m 152 ls []) := by
    intro  H locs ls hf hm hl
    have hf := xap0 ek29 hf
    refine lv_aload_n hx hb dX4_scanFrom_152 rfl (lv_at hl 0 rfl) ?_
    refine lv_iload_n hx hb dX4_scanFrom_153 rfl (lv_at hl 1 rfl) ?_
    refine lv_iconst (v := (1 : Int32)) hx hb dX4_scanFrom_154 (by decide) ?_
    refine lv_iadd hx hb dX4_scanFrom_155 ?_
    obtain ⟨v31, hq30, hf⟩ := xb1_e hf
    refine x_callVi (As := [.int (a1 + (1 : Int32))]) (rest := []) C hm (c_X4_byteAt l E b M (a1 + (1 : Int32)) hq30) rfl (cx_Reader (LX_reader 0 _ rfl)) tc_X4_byteAt tm_RX4_73 ti_X4_byteAt ts_X4_byteAt tn_RX4 td_X4_byteAt rfl rfl ⟨Nat.le_of_ble_eq_true rfl, Nat.le_of_ble_eq_true rfl⟩ rfl hl.1 rfl (Nat.le_of_ble_eq_true rfl) ⟨Nat.zero_le _, Nat.zero_le _⟩ dX4_scanFrom_156 (fun H locs hP32 hm => ?_)
    refine lv_bipush (v := (61 : Int32)) hx hb dX4_scanFrom_159 (by decide) ?_
    refine lv_icmp_ne (tgt := 168) hx hb dX4_scanFrom_161 (by decide) (fun hc33 => ?_) (fun hc33 => ?_)
    · have hf := xif_f hc33 hf
      exact jk28  H locs ls  hf hm (lv_sub hl [0, 1, 2] rfl)
    have hf := xif_t hc33 hf
    refine lv_iconst (v := (1 : Int32)) hx hb dX4_scanFrom_164 (by decide) ?_
    refine lv_goto (tgt := 169) hx hb dX4_scanFrom_165 (by decide) ?_
    exact jk11 (1 : Int32) H locs ls  hf hm (lv_sub hl [0, 1, 2] rfl)
  refine lv_icmp_eq (tgt := 152) hx hb dX4_scanFrom_143 (by decide) (fun hc34 => ?_) (fun hc34 => ?_)
  · have hf := xif_t hc34 hf
    exact jk29  H locs ls  hf hm (lv_sub hl [1, 2, 0] rfl)
  have hf := xif_f hc34 hf
  refine lv_iload_n hx hb dX4_scanFrom_146 rfl (lv_at hl 0 rfl) ?_
  refine lv_bipush (v := (62 : Int32)) hx hb dX4_scanFrom_147 (by decide) ?_
  refine lv_icmp_ne (tgt := 168) hx hb dX4_scanFrom_149 (by decide) (fun hc35 => ?_) (fun hc35 => ?_)
  · have hf := xif_f hc35 hf
    exact jk28  H locs ls  hf hm (lv_sub hl [1, 2, 0] rfl)
  have hf := xif_t hc35 hf
  exact jk29  H locs ls  hf hm (lv_sub hl [1, 2, 0] rfl)
/-! ColouredHeap$Reader.scan()V -/
theorem dX4_scan_0 : decode cX4_scan 0 = .ok (.aload_n 0, 1) := by decide +kernel
theorem dX4_scan_1 : decode cX4_scan 1 = .ok (.iconst 0, 1) := by decide +kernel
theorem dX4_scan_2 : decode cX4_scan 2 = .ok (.putfield 41, 3) := by decide +kernel
theorem dX4_scan_5 : decode cX4_scan 5 = .ok (.iconst 0, 1) := by decide +kernel
theorem dX4_scan_6 : decode cX4_scan 6 = .ok (.istore_n 1, 1) := by decide +kernel
theorem dX4_scan_7 : decode cX4_scan 7 = .ok (.iconst 0, 1) := by decide +kernel
theorem dX4_scan_8 : decode cX4_scan 8 = .ok (.istore_n 2, 1) := by decide +kernel
theorem dX4_scan_9 : decode cX4_scan 9 = .ok (.iload_n 2, 1) := by decide +kernel
theorem dX4_scan_10 : decode cX4_scan 10 = .ok (.sipush 300, 3) := by decide +kernel
theorem dX4_scan_13 : decode cX4_scan 13 = .ok (.if_icmp .ge 23, 3) := by decide +kernel
theorem dX4_scan_16 : decode cX4_scan 16 = .ok (.iload_n 1, 1) := by decide +kernel
theorem dX4_scan_17 : decode cX4_scan 17 = .ok (.aload_n 0, 1) := by decide +kernel
theorem dX4_scan_18 : decode cX4_scan 18 = .ok (.getfield 31, 3) := by decide +kernel
theorem dX4_scan_21 : decode cX4_scan 21 = .ok (.if_icmp .ge 15, 3) := by decide +kernel
theorem dX4_scan_24 : decode cX4_scan 24 = .ok (.aload_n 0, 1) := by decide +kernel
theorem dX4_scan_25 : decode cX4_scan 25 = .ok (.iload_n 1, 1) := by decide +kernel
theorem dX4_scan_26 : decode cX4_scan 26 = .ok (.invokevirtual 65, 3) := by decide +kernel
theorem dX4_scan_29 : decode cX4_scan 29 = .ok (.istore_n 1, 1) := by decide +kernel
theorem dX4_scan_30 : decode cX4_scan 30 = .ok (.iinc 2 1, 3) := by decide +kernel
theorem dX4_scan_33 : decode cX4_scan 33 = .ok (.goto (-24), 3) := by decide +kernel
theorem dX4_scan_36 : decode cX4_scan 36 = .ok (.aload_n 0, 1) := by decide +kernel
theorem dX4_scan_37 : decode cX4_scan 37 = .ok (.bipush 41, 2) := by decide +kernel
theorem dX4_scan_39 : decode cX4_scan 39 = .ok (.aload_n 0, 1) := by decide +kernel
theorem dX4_scan_40 : decode cX4_scan 40 = .ok (.getfield 31, 3) := by decide +kernel
theorem dX4_scan_43 : decode cX4_scan 43 = .ok (.iconst 0, 1) := by decide +kernel
theorem dX4_scan_44 : decode cX4_scan 44 = .ok (.invokevirtual 69, 3) := by decide +kernel
theorem dX4_scan_47 : decode cX4_scan 47 = .ok (.return_, 1) := by decide +kernel
def g_X4_scan_9  : Nat → xm → Int32 → Int32 → Option ((xm))
  | 0, _, _, _ => none
  | n + 1, M4, x2, x3 => (if (300 : Int32) ≤ x3 then some (M4) else (if (M4 990 5) ≤ x2 then some (M4) else xb2 (f_X4_scanFrom M4 x2) (fun v9 M10 => xlet (x3 + (1 : Int32)) (fun v12 => g_X4_scan_9 n M10 v9 v12))))
def f_X4_scan (M : xm) : Option (xm) := xlet (up2 M 990 8 (0 : Int32)) (fun M1 => xb1 (g_X4_scan_9 xfuel M1 (0 : Int32) (0 : Int32)) (fun M13 => xb1 (f_X4_addToken M13 (41 : Int32) (M13 990 5) (0 : Int32)) (fun M15 => some M15)))
set_option maxHeartbeats 4000000 in
set_option maxRecDepth 20000 in
theorem j_X4_scan_9 {p : Program} {l : Launch} {e : Env} {s : State} {m : MethodId} {args : Array Value} {below : List Frame} {meth : Method} {c : Code} {Q : State → Prop} {E : xE} {b : Nat} (C : xC p s m args meth c cX4_scan 3 RX4 none E b)  {y5 : xm}
    (kx0 : ∀ (H : Heap) (locs : List Loc) (ls : Array Slot), xM E b NX (cX E b y5) s.heap H locs → lv_has ls 3 [(0, .ref (b + 990))] → W p l e (xR 8) s m args below meth c H locs 0 0 Q (F0 m 36 ls [])) :
    ∀ (n : Nat) (M4 : xm) (x2 : Int32) (x3 : Int32) (H : Heap) (locs : List Loc) (ls : Array Slot), g_X4_scan_9 n M4 x2 x3 = some y5 → xM E b NX (cX E b M4) s.heap H locs → lv_has ls 3 [(0, .ref (b + 990)), (1, .int x2), (2, .int x3)] → W p l e (xR 8) s m args below meth c H locs 0 0 Q (F0 m 9 ls []) := by
  have hx := C.1.1
  have hb := C.1.2.1
  intro n
  induction n with
  | zero =>
    intro M4 x2 x3 H locs ls hf hm hl
    rw [g_X4_scan_9] at hf
    cases hf
  | succ n ih =>
    intro M4 x2 x3 H locs ls hf hm hl
    rw [g_X4_scan_9] at hf
    refine lv_iload_n hx hb dX4_scan_9 rfl (lv_at hl 2 rfl) ?_
    refine lv_sipush (v := (300 : Int32)) hx hb dX4_scan_10 (by decide) ?_
    refine lv_icmp_ge (tgt := 36) hx hb dX4_scan_13 (by decide) (fun hc6 => ?_) (fun hc6 => ?_)
    · have hf := xif_t hc6 hf
      cases hf
      exact kx0 H locs ls hm (lv_sub hl [0] rfl)
    have hf := xif_f hc6 hf
    refine lv_iload_n hx hb dX4_scan_16 rfl (lv_at hl 1 rfl) ?_
    refine lv_aload_n hx hb dX4_scan_17 rfl (lv_at hl 0 rfl) ?_
    refine x_get C hm inX4 rfl 5 (by decide) tf_RX4_31 (cx_Reader (LX_reader 0 _ rfl)) rfl dX4_scan_18 ?_
    refine lv_icmp_ge (tgt := 36) hx hb dX4_scan_21 (by decide) (fun hc7 => ?_) (fun hc7 => ?_)
    · have hf := xif_t hc7 hf
      cases hf
      exact kx0 H locs ls hm (lv_sub hl [0] rfl)
    have hf := xif_f hc7 hf
    refine lv_aload_n hx hb dX4_scan_24 rfl (lv_at hl 0 rfl) ?_
    refine lv_iload_n hx hb dX4_scan_25 rfl (lv_at hl 1 rfl) ?_
    obtain ⟨v9, M10, hq8, hf⟩ := xb2_e hf
    refine x_callVi (As := [.int x2]) (rest := []) C hm (c_X4_scanFrom l E b M4 x2 hq8) rfl (cx_Reader (LX_reader 0 _ rfl)) tc_X4_scanFrom tm_RX4_65 ti_X4_scanFrom ts_X4_scanFrom tn_RX4 td_X4_scanFrom rfl rfl ⟨Nat.le_of_ble_eq_true rfl, Nat.le_of_ble_eq_true rfl⟩ rfl hl.1 rfl (Nat.le_of_ble_eq_true rfl) ⟨Nat.zero_le _, Nat.zero_le _⟩ dX4_scan_26 (fun H locs hP11 hm => ?_)
    refine lv_istore_n (lv' := [(1, .int v9), (0, .ref (b + 990)), (2, .int x3)]) hx hb dX4_scan_29 rfl hl (by decide) rfl (fun ls hl => ?_)
    obtain ⟨v12, ev12, hf⟩ := xlet_x hf
    refine lv_iinc (v := v12) (lv' := [(2, .int v12), (1, .int v9), (0, .ref (b + 990))]) hx hb dX4_scan_30 hl (k := 2) rfl (by rw [ev12]; rfl) (by decide) rfl (fun ls hl => ?_)
    refine lv_goto (tgt := 9) hx hb dX4_scan_33 (by decide) ?_
    exact ih M10 v9 v12 H locs ls hf hm (lv_sub hl [2, 1, 0] rfl)
set_option maxHeartbeats 4000000 in
set_option maxRecDepth 20000 in
theorem c_X4_scan (l : Launch) (E : xE) (b : Nat) (M : xm) {M' : xm} (hf : f_X4_scan M = some M') :
    xMet l E b NX yX4_scan cX4_scan 3 none (xR 8) [.ref (b + 990)] (cX E b M) none True (cX E b M') := by
  refine xMet.ofW (own := RX4) (by decide) rfl (Nat.le_of_ble_eq_true rfl) ?_
  intro p e s m below meth c H locs ls C hm hl
  have hx := C.1.1
  have hb := C.1.2.1
  have hl : lv_has ls 3 [(0, .ref (b + 990))] := hl
  unfold f_X4_scan at hf
  refine lv_aload_n hx hb dX4_scan_0 rfl (lv_at hl 0 rfl) ?_
  refine lv_iconst (v := (0 : Int32)) hx hb dX4_scan_1 (by decide) ?_
  obtain ⟨M1, eM1, hf⟩ := xlet_x hf
  refine x_put (cf' := cX E b M1) C hm inX4 tyX4 tyX4_ok nmX4 rfl 8 (by decide) tf_RX4_41 rfl rfl rfl (cx_Reader (LX_reader 0 _ rfl)) (Nat.le_of_ble_eq_true rfl) (by rw [eM1]; exact cu_Reader_8 (LX_reader 0 _ rfl)) (by rw [eM1]; exact cX_o) dX4_scan_2 (fun H locs hm => ?_)
  refine lv_iconst (v := (0 : Int32)) hx hb dX4_scan_5 (by decide) ?_
  refine lv_istore_n (lv' := [(1, .int (0 : Int32)), (0, .ref (b + 990))]) hx hb dX4_scan_6 rfl hl (by decide) rfl (fun ls hl => ?_)
  refine lv_iconst (v := (0 : Int32)) hx hb dX4_scan_7 (by decide) ?_
  refine lv_istore_n (lv' := [(2, .int (0 : Int32)), (1, .int (0 : Int32)), (0, .ref (b + 990))]) hx hb dX4_scan_8 rfl hl (by decide) rfl (fun ls hl => ?_)
  obtain ⟨M13, hq, hf⟩ := xb1_e hf
  refine j_X4_scan_9 C (fun H locs ls hm hl => ?_) xfuel M1 (0 : Int32) (0 : Int32) H locs ls hq hm (lv_sub hl [2, 1, 0] rfl)
  refine lv_aload_n hx hb dX4_scan_36 rfl (lv_at hl 0 rfl) ?_
  refine lv_bipush (v := (41 : Int32)) hx hb dX4_scan_37 (by decide) ?_
  refine lv_aload_n hx hb dX4_scan_39 rfl (lv_at hl 0 rfl) ?_
  refine x_get C hm inX4 rfl 5 (by decide) tf_RX4_31 (cx_Reader (LX_reader 0 _ rfl)) rfl dX4_scan_40 ?_
  refine lv_iconst (v := (0 : Int32)) hx hb dX4_scan_43 (by decide) ?_
  obtain ⟨M15, hq14, hf⟩ := xb1_e hf
  refine x_callVv (As := [.int (41 : Int32), .int (M13 990 5), .int (0 : Int32)]) (rest := []) C hm (c_X4_addToken l E b M13 (41 : Int32) (M13 990 5) (0 : Int32) hq14) rfl (cx_Reader (LX_reader 0 _ rfl)) tc_X4_addToken tm_RX4_69 ti_X4_addToken ts_X4_addToken tn_RX4 td_X4_addToken rfl rfl ⟨Nat.le_of_ble_eq_true rfl, Nat.le_of_ble_eq_true rfl⟩ rfl hl.1 rfl (Nat.le_of_ble_eq_true rfl) ⟨Nat.zero_le _, Nat.zero_le _⟩ dX4_scan_44 (fun H locs hP16 hm => ?_)
  cases hf
  exact x_vret C hm trivial dX4_scan_47
/-! ColouredHeap$Text.clear()V -/
theorem dX7_clear_0 : decode cX7_clear 0 = .ok (.aload_n 0, 1) := by decide +kernel
theorem dX7_clear_1 : decode cX7_clear 1 = .ok (.iconst 0, 1) := by decide +kernel
theorem dX7_clear_2 : decode cX7_clear 2 = .ok (.putfield 36, 3) := by decide +kernel
theorem dX7_clear_5 : decode cX7_clear 5 = .ok (.aload_n 0, 1) := by decide +kernel
theorem dX7_clear_6 : decode cX7_clear 6 = .ok (.iconst 0, 1) := by decide +kernel
theorem dX7_clear_7 : decode cX7_clear 7 = .ok (.putfield 40, 3) := by decide +kernel
theorem dX7_clear_10 : decode cX7_clear 10 = .ok (.aload_n 0, 1) := by decide +kernel
theorem dX7_clear_11 : decode cX7_clear 11 = .ok (.getfield 30, 3) := by decide +kernel
theorem dX7_clear_14 : decode cX7_clear 14 = .ok (.iconst (-1), 1) := by decide +kernel
theorem dX7_clear_15 : decode cX7_clear 15 = .ok (.invokestatic 49, 3) := by decide +kernel
theorem dX7_clear_18 : decode cX7_clear 18 = .ok (.aload_n 0, 1) := by decide +kernel
theorem dX7_clear_19 : decode cX7_clear 19 = .ok (.getfield 33, 3) := by decide +kernel
theorem dX7_clear_22 : decode cX7_clear 22 = .ok (.iconst (-1), 1) := by decide +kernel
theorem dX7_clear_23 : decode cX7_clear 23 = .ok (.invokestatic 49, 3) := by decide +kernel
theorem dX7_clear_26 : decode cX7_clear 26 = .ok (.return_, 1) := by decide +kernel
def f_X7_clear (u0 : Nat) (M : xm) : Option (xm) := xlet (up2 M u0 8 (0 : Int32)) (fun M1 => xlet (up2 M1 u0 9 (0 : Int32)) (fun M2 => xb1 (f_J7_fill_53178 (u0 + 7) 2 M2 (-1 : Int32)) (fun M4 => xb1 (f_J7_fill_53178 (u0 + 8) 2 M4 (-1 : Int32)) (fun M7 => some M7))))
set_option maxHeartbeats 4000000 in
set_option maxRecDepth 20000 in
theorem c_X7_clear (l : Launch) (E : xE) (b : Nat) {u0 : Nat} (L_u0 : lat u0 pText) (M : xm) {M' : xm} (hf : f_X7_clear u0 M = some M') :
    xMet l E b NX yX7_clear cX7_clear 1 none (xR 2) [.ref (b + u0)] (cX E b M) none True (cX E b M') := by
  refine xMet.ofW (own := RX7) (by decide) rfl (Nat.le_of_ble_eq_true rfl) ?_
  intro p e s m below meth c H locs ls C hm hl
  have hx := C.1.1
  have hb := C.1.2.1
  have hl : lv_has ls 1 [(0, .ref (b + u0))] := hl
  unfold f_X7_clear at hf
  refine lv_aload_n hx hb dX7_clear_0 rfl (lv_at hl 0 rfl) ?_
  refine lv_iconst (v := (0 : Int32)) hx hb dX7_clear_1 (by decide) ?_
  obtain ⟨M1, eM1, hf⟩ := xlet_x hf
  refine x_put (cf' := cX E b M1) C hm inX7 tyX7 tyX7_ok nmX7 rfl 8 (by decide) tf_RX7_36 rfl rfl rfl (cx_Text (L_u0 0 _ rfl)) (Nat.le_of_ble_eq_true rfl) (by rw [eM1]; exact cu_Text_8 (L_u0 0 _ rfl)) (by rw [eM1]; exact cX_o) dX7_clear_2 (fun H locs hm => ?_)
  refine lv_aload_n hx hb dX7_clear_5 rfl (lv_at hl 0 rfl) ?_
  refine lv_iconst (v := (0 : Int32)) hx hb dX7_clear_6 (by decide) ?_
  obtain ⟨M2, eM2, hf⟩ := xlet_x hf
  refine x_put (cf' := cX E b M2) C hm inX7 tyX7 tyX7_ok nmX7 rfl 9 (by decide) tf_RX7_40 rfl rfl rfl (cx_Text (L_u0 0 _ rfl)) (Nat.le_of_ble_eq_true rfl) (by rw [eM2]; exact cu_Text_9 (L_u0 0 _ rfl)) (by rw [eM2]; exact cX_o) dX7_clear_7 (fun H locs hm => ?_)
  refine lv_aload_n hx hb dX7_clear_10 rfl (lv_at hl 0 rfl) ?_
  refine x_get C hm inX7 rfl 6 (by decide) tf_RX7_30 (cx_Text (L_u0 0 _ rfl)) rfl dX7_clear_11 ?_
  refine lv_iconst (v := (-1 : Int32)) hx hb dX7_clear_14 (by decide) ?_
  obtain ⟨M4, hq3, hf⟩ := xb1_e hf
  refine x_callSv (As := [.ref (b + (u0 + 7)), .int (-1 : Int32)]) (rest := []) C hm (c_J7_fill_53178 l E b (L_u0 7 _ rfl) M2 (-1 : Int32) hq3) tc_J7_fill_53178 tm_RX7_49 tz_J7_fill_53178 tn_RJ7 td_J7_fill_53178 rfl rfl ⟨Nat.le_of_ble_eq_true rfl, Nat.le_of_ble_eq_true rfl⟩ rfl hl.1 rfl (Nat.le_of_ble_eq_true rfl) ⟨Nat.zero_le _, Nat.zero_le _⟩ dX7_clear_15 (fun H locs hP5 hm => ?_)
  refine lv_aload_n hx hb dX7_clear_18 rfl (lv_at hl 0 rfl) ?_
  refine x_get C hm inX7 rfl 7 (by decide) tf_RX7_33 (cx_Text (L_u0 0 _ rfl)) rfl dX7_clear_19 ?_
  refine lv_iconst (v := (-1 : Int32)) hx hb dX7_clear_22 (by decide) ?_
  obtain ⟨M7, hq6, hf⟩ := xb1_e hf
  refine x_callSv (As := [.ref (b + (u0 + 8)), .int (-1 : Int32)]) (rest := []) C hm (c_J7_fill_53178 l E b (L_u0 8 _ rfl) M4 (-1 : Int32) hq6) tc_J7_fill_53178 tm_RX7_49 tz_J7_fill_53178 tn_RJ7 td_J7_fill_53178 rfl rfl ⟨Nat.le_of_ble_eq_true rfl, Nat.le_of_ble_eq_true rfl⟩ rfl hl.1 rfl (Nat.le_of_ble_eq_true rfl) ⟨Nat.zero_le _, Nat.zero_le _⟩ dX7_clear_23 (fun H locs hP8 hm => ?_)
  cases hf
  exact x_vret C hm trivial dX7_clear_26
/-! ColouredHeap$Reader.readTape()Z -/
theorem dX4_readTape_0 : decode cX4_readTape 0 = .ok (.aload_n 0, 1) := by decide +kernel
theorem dX4_readTape_1 : decode cX4_readTape 1 = .ok (.getfield 27, 3) := by decide +kernel
theorem dX4_readTape_4 : decode cX4_readTape 4 = .ok (.invokevirtual 50, 3) := by decide +kernel
theorem dX4_readTape_7 : decode cX4_readTape 7 = .ok (.aload_n 0, 1) := by decide +kernel
theorem dX4_readTape_8 : decode cX4_readTape 8 = .ok (.iconst 0, 1) := by decide +kernel
theorem dX4_readTape_9 : decode cX4_readTape 9 = .ok (.putfield 35, 3) := by decide +kernel
theorem dX4_readTape_12 : decode cX4_readTape 12 = .ok (.aload_n 0, 1) := by decide +kernel
theorem dX4_readTape_13 : decode cX4_readTape 13 = .ok (.iconst (-1), 1) := by decide +kernel
theorem dX4_readTape_14 : decode cX4_readTape 14 = .ok (.putfield 38, 3) := by decide +kernel
theorem dX4_readTape_17 : decode cX4_readTape 17 = .ok (.aload_n 0, 1) := by decide +kernel
theorem dX4_readTape_18 : decode cX4_readTape 18 = .ok (.invokevirtual 53, 3) := by decide +kernel
theorem dX4_readTape_21 : decode cX4_readTape 21 = .ok (.aload_n 0, 1) := by decide +kernel
theorem dX4_readTape_22 : decode cX4_readTape 22 = .ok (.iconst 0, 1) := by decide +kernel
theorem dX4_readTape_23 : decode cX4_readTape 23 = .ok (.putfield 44, 3) := by decide +kernel
theorem dX4_readTape_26 : decode cX4_readTape 26 = .ok (.iconst 0, 1) := by decide +kernel
theorem dX4_readTape_27 : decode cX4_readTape 27 = .ok (.istore_n 1, 1) := by decide +kernel
theorem dX4_readTape_28 : decode cX4_readTape 28 = .ok (.iload_n 1, 1) := by decide +kernel
theorem dX4_readTape_29 : decode cX4_readTape 29 = .ok (.bipush 24, 2) := by decide +kernel
theorem dX4_readTape_31 : decode cX4_readTape 31 = .ok (.if_icmp .gt 29, 3) := by decide +kernel
theorem dX4_readTape_34 : decode cX4_readTape 34 = .ok (.aload_n 0, 1) := by decide +kernel
theorem dX4_readTape_35 : decode cX4_readTape 35 = .ok (.getfield 35, 3) := by decide +kernel
theorem dX4_readTape_38 : decode cX4_readTape 38 = .ok (.ifCond .ne 22, 3) := by decide +kernel
theorem dX4_readTape_41 : decode cX4_readTape 41 = .ok (.aload_n 0, 1) := by decide +kernel
theorem dX4_readTape_42 : decode cX4_readTape 42 = .ok (.bipush 41, 2) := by decide +kernel
theorem dX4_readTape_44 : decode cX4_readTape 44 = .ok (.invokevirtual 58, 3) := by decide +kernel
theorem dX4_readTape_47 : decode cX4_readTape 47 = .ok (.ifCond .ne 13, 3) := by decide +kernel
theorem dX4_readTape_50 : decode cX4_readTape 50 = .ok (.aload_n 0, 1) := by decide +kernel
theorem dX4_readTape_51 : decode cX4_readTape 51 = .ok (.invokevirtual 62, 3) := by decide +kernel
theorem dX4_readTape_54 : decode cX4_readTape 54 = .ok (.iinc 1 1, 3) := by decide +kernel
theorem dX4_readTape_57 : decode cX4_readTape 57 = .ok (.goto (-29), 3) := by decide +kernel
theorem dX4_readTape_60 : decode cX4_readTape 60 = .ok (.aload_n 0, 1) := by decide +kernel
theorem dX4_readTape_61 : decode cX4_readTape 61 = .ok (.getfield 35, 3) := by decide +kernel
theorem dX4_readTape_64 : decode cX4_readTape 64 = .ok (.ifCond .ne 7, 3) := by decide +kernel
theorem dX4_readTape_67 : decode cX4_readTape 67 = .ok (.iconst 1, 1) := by decide +kernel
theorem dX4_readTape_68 : decode cX4_readTape 68 = .ok (.goto 4, 3) := by decide +kernel
theorem dX4_readTape_71 : decode cX4_readTape 71 = .ok (.iconst 0, 1) := by decide +kernel
theorem dX4_readTape_72 : decode cX4_readTape 72 = .ok (.ireturn, 1) := by decide +kernel
def g_X4_readTape_28  : Nat → xm → Int32 → Option ((xm))
  | 0, _, _ => none
  | n + 1, M11, x10 => (if (24 : Int32) < x10 then some (M11) else (if (M11 990 6) = 0 then xb1 (f_X4_isNext M11 (41 : Int32)) (fun v16 => (if v16 = 0 then xb1 (f_X4_clause M11) (fun M20 => xlet (x10 + (1 : Int32)) (fun v22 => g_X4_readTape_28 n M20 v22)) else some (M11))) else some (M11)))
def f_X4_readTape (M : xm) : Option (Int32 × xm) := xb1 (f_X7_clear (990 + 5) M) (fun M2 => xlet (up2 M2 990 6 (0 : Int32)) (fun M4 => xlet (up2 M4 990 7 (-1 : Int32)) (fun M5 => xb1 (f_X4_scan M5) (fun M7 => xlet (up2 M7 990 9 (0 : Int32)) (fun M9 => xb1 (g_X4_readTape_28 xfuel M9 (0 : Int32)) (fun M23 => (if (M23 990 6) = 0 then some ((1 : Int32), M23) else some ((0 : Int32), M23))))))))
set_option maxHeartbeats 4000000 in
set_option maxRecDepth 20000 in
theorem j_X4_readTape_28 {p : Program} {l : Launch} {e : Env} {s : State} {m : MethodId} {args : Array Value} {below : List Frame} {meth : Method} {c : Code} {Q : State → Prop} {E : xE} {b : Nat} (C : xC p s m args meth c cX4_readTape 2 RX4 (some .boolean) E b)  {y12 : xm}
    (kx0 : ∀ (H : Heap) (locs : List Loc) (ls : Array Slot), xM E b NX (cX E b y12) s.heap H locs → lv_has ls 2 [(0, .ref (b + 990))] → W p l e (xR 211) s m args below meth c H locs 0 0 Q (F0 m 60 ls [])) :
    ∀ (n : Nat) (M11 : xm) (x10 : Int32) (H : Heap) (locs : List Loc) (ls : Array Slot), g_X4_readTape_28 n M11 x10 = some y12 → xM E b NX (cX E b M11) s.heap H locs → lv_has ls 2 [(0, .ref (b + 990)), (1, .int x10)] → W p l e (xR 211) s m args below meth c H locs 0 0 Q (F0 m 28 ls []) := by
  have hx := C.1.1
  have hb := C.1.2.1
  intro n
  induction n with
  | zero =>
    intro M11 x10 H locs ls hf hm hl
    rw [g_X4_readTape_28] at hf
    cases hf
  | succ n ih =>
    intro M11 x10 H locs ls hf hm hl
    rw [g_X4_readTape_28] at hf
    refine lv_iload_n hx hb dX4_readTape_28 rfl (lv_at hl 1 rfl) ?_
    refine lv_bipush (v := (24 : Int32)) hx hb dX4_readTape_29 (by decide) ?_
    refine lv_icmp_gt (tgt := 60) hx hb dX4_readTape_31 (by decide) (fun hc13 => ?_) (fun hc13 => ?_)
    · have hf := xif_t hc13 hf
      cases hf
      exact kx0 H locs ls hm (lv_sub hl [0] rfl)
    have hf := xif_f hc13 hf
    refine lv_aload_n hx hb dX4_readTape_34 rfl (lv_at hl 0 rfl) ?_
    refine x_get C hm inX4 rfl 6 (by decide) tf_RX4_35 (cx_Reader (LX_reader 0 _ rfl)) rfl dX4_readTape_35 ?_
    refine lv_if_ne (tgt := 60) hx hb dX4_readTape_38 (by decide) (fun hc14 => ?_) (fun hc14 => ?_)
    · have hf := xif_f hc14 hf
      cases hf
      exact kx0 H locs ls hm (lv_sub hl [0] rfl)
    have hf := xif_t hc14 hf
    refine lv_aload_n hx hb dX4_readTape_41 rfl (lv_at hl 0 rfl) ?_
    refine lv_bipush (v := (41 : Int32)) hx hb dX4_readTape_42 (by decide) ?_
    obtain ⟨v16, hq15, hf⟩ := xb1_e hf
    refine x_callVi (As := [.int (41 : Int32)]) (rest := []) C hm (c_X4_isNext l E b M11 (41 : Int32) hq15) rfl (cx_Reader (LX_reader 0 _ rfl)) tc_X4_isNext tm_RX4_58 ti_X4_isNext ts_X4_isNext tn_RX4 td_X4_isNext rfl rfl ⟨Nat.le_of_ble_eq_true rfl, Nat.le_of_ble_eq_true rfl⟩ rfl hl.1 rfl (Nat.le_of_ble_eq_true rfl) ⟨Nat.zero_le _, Nat.zero_le _⟩ dX4_readTape_44 (fun H locs hP17 hm => ?_)
    refine lv_if_ne (tgt := 60) hx hb dX4_readTape_47 (by decide) (fun hc18 => ?_) (fun hc18 => ?_)
    · have hf := xif_f hc18 hf
      cases hf
      exact kx0 H locs ls hm (lv_sub hl [0] rfl)
    have hf := xif_t hc18 hf
    refine lv_aload_n hx hb dX4_readTape_50 rfl (lv_at hl 0 rfl) ?_
    obtain ⟨M20, hq19, hf⟩ := xb1_e hf
    refine x_callVv (As := []) (rest := []) C hm (c_X4_clause l E b M11 hq19) rfl (cx_Reader (LX_reader 0 _ rfl)) tc_X4_clause tm_RX4_62 ti_X4_clause ts_X4_clause tn_RX4 td_X4_clause rfl rfl ⟨Nat.le_of_ble_eq_true rfl, Nat.le_of_ble_eq_true rfl⟩ rfl hl.1 rfl (Nat.le_of_ble_eq_true rfl) ⟨Nat.zero_le _, Nat.zero_le _⟩ dX4_readTape_51 (fun H locs hP21 hm => ?_)
    obtain ⟨v22, ev22, hf⟩ := xlet_x hf
    refine lv_iinc (v := v22) (lv' := [(1, .int v22), (0, .ref (b + 990))]) hx hb dX4_readTape_54 hl (k := 1) rfl (by rw [ev22]; rfl) (by decide) rfl (fun ls hl => ?_)
    refine lv_goto (tgt := 28) hx hb dX4_readTape_57 (by decide) ?_
    exact ih M20 v22 H locs ls hf hm (lv_sub hl [1, 0] rfl)
set_option maxHeartbeats 4000000 in
set_option maxRecDepth 20000 in
theorem c_X4_readTape (l : Launch) (E : xE) (b : Nat) (M : xm) {r : Int32} {M' : xm} (hf : f_X4_readTape M = some (r, M')) :
    xMet l E b NX yX4_readTape cX4_readTape 2 (some .boolean) (xR 211) [.ref (b + 990)] (cX E b M) (some (.int r)) (xbo r = true) (cX E b M') := by
  refine xMet.ofW (own := RX4) (by decide) rfl (Nat.le_of_ble_eq_true rfl) ?_
  intro p e s m below meth c H locs ls C hm hl
  have hx := C.1.1
  have hb := C.1.2.1
  have hl : lv_has ls 2 [(0, .ref (b + 990))] := hl
  unfold f_X4_readTape at hf
  refine lv_aload_n hx hb dX4_readTape_0 rfl (lv_at hl 0 rfl) ?_
  refine x_get C hm inX4 rfl 4 (by decide) tf_RX4_27 (cx_Reader (LX_reader 0 _ rfl)) rfl dX4_readTape_1 ?_
  obtain ⟨M2, hq1, hf⟩ := xb1_e hf
  refine x_callVv (As := []) (rest := []) C hm (c_X7_clear l E b (lat_draft LX_reader) M hq1) rfl (cx_Text ((lat_draft LX_reader) 0 _ rfl)) tc_X7_clear tm_RX4_50 ti_X7_clear ts_X7_clear tn_RX7 td_X7_clear rfl rfl ⟨Nat.le_of_ble_eq_true rfl, Nat.le_of_ble_eq_true rfl⟩ rfl hl.1 rfl (Nat.le_of_ble_eq_true rfl) ⟨Nat.zero_le _, Nat.zero_le _⟩ dX4_readTape_4 (fun H locs hP3 hm => ?_)
  refine lv_aload_n hx hb dX4_readTape_7 rfl (lv_at hl 0 rfl) ?_
  refine lv_iconst (v := (0 : Int32)) hx hb dX4_readTape_8 (by decide) ?_
  obtain ⟨M4, eM4, hf⟩ := xlet_x hf
  refine x_put (cf' := cX E b M4) C hm inX4 tyX4 tyX4_ok nmX4 rfl 6 (by decide) tf_RX4_35 rfl rfl rfl (cx_Reader (LX_reader 0 _ rfl)) (Nat.le_of_ble_eq_true rfl) (by rw [eM4]; exact cu_Reader_6 (LX_reader 0 _ rfl)) (by rw [eM4]; exact cX_o) dX4_readTape_9 (fun H locs hm => ?_)
  refine lv_aload_n hx hb dX4_readTape_12 rfl (lv_at hl 0 rfl) ?_
  refine lv_iconst (v := (-1 : Int32)) hx hb dX4_readTape_13 (by decide) ?_
  obtain ⟨M5, eM5, hf⟩ := xlet_x hf
  refine x_put (cf' := cX E b M5) C hm inX4 tyX4 tyX4_ok nmX4 rfl 7 (by decide) tf_RX4_38 rfl rfl rfl (cx_Reader (LX_reader 0 _ rfl)) (Nat.le_of_ble_eq_true rfl) (by rw [eM5]; exact cu_Reader_7 (LX_reader 0 _ rfl)) (by rw [eM5]; exact cX_o) dX4_readTape_14 (fun H locs hm => ?_)
  refine lv_aload_n hx hb dX4_readTape_17 rfl (lv_at hl 0 rfl) ?_
  obtain ⟨M7, hq6, hf⟩ := xb1_e hf
  refine x_callVv (As := []) (rest := []) C hm (c_X4_scan l E b M5 hq6) rfl (cx_Reader (LX_reader 0 _ rfl)) tc_X4_scan tm_RX4_53 ti_X4_scan ts_X4_scan tn_RX4 td_X4_scan rfl rfl ⟨Nat.le_of_ble_eq_true rfl, Nat.le_of_ble_eq_true rfl⟩ rfl hl.1 rfl (Nat.le_of_ble_eq_true rfl) ⟨Nat.zero_le _, Nat.zero_le _⟩ dX4_readTape_18 (fun H locs hP8 hm => ?_)
  refine lv_aload_n hx hb dX4_readTape_21 rfl (lv_at hl 0 rfl) ?_
  refine lv_iconst (v := (0 : Int32)) hx hb dX4_readTape_22 (by decide) ?_
  obtain ⟨M9, eM9, hf⟩ := xlet_x hf
  refine x_put (cf' := cX E b M9) C hm inX4 tyX4 tyX4_ok nmX4 rfl 9 (by decide) tf_RX4_44 rfl rfl rfl (cx_Reader (LX_reader 0 _ rfl)) (Nat.le_of_ble_eq_true rfl) (by rw [eM9]; exact cu_Reader_9 (LX_reader 0 _ rfl)) (by rw [eM9]; exact cX_o) dX4_readTape_23 (fun H locs hm => ?_)
  refine lv_iconst (v := (0 : Int32)) hx hb dX4_readTape_26 (by decide) ?_
  refine lv_istore_n (lv' := [(1, .int (0 : Int32)), (0, .ref (b + 990))]) hx hb dX4_readTape_27 rfl hl (by decide) rfl (fun ls hl => ?_)
  obtain ⟨M23, hq, hf⟩ := xb1_e hf
  refine j_X4_readTape_28 C (fun H locs ls hm hl => ?_) xfuel M9 (0 : Int32) H locs ls hq hm (lv_sub hl [1, 0] rfl)
  refine lv_aload_n hx hb dX4_readTape_60 rfl (lv_at hl 0 rfl) ?_
  refine x_get C hm inX4 rfl 6 (by decide) tf_RX4_35 (cx_Reader (LX_reader 0 _ rfl)) rfl dX4_readTape_61 ?_
  refine lv_if_ne (tgt := 71) hx hb dX4_readTape_64 (by decide) (fun hc24 => ?_) (fun hc24 => ?_)
  · have hf := xif_f hc24 hf
    refine lv_iconst (v := (0 : Int32)) hx hb dX4_readTape_71 (by decide) ?_
    cases hf
    exact x_zret C hm (by decide) (by decide) dX4_readTape_72
  have hf := xif_t hc24 hf
  refine lv_iconst (v := (1 : Int32)) hx hb dX4_readTape_67 (by decide) ?_
  refine lv_goto (tgt := 72) hx hb dX4_readTape_68 (by decide) ?_
  cases hf
  exact x_zret C hm (by decide) (by decide) dX4_readTape_72
/-! ColouredHeap$Steps.keep()V -/
theorem dX5_keep_0 : decode cX5_keep 0 = .ok (.aload_n 0, 1) := by decide +kernel
theorem dX5_keep_1 : decode cX5_keep 1 = .ok (.getfield 21, 3) := by decide +kernel
theorem dX5_keep_4 : decode cX5_keep 4 = .ok (.bipush 30, 2) := by decide +kernel
theorem dX5_keep_6 : decode cX5_keep 6 = .ok (.if_icmp .ge 16, 3) := by decide +kernel
theorem dX5_keep_9 : decode cX5_keep 9 = .ok (.aload_n 0, 1) := by decide +kernel
theorem dX5_keep_10 : decode cX5_keep 10 = .ok (.dup, 1) := by decide +kernel
theorem dX5_keep_11 : decode cX5_keep 11 = .ok (.getfield 21, 3) := by decide +kernel
theorem dX5_keep_14 : decode cX5_keep 14 = .ok (.iconst 1, 1) := by decide +kernel
theorem dX5_keep_15 : decode cX5_keep 15 = .ok (.iadd, 1) := by decide +kernel
theorem dX5_keep_16 : decode cX5_keep 16 = .ok (.putfield 21, 3) := by decide +kernel
theorem dX5_keep_19 : decode cX5_keep 19 = .ok (.goto 16, 3) := by decide +kernel
theorem dX5_keep_22 : decode cX5_keep 22 = .ok (.aload_n 0, 1) := by decide +kernel
theorem dX5_keep_23 : decode cX5_keep 23 = .ok (.aload_n 0, 1) := by decide +kernel
theorem dX5_keep_24 : decode cX5_keep 24 = .ok (.getfield 17, 3) := by decide +kernel
theorem dX5_keep_27 : decode cX5_keep 27 = .ok (.iconst 1, 1) := by decide +kernel
theorem dX5_keep_28 : decode cX5_keep 28 = .ok (.iadd, 1) := by decide +kernel
theorem dX5_keep_29 : decode cX5_keep 29 = .ok (.bipush 31, 2) := by decide +kernel
theorem dX5_keep_31 : decode cX5_keep 31 = .ok (.irem, 1) := by decide +kernel
theorem dX5_keep_32 : decode cX5_keep 32 = .ok (.putfield 17, 3) := by decide +kernel
theorem dX5_keep_35 : decode cX5_keep 35 = .ok (.return_, 1) := by decide +kernel
def f_X5_keep (u0 : Nat) (M : xm) : Option (xm) := (if (30 : Int32) ≤ (M u0 2) then xlet (up2 M u0 1 (xrem ((M u0 1) + (1 : Int32)) (31 : Int32))) (fun M2 => some M2) else xlet (up2 M u0 2 ((M u0 2) + (1 : Int32))) (fun M3 => some M3))
set_option maxHeartbeats 4000000 in
set_option maxRecDepth 20000 in
theorem c_X5_keep (l : Launch) (E : xE) (b : Nat) {u0 : Nat} (L_u0 : lat u0 pSteps) (M : xm) {M' : xm} (hf : f_X5_keep u0 M = some M') :
    xMet l E b NX yX5_keep cX5_keep 1 none (xR 1) [.ref (b + u0)] (cX E b M) none True (cX E b M') := by
  refine xMet.ofW (own := RX5) (by decide) rfl (Nat.le_of_ble_eq_true rfl) ?_
  intro p e s m below meth c H locs ls C hm hl
  have hx := C.1.1
  have hb := C.1.2.1
  have hl : lv_has ls 1 [(0, .ref (b + u0))] := hl
  unfold f_X5_keep at hf
  refine lv_aload_n hx hb dX5_keep_0 rfl (lv_at hl 0 rfl) ?_
  refine x_get C hm inX5 rfl 2 (by decide) tf_RX5_21 (cx_Steps (L_u0 0 _ rfl)) rfl dX5_keep_1 ?_
  refine lv_bipush (v := (30 : Int32)) hx hb dX5_keep_4 (by decide) ?_
  refine lv_icmp_ge (tgt := 22) hx hb dX5_keep_6 (by decide) (fun hc1 => ?_) (fun hc1 => ?_)
  rotate_left
  · have hf := xif_f hc1 hf
    refine lv_aload_n hx hb dX5_keep_9 rfl (lv_at hl 0 rfl) ?_
    refine lv_dup hx hb dX5_keep_10 rfl ?_
    refine x_get C hm inX5 rfl 2 (by decide) tf_RX5_21 (cx_Steps (L_u0 0 _ rfl)) rfl dX5_keep_11 ?_
    refine lv_iconst (v := (1 : Int32)) hx hb dX5_keep_14 (by decide) ?_
    refine lv_iadd hx hb dX5_keep_15 ?_
    obtain ⟨M3, eM3, hf⟩ := xlet_x hf
    refine x_put (cf' := cX E b M3) C hm inX5 tyX5 tyX5_ok nmX5 rfl 2 (by decide) tf_RX5_21 rfl rfl rfl (cx_Steps (L_u0 0 _ rfl)) (Nat.le_of_ble_eq_true rfl) (by rw [eM3]; exact cu_Steps_2 (L_u0 0 _ rfl)) (by rw [eM3]; exact cX_o) dX5_keep_16 (fun H locs hm => ?_)
    refine lv_goto (tgt := 35) hx hb dX5_keep_19 (by decide) ?_
    cases hf
    exact x_vret C hm trivial dX5_keep_35
  have hf := xif_t hc1 hf
  refine lv_aload_n hx hb dX5_keep_22 rfl (lv_at hl 0 rfl) ?_
  refine lv_aload_n hx hb dX5_keep_23 rfl (lv_at hl 0 rfl) ?_
  refine x_get C hm inX5 rfl 1 (by decide) tf_RX5_17 (cx_Steps (L_u0 0 _ rfl)) rfl dX5_keep_24 ?_
  refine lv_iconst (v := (1 : Int32)) hx hb dX5_keep_27 (by decide) ?_
  refine lv_iadd hx hb dX5_keep_28 ?_
  refine lv_bipush (v := (31 : Int32)) hx hb dX5_keep_29 (by decide) ?_
  refine lv_irem hx hb dX5_keep_31 (by decide) ?_
  obtain ⟨M2, eM2, hf⟩ := xlet_x hf
  refine x_put (cf' := cX E b M2) C hm inX5 tyX5 tyX5_ok nmX5 rfl 1 (by decide) tf_RX5_17 rfl rfl rfl (cx_Steps (L_u0 0 _ rfl)) (Nat.le_of_ble_eq_true rfl) (by rw [eM2]; exact cu_Steps_1 (L_u0 0 _ rfl)) (by rw [eM2]; exact cX_o) dX5_keep_32 (fun H locs hm => ?_)
  cases hf
  exact x_vret C hm trivial dX5_keep_35
/-! ColouredHeap$Steps.row(I)LColouredHeap$Heap; -/
theorem dX5_row_0 : decode cX5_row 0 = .ok (.aload_n 0, 1) := by decide +kernel
theorem dX5_row_1 : decode cX5_row 1 = .ok (.getfield 17, 3) := by decide +kernel
theorem dX5_row_4 : decode cX5_row 4 = .ok (.iload_n 1, 1) := by decide +kernel
theorem dX5_row_5 : decode cX5_row 5 = .ok (.iadd, 1) := by decide +kernel
theorem dX5_row_6 : decode cX5_row 6 = .ok (.bipush 31, 2) := by decide +kernel
theorem dX5_row_8 : decode cX5_row 8 = .ok (.irem, 1) := by decide +kernel
theorem dX5_row_9 : decode cX5_row 9 = .ok (.istore_n 2, 1) := by decide +kernel
theorem dX5_row_10 : decode cX5_row 10 = .ok (.iload_n 2, 1) := by decide +kernel
theorem dX5_row_11 : decode cX5_row 11 = .ok (.ifCond .lt 12, 3) := by decide +kernel
theorem dX5_row_14 : decode cX5_row 14 = .ok (.aload_n 0, 1) := by decide +kernel
theorem dX5_row_15 : decode cX5_row 15 = .ok (.getfield 13, 3) := by decide +kernel
theorem dX5_row_18 : decode cX5_row 18 = .ok (.iload_n 2, 1) := by decide +kernel
theorem dX5_row_19 : decode cX5_row 19 = .ok (.aaload, 1) := by decide +kernel
theorem dX5_row_20 : decode cX5_row 20 = .ok (.goto 4, 3) := by decide +kernel
theorem dX5_row_23 : decode cX5_row 23 = .ok (.aconst_null, 1) := by decide +kernel
theorem dX5_row_24 : decode cX5_row 24 = .ok (.areturn, 1) := by decide +kernel
def f_X5_row (u0 : Nat) (M : xm) (a1 : Int32) : Option (Option Nat) := xlet (xrem ((M u0 1) + a1) (31 : Int32)) (fun v1 => (if v1 < 0 then some none else if xin v1 31 = true then some (some ((u0 + 1) + (1 + 15 * (Int32.toNatClampNeg v1)))) else none))
set_option maxHeartbeats 4000000 in
set_option maxRecDepth 20000 in
theorem c_X5_row (l : Launch) (E : xE) (b : Nat) {u0 : Nat} (L_u0 : lat u0 pSteps) (M : xm) (a1 : Int32) {r : Option Nat} (hf : f_X5_row u0 M a1 = some r) :
    xMet l E b NX yX5_row cX5_row 3 (some (.object "ColouredHeap$Heap")) (xR 1) [.ref (b + u0), .int a1] (cX E b M) (some (xrf b r)) True (cX E b M) := by
  refine xMet.ofW (own := RX5) (by decide) rfl (Nat.le_of_ble_eq_true rfl) ?_
  intro p e s m below meth c H locs ls C hm hl
  have hx := C.1.1
  have hb := C.1.2.1
  have hl : lv_has ls 3 [(0, .ref (b + u0)), (1, .int a1)] := hl
  unfold f_X5_row at hf
  refine lv_aload_n hx hb dX5_row_0 rfl (lv_at hl 0 rfl) ?_
  refine x_get C hm inX5 rfl 1 (by decide) tf_RX5_17 (cx_Steps (L_u0 0 _ rfl)) rfl dX5_row_1 ?_
  refine lv_iload_n hx hb dX5_row_4 rfl (lv_at hl 1 rfl) ?_
  refine lv_iadd hx hb dX5_row_5 ?_
  refine lv_bipush (v := (31 : Int32)) hx hb dX5_row_6 (by decide) ?_
  refine lv_irem hx hb dX5_row_8 (by decide) ?_
  refine lv_topi (fun v1 ev1 => ?_)
  have hf := xlet_e ev1 hf
  refine lv_istore_n (lv' := [(2, .int v1), (0, .ref (b + u0)), (1, .int a1)]) hx hb dX5_row_9 rfl hl (by decide) rfl (fun ls hl => ?_)
  refine lv_iload_n hx hb dX5_row_10 rfl (lv_at hl 0 rfl) ?_
  refine lv_if_lt (tgt := 23) hx hb dX5_row_11 (by decide) (fun hc2 => ?_) (fun hc2 => ?_)
  · have hf := xif_t hc2 hf
    refine lv_null hx hb dX5_row_23 ?_
    cases hf
    exact x_aret C hm trivial (Or.inl ⟨_, rfl⟩) (Or.inl rfl) dX5_row_24
  have hf := xif_f hc2 hf
  refine lv_aload_n hx hb dX5_row_14 rfl (lv_at hl 1 rfl) ?_
  refine x_get C hm inX5 rfl 0 (by decide) tf_RX5_13 (cx_Steps (L_u0 0 _ rfl)) rfl dX5_row_15 ?_
  refine lv_iload_n hx hb dX5_row_18 rfl (lv_at hl 0 rfl) ?_
  obtain ⟨hi3, hf⟩ := xif_s hf
  refine x_aald (t0 := 3) (Cn := "ColouredHeap$Heap") (d := (fun i => (u0 + 1) + (1 + 15 * i))) C hm (cx_H (L_u0 1 _ rfl)) rfl hi3 rfl dX5_row_19 ?_
  refine lv_goto (tgt := 24) hx hb dX5_row_20 (by decide) ?_
  cases hf
  exact x_aret C hm trivial (Or.inl ⟨_, rfl⟩) (Or.inr ⟨_, rfl⟩) dX5_row_24
theorem X5_row_lat {q : Nat} (L : lat q pSteps) {M : xm} {i : Int32} {o : Option Nat} (h : f_X5_row q M i = some o) : ∀ k, o = some k → lat k pHeap := by
  intro k hk
  subst hk
  unfold f_X5_row xlet at h
  dsimp only at h
  split at h
  · cases h
  · split at h
    · next h2 => cases h; exact lat_rowE L (xin_lt h2)
    · cases h
/-! ColouredHeap$Steps.prepare(LColouredHeap$Heap;)V -/
theorem dX5_prepare_0 : decode cX5_prepare 0 = .ok (.aload_n 0, 1) := by decide +kernel
theorem dX5_prepare_1 : decode cX5_prepare 1 = .ok (.aload_n 0, 1) := by decide +kernel
theorem dX5_prepare_2 : decode cX5_prepare 2 = .ok (.getfield 21, 3) := by decide +kernel
theorem dX5_prepare_5 : decode cX5_prepare 5 = .ok (.invokevirtual 25, 3) := by decide +kernel
theorem dX5_prepare_8 : decode cX5_prepare 8 = .ok (.astore_n 2, 1) := by decide +kernel
theorem dX5_prepare_9 : decode cX5_prepare 9 = .ok (.aload_n 2, 1) := by decide +kernel
theorem dX5_prepare_10 : decode cX5_prepare 10 = .ok (.ifnull 8, 3) := by decide +kernel
theorem dX5_prepare_13 : decode cX5_prepare 13 = .ok (.aload_n 2, 1) := by decide +kernel
theorem dX5_prepare_14 : decode cX5_prepare 14 = .ok (.aload_n 1, 1) := by decide +kernel
theorem dX5_prepare_15 : decode cX5_prepare 15 = .ok (.invokevirtual 29, 3) := by decide +kernel
theorem dX5_prepare_18 : decode cX5_prepare 18 = .ok (.return_, 1) := by decide +kernel
def f_X5_prepare (u0 : Nat) (u1 : Nat) (M : xm) : Option (xm) := xb1 (f_X5_row u0 M (M u0 2)) (fun o2 => xopt o2 (some M) (fun o4 => xb1 (f_X1_takeOver o4 u1 M) (fun M7 => some M7)))
set_option maxHeartbeats 4000000 in
set_option maxRecDepth 20000 in
theorem c_X5_prepare (l : Launch) (E : xE) (b : Nat) {u0 : Nat} (L_u0 : lat u0 pSteps) {u1 : Nat} (L_u1 : lat u1 pHeap) (M : xm) {M' : xm} (hf : f_X5_prepare u0 u1 M = some M') :
    xMet l E b NX yX5_prepare cX5_prepare 3 none (xR 4) [.ref (b + u0), .ref (b + u1)] (cX E b M) none True (cX E b M') := by
  refine xMet.ofW (own := RX5) (by decide) rfl (Nat.le_of_ble_eq_true rfl) ?_
  intro p e s m below meth c H locs ls C hm hl
  have hx := C.1.1
  have hb := C.1.2.1
  have hl : lv_has ls 3 [(0, .ref (b + u0)), (1, .ref (b + u1))] := hl
  unfold f_X5_prepare at hf
  refine lv_aload_n hx hb dX5_prepare_0 rfl (lv_at hl 0 rfl) ?_
  refine lv_aload_n hx hb dX5_prepare_1 rfl (lv_at hl 0 rfl) ?_
  refine x_get C hm inX5 rfl 2 (by decide) tf_RX5_21 (cx_Steps (L_u0 0 _ rfl)) rfl dX5_prepare_2 ?_
  obtain ⟨o2, hq1, hf⟩ := xb1_e hf
  refine x_callVr (As := [.int (M u0 2)]) (rest := []) C hm (c_X5_row l E b L_u0 M (M u0 2) hq1) rfl (cx_Steps (L_u0 0 _ rfl)) tc_X5_row tm_RX5_25 ti_X5_row ts_X5_row tn_RX5 td_X5_row rfl rfl ⟨Nat.le_of_ble_eq_true rfl, Nat.le_of_ble_eq_true rfl⟩ rfl hl.1 rfl (Nat.le_of_ble_eq_true rfl) ⟨Nat.zero_le _, Nat.zero_le _⟩ dX5_prepare_5 (fun H locs hP3 hm => ?_)
  refine x_astoreQ_n (b := b) (o := o2) (lv' := [(2, xrf b o2), (0, .ref (b + u0)), (1, .ref (b + u1))]) hx hb dX5_prepare_8 rfl hl (by decide) (by cases o2 <;> rfl) (fun ls hl => ?_)
  refine x_aloadQ_n (b := b) (o := o2) hx hb dX5_prepare_9 rfl (lv_at hl 0 rfl) ?_
  refine x_ifnullQ (b := b) (o := o2) (tgt := 18) hx hb dX5_prepare_10 (by decide) (fun hn5 => ?_) (fun o4 hn5 => ?_)
  · subst hn5
    have hf := xopt_n hf
    have hl := lv_sub (l' := [(0, .ref (b + u0)), (1, .ref (b + u1))]) hl [1, 2] rfl
    cases hf
    exact x_vret C hm trivial dX5_prepare_18
  subst hn5
  have hf := xopt_s hf
  have hl : lv_has ls 3 [(2, .ref (b + o4)), (0, .ref (b + u0)), (1, .ref (b + u1))] := hl
  refine lv_aload_n hx hb dX5_prepare_13 rfl (lv_at hl 0 rfl) ?_
  refine lv_aload_n hx hb dX5_prepare_14 rfl (lv_at hl 2 rfl) ?_
  obtain ⟨M7, hq6, hf⟩ := xb1_e hf
  refine x_callVv (As := [.ref (b + u1)]) (rest := []) C hm (c_X1_takeOver l E b ((X5_row_lat L_u0 hq1) o4 rfl) L_u1 M hq6) rfl (cx_Heap (((X5_row_lat L_u0 hq1) o4 rfl) 0 _ rfl)) tc_X1_takeOver tm_RX5_29 ti_X1_takeOver ts_X1_takeOver tn_RX1 td_X1_takeOver rfl rfl ⟨Nat.le_of_ble_eq_true rfl, Nat.le_of_ble_eq_true rfl⟩ rfl hl.1 rfl (Nat.le_of_ble_eq_true rfl) ⟨Nat.zero_le _, Nat.zero_le _⟩ dX5_prepare_15 (fun H locs hP8 hm => ?_)
  cases hf
  exact x_vret C hm trivial dX5_prepare_18
/-! ColouredHeap$Steps.takeBack(LColouredHeap$Heap;)V -/
theorem dX5_takeBack_0 : decode cX5_takeBack 0 = .ok (.aload_n 0, 1) := by decide +kernel
theorem dX5_takeBack_1 : decode cX5_takeBack 1 = .ok (.getfield 21, 3) := by decide +kernel
theorem dX5_takeBack_4 : decode cX5_takeBack 4 = .ok (.iconst 1, 1) := by decide +kernel
theorem dX5_takeBack_5 : decode cX5_takeBack 5 = .ok (.if_icmp .ge 4, 3) := by decide +kernel
theorem dX5_takeBack_8 : decode cX5_takeBack 8 = .ok (.return_, 1) := by decide +kernel
theorem dX5_takeBack_9 : decode cX5_takeBack 9 = .ok (.aload_n 0, 1) := by decide +kernel
theorem dX5_takeBack_10 : decode cX5_takeBack 10 = .ok (.dup, 1) := by decide +kernel
theorem dX5_takeBack_11 : decode cX5_takeBack 11 = .ok (.getfield 21, 3) := by decide +kernel
theorem dX5_takeBack_14 : decode cX5_takeBack 14 = .ok (.iconst 1, 1) := by decide +kernel
theorem dX5_takeBack_15 : decode cX5_takeBack 15 = .ok (.isub, 1) := by decide +kernel
theorem dX5_takeBack_16 : decode cX5_takeBack 16 = .ok (.putfield 21, 3) := by decide +kernel
theorem dX5_takeBack_19 : decode cX5_takeBack 19 = .ok (.aload_n 0, 1) := by decide +kernel
theorem dX5_takeBack_20 : decode cX5_takeBack 20 = .ok (.aload_n 0, 1) := by decide +kernel
theorem dX5_takeBack_21 : decode cX5_takeBack 21 = .ok (.getfield 21, 3) := by decide +kernel
theorem dX5_takeBack_24 : decode cX5_takeBack 24 = .ok (.invokevirtual 25, 3) := by decide +kernel
theorem dX5_takeBack_27 : decode cX5_takeBack 27 = .ok (.astore_n 2, 1) := by decide +kernel
theorem dX5_takeBack_28 : decode cX5_takeBack 28 = .ok (.aload_n 2, 1) := by decide +kernel
theorem dX5_takeBack_29 : decode cX5_takeBack 29 = .ok (.ifnull 8, 3) := by decide +kernel
theorem dX5_takeBack_32 : decode cX5_takeBack 32 = .ok (.aload_n 1, 1) := by decide +kernel
theorem dX5_takeBack_33 : decode cX5_takeBack 33 = .ok (.aload_n 2, 1) := by decide +kernel
theorem dX5_takeBack_34 : decode cX5_takeBack 34 = .ok (.invokevirtual 29, 3) := by decide +kernel
theorem dX5_takeBack_37 : decode cX5_takeBack 37 = .ok (.return_, 1) := by decide +kernel
def f_X5_takeBack (u0 : Nat) (u1 : Nat) (M : xm) : Option (xm) := (if (1 : Int32) ≤ (M u0 2) then xlet (up2 M u0 2 ((M u0 2) - (1 : Int32))) (fun M2 => xb1 (f_X5_row u0 M2 (M2 u0 2)) (fun o4 => xopt o4 (some M2) (fun o6 => xb1 (f_X1_takeOver u1 o6 M2) (fun M9 => some M9)))) else some M)
set_option maxHeartbeats 4000000 in
set_option maxRecDepth 20000 in
theorem c_X5_takeBack (l : Launch) (E : xE) (b : Nat) {u0 : Nat} (L_u0 : lat u0 pSteps) {u1 : Nat} (L_u1 : lat u1 pHeap) (M : xm) {M' : xm} (hf : f_X5_takeBack u0 u1 M = some M') :
    xMet l E b NX yX5_takeBack cX5_takeBack 3 none (xR 4) [.ref (b + u0), .ref (b + u1)] (cX E b M) none True (cX E b M') := by
  refine xMet.ofW (own := RX5) (by decide) rfl (Nat.le_of_ble_eq_true rfl) ?_
  intro p e s m below meth c H locs ls C hm hl
  have hx := C.1.1
  have hb := C.1.2.1
  have hl : lv_has ls 3 [(0, .ref (b + u0)), (1, .ref (b + u1))] := hl
  unfold f_X5_takeBack at hf
  refine lv_aload_n hx hb dX5_takeBack_0 rfl (lv_at hl 0 rfl) ?_
  refine x_get C hm inX5 rfl 2 (by decide) tf_RX5_21 (cx_Steps (L_u0 0 _ rfl)) rfl dX5_takeBack_1 ?_
  refine lv_iconst (v := (1 : Int32)) hx hb dX5_takeBack_4 (by decide) ?_
  refine lv_icmp_ge (tgt := 9) hx hb dX5_takeBack_5 (by decide) (fun hc1 => ?_) (fun hc1 => ?_)
  rotate_left
  · have hf := xif_f hc1 hf
    cases hf
    exact x_vret C hm trivial dX5_takeBack_8
  have hf := xif_t hc1 hf
  refine lv_aload_n hx hb dX5_takeBack_9 rfl (lv_at hl 0 rfl) ?_
  refine lv_dup hx hb dX5_takeBack_10 rfl ?_
  refine x_get C hm inX5 rfl 2 (by decide) tf_RX5_21 (cx_Steps (L_u0 0 _ rfl)) rfl dX5_takeBack_11 ?_
  refine lv_iconst (v := (1 : Int32)) hx hb dX5_takeBack_14 (by decide) ?_
  refine lv_isub hx hb dX5_takeBack_15 ?_
  obtain ⟨M2, eM2, hf⟩ := xlet_x hf
  refine x_put (cf' := cX E b M2) C hm inX5 tyX5 tyX5_ok nmX5 rfl 2 (by decide) tf_RX5_21 rfl rfl rfl (cx_Steps (L_u0 0 _ rfl)) (Nat.le_of_ble_eq_true rfl) (by rw [eM2]; exact cu_Steps_2 (L_u0 0 _ rfl)) (by rw [eM2]; exact cX_o) dX5_takeBack_16 (fun H locs hm => ?_)
  refine lv_aload_n hx hb dX5_takeBack_19 rfl (lv_at hl 0 rfl) ?_
  refine lv_aload_n hx hb dX5_takeBack_20 rfl (lv_at hl 0 rfl) ?_
  refine x_get C hm inX5 rfl 2 (by decide) tf_RX5_21 (cx_Steps (L_u0 0 _ rfl)) rfl dX5_takeBack_21 ?_
  obtain ⟨o4, hq3, hf⟩ := xb1_e hf
  refine x_callVr (As := [.int (M2 u0 2)]) (rest := []) C hm (c_X5_row l E b L_u0 M2 (M2 u0 2) hq3) rfl (cx_Steps (L_u0 0 _ rfl)) tc_X5_row tm_RX5_25 ti_X5_row ts_X5_row tn_RX5 td_X5_row rfl rfl ⟨Nat.le_of_ble_eq_true rfl, Nat.le_of_ble_eq_true rfl⟩ rfl hl.1 rfl (Nat.le_of_ble_eq_true rfl) ⟨Nat.zero_le _, Nat.zero_le _⟩ dX5_takeBack_24 (fun H locs hP5 hm => ?_)
  refine x_astoreQ_n (b := b) (o := o4) (lv' := [(2, xrf b o4), (0, .ref (b + u0)), (1, .ref (b + u1))]) hx hb dX5_takeBack_27 rfl hl (by decide) (by cases o4 <;> rfl) (fun ls hl => ?_)
  refine x_aloadQ_n (b := b) (o := o4) hx hb dX5_takeBack_28 rfl (lv_at hl 0 rfl) ?_
  refine x_ifnullQ (b := b) (o := o4) (tgt := 37) hx hb dX5_takeBack_29 (by decide) (fun hn7 => ?_) (fun o6 hn7 => ?_)
  · subst hn7
    have hf := xopt_n hf
    have hl := lv_sub (l' := [(0, .ref (b + u0)), (1, .ref (b + u1))]) hl [1, 2] rfl
    cases hf
    exact x_vret C hm trivial dX5_takeBack_37
  subst hn7
  have hf := xopt_s hf
  have hl : lv_has ls 3 [(2, .ref (b + o6)), (0, .ref (b + u0)), (1, .ref (b + u1))] := hl
  refine lv_aload_n hx hb dX5_takeBack_32 rfl (lv_at hl 2 rfl) ?_
  refine lv_aload_n hx hb dX5_takeBack_33 rfl (lv_at hl 0 rfl) ?_
  obtain ⟨M9, hq8, hf⟩ := xb1_e hf
  refine x_callVv (As := [.ref (b + o6)]) (rest := []) C hm (c_X1_takeOver l E b L_u1 ((X5_row_lat L_u0 hq3) o6 rfl) M2 hq8) rfl (cx_Heap (L_u1 0 _ rfl)) tc_X1_takeOver tm_RX5_29 ti_X1_takeOver ts_X1_takeOver tn_RX1 td_X1_takeOver rfl rfl ⟨Nat.le_of_ble_eq_true rfl, Nat.le_of_ble_eq_true rfl⟩ rfl hl.1 rfl (Nat.le_of_ble_eq_true rfl) ⟨Nat.zero_le _, Nat.zero_le _⟩ dX5_takeBack_34 (fun H locs hP10 hm => ?_)
  cases hf
  exact x_vret C hm trivial dX5_takeBack_37
/-! ColouredHeap$Steps.takeOver(LColouredHeap$Steps;)V -/
theorem dX5_takeOver_0 : decode cX5_takeOver 0 = .ok (.aload_n 0, 1) := by decide +kernel
theorem dX5_takeOver_1 : decode cX5_takeOver 1 = .ok (.iconst 0, 1) := by decide +kernel
theorem dX5_takeOver_2 : decode cX5_takeOver 2 = .ok (.putfield 17, 3) := by decide +kernel
theorem dX5_takeOver_5 : decode cX5_takeOver 5 = .ok (.aload_n 0, 1) := by decide +kernel
theorem dX5_takeOver_6 : decode cX5_takeOver 6 = .ok (.aload_n 1, 1) := by decide +kernel
theorem dX5_takeOver_7 : decode cX5_takeOver 7 = .ok (.getfield 21, 3) := by decide +kernel
theorem dX5_takeOver_10 : decode cX5_takeOver 10 = .ok (.putfield 21, 3) := by decide +kernel
theorem dX5_takeOver_13 : decode cX5_takeOver 13 = .ok (.iconst 0, 1) := by decide +kernel
theorem dX5_takeOver_14 : decode cX5_takeOver 14 = .ok (.istore_n 2, 1) := by decide +kernel
theorem dX5_takeOver_15 : decode cX5_takeOver 15 = .ok (.iload_n 2, 1) := by decide +kernel
theorem dX5_takeOver_16 : decode cX5_takeOver 16 = .ok (.aload_n 0, 1) := by decide +kernel
theorem dX5_takeOver_17 : decode cX5_takeOver 17 = .ok (.getfield 21, 3) := by decide +kernel
theorem dX5_takeOver_20 : decode cX5_takeOver 20 = .ok (.if_icmp .ge 37, 3) := by decide +kernel
theorem dX5_takeOver_23 : decode cX5_takeOver 23 = .ok (.aload_n 0, 1) := by decide +kernel
theorem dX5_takeOver_24 : decode cX5_takeOver 24 = .ok (.iload_n 2, 1) := by decide +kernel
theorem dX5_takeOver_25 : decode cX5_takeOver 25 = .ok (.invokevirtual 25, 3) := by decide +kernel
theorem dX5_takeOver_28 : decode cX5_takeOver 28 = .ok (.astore_n 3, 1) := by decide +kernel
theorem dX5_takeOver_29 : decode cX5_takeOver 29 = .ok (.aload_n 1, 1) := by decide +kernel
theorem dX5_takeOver_30 : decode cX5_takeOver 30 = .ok (.iload_n 2, 1) := by decide +kernel
theorem dX5_takeOver_31 : decode cX5_takeOver 31 = .ok (.invokevirtual 25, 3) := by decide +kernel
theorem dX5_takeOver_34 : decode cX5_takeOver 34 = .ok (.astore 4, 2) := by decide +kernel
theorem dX5_takeOver_36 : decode cX5_takeOver 36 = .ok (.aload_n 3, 1) := by decide +kernel
theorem dX5_takeOver_37 : decode cX5_takeOver 37 = .ok (.ifnull 14, 3) := by decide +kernel
theorem dX5_takeOver_40 : decode cX5_takeOver 40 = .ok (.aload 4, 2) := by decide +kernel
theorem dX5_takeOver_42 : decode cX5_takeOver 42 = .ok (.ifnull 9, 3) := by decide +kernel
theorem dX5_takeOver_45 : decode cX5_takeOver 45 = .ok (.aload_n 3, 1) := by decide +kernel
theorem dX5_takeOver_46 : decode cX5_takeOver 46 = .ok (.aload 4, 2) := by decide +kernel
theorem dX5_takeOver_48 : decode cX5_takeOver 48 = .ok (.invokevirtual 29, 3) := by decide +kernel
theorem dX5_takeOver_51 : decode cX5_takeOver 51 = .ok (.iinc 2 1, 3) := by decide +kernel
theorem dX5_takeOver_54 : decode cX5_takeOver 54 = .ok (.goto (-39), 3) := by decide +kernel
theorem dX5_takeOver_57 : decode cX5_takeOver 57 = .ok (.return_, 1) := by decide +kernel
def g_X5_takeOver_15 (o3 : Nat) (o4 : Nat) : Nat → xm → Int32 → Option ((xm))
  | 0, _, _ => none
  | n + 1, M6, x5 => (if (M6 o3 2) ≤ x5 then some (M6) else xb1 (f_X5_row o3 M6 x5) (fun o10 => xb1 (f_X5_row o4 M6 x5) (fun o13 => xopt o10 (xlet (x5 + (1 : Int32)) (fun v17 => g_X5_takeOver_15 o3 o4 n M6 v17)) (fun o15 => xopt o13 (xlet (x5 + (1 : Int32)) (fun v20 => g_X5_takeOver_15 o3 o4 n M6 v20)) (fun o18 => xb1 (f_X1_takeOver o15 o18 M6) (fun M22 => xlet (x5 + (1 : Int32)) (fun v24 => g_X5_takeOver_15 o3 o4 n M22 v24)))))))
def f_X5_takeOver (u0 : Nat) (u1 : Nat) (M : xm) : Option (xm) := xlet (up2 M u0 1 (0 : Int32)) (fun M1 => xlet (up2 M1 u0 2 (M1 u1 2)) (fun M2 => xb1 (g_X5_takeOver_15 u0 u1 xfuel M2 (0 : Int32)) (fun M25 => some M25)))
set_option maxHeartbeats 4000000 in
set_option maxRecDepth 20000 in
theorem j_X5_takeOver_15 {p : Program} {l : Launch} {e : Env} {s : State} {m : MethodId} {args : Array Value} {below : List Frame} {meth : Method} {c : Code} {Q : State → Prop} {E : xE} {b : Nat} (C : xC p s m args meth c cX5_takeOver 5 RX5 none E b) {o3 : Nat} (L_o3 : lat o3 pSteps) {o4 : Nat} (L_o4 : lat o4 pSteps) {y7 : xm}
    (kx0 : ∀ (H : Heap) (locs : List Loc) (ls : Array Slot), xM E b NX (cX E b y7) s.heap H locs → lv_has ls 5 [] → W p l e (xR 4) s m args below meth c H locs 0 0 Q (F0 m 57 ls [])) :
    ∀ (n : Nat) (M6 : xm) (x5 : Int32) (H : Heap) (locs : List Loc) (ls : Array Slot), g_X5_takeOver_15 o3 o4 n M6 x5 = some y7 → xM E b NX (cX E b M6) s.heap H locs → lv_has ls 5 [(0, .ref (b + o3)), (1, .ref (b + o4)), (2, .int x5)] → W p l e (xR 4) s m args below meth c H locs 0 0 Q (F0 m 15 ls []) := by
  have hx := C.1.1
  have hb := C.1.2.1
  intro n
  induction n with
  | zero =>
    intro M6 x5 H locs ls hf hm hl
    rw [g_X5_takeOver_15] at hf
    cases hf
  | succ n ih =>
    intro M6 x5 H locs ls hf hm hl
    rw [g_X5_takeOver_15] at hf
    refine lv_iload_n hx hb dX5_takeOver_15 rfl (lv_at hl 2 rfl) ?_
    refine lv_aload_n hx hb dX5_takeOver_16 rfl (lv_at hl 0 rfl) ?_
    refine x_get C hm inX5 rfl 2 (by decide) tf_RX5_21 (cx_Steps (L_o3 0 _ rfl)) rfl dX5_takeOver_17 ?_
    refine lv_icmp_ge (tgt := 57) hx hb dX5_takeOver_20 (by decide) (fun hc8 => ?_) (fun hc8 => ?_)
    · have hf := xif_t hc8 hf
      cases hf
      exact kx0 H locs ls hm (lv_sub hl [] rfl)
    have hf := xif_f hc8 hf
    refine lv_aload_n hx hb dX5_takeOver_23 rfl (lv_at hl 0 rfl) ?_
    refine lv_iload_n hx hb dX5_takeOver_24 rfl (lv_at hl 2 rfl) ?_
    obtain ⟨o10, hq9, hf⟩ := xb1_e hf
    refine x_callVr (As := [.int x5]) (rest := []) C hm (c_X5_row l E b L_o3 M6 x5 hq9) rfl (cx_Steps (L_o3 0 _ rfl)) tc_X5_row tm_RX5_25 ti_X5_row ts_X5_row tn_RX5 td_X5_row rfl rfl ⟨Nat.le_of_ble_eq_true rfl, Nat.le_of_ble_eq_true rfl⟩ rfl hl.1 rfl (Nat.le_of_ble_eq_true rfl) ⟨Nat.zero_le _, Nat.zero_le _⟩ dX5_takeOver_25 (fun H locs hP11 hm => ?_)
    refine x_astoreQ_n (b := b) (o := o10) (lv' := [(3, xrf b o10), (0, .ref (b + o3)), (1, .ref (b + o4)), (2, .int x5)]) hx hb dX5_takeOver_28 rfl hl (by decide) (by cases o10 <;> rfl) (fun ls hl => ?_)
    refine lv_aload_n hx hb dX5_takeOver_29 rfl (lv_at hl 2 rfl) ?_
    refine lv_iload_n hx hb dX5_takeOver_30 rfl (lv_at hl 3 rfl) ?_
    obtain ⟨o13, hq12, hf⟩ := xb1_e hf
    refine x_callVr (As := [.int x5]) (rest := []) C hm (c_X5_row l E b L_o4 M6 x5 hq12) rfl (cx_Steps (L_o4 0 _ rfl)) tc_X5_row tm_RX5_25 ti_X5_row ts_X5_row tn_RX5 td_X5_row rfl rfl ⟨Nat.le_of_ble_eq_true rfl, Nat.le_of_ble_eq_true rfl⟩ rfl hl.1 rfl (Nat.le_of_ble_eq_true rfl) ⟨Nat.zero_le _, Nat.zero_le _⟩ dX5_takeOver_31 (fun H locs hP14 hm => ?_)
    refine x_astoreQ (b := b) (o := o13) (lv' := [(4, xrf b o13), (3, xrf b o10), (0, .ref (b + o3)), (1, .ref (b + o4)), (2, .int x5)]) hx hb dX5_takeOver_34 hl (by decide) (by cases o10 <;> cases o13 <;> rfl) (fun ls hl => ?_)
    refine x_aloadQ_n (b := b) (o := o10) hx hb dX5_takeOver_36 rfl (lv_at hl 1 rfl) ?_
    refine x_ifnullQ (b := b) (o := o10) (tgt := 51) hx hb dX5_takeOver_37 (by decide) (fun hn16 => ?_) (fun o15 hn16 => ?_)
    · subst hn16
      have hf := xopt_n hf
      have hl := lv_sub (l' := [(4, xrf b o13), (0, .ref (b + o3)), (1, .ref (b + o4)), (2, .int x5)]) hl [0, 2, 3, 4] rfl
      obtain ⟨v17, ev17, hf⟩ := xlet_x hf
      refine lv_iinc (v := v17) (lv' := [(2, .int v17), (4, xrf b o13), (0, .ref (b + o3)), (1, .ref (b + o4))]) hx hb dX5_takeOver_51 hl (k := 3) rfl (by rw [ev17]; rfl) (by decide) (by cases o13 <;> rfl) (fun ls hl => ?_)
      refine lv_goto (tgt := 15) hx hb dX5_takeOver_54 (by decide) ?_
      exact ih M6 v17 H locs ls hf hm (lv_sub hl [2, 3, 0] rfl)
    subst hn16
    have hf := xopt_s hf
    have hl : lv_has ls 5 [(4, xrf b o13), (3, .ref (b + o15)), (0, .ref (b + o3)), (1, .ref (b + o4)), (2, .int x5)] := hl
    refine x_aloadQ (b := b) (o := o13) hx hb dX5_takeOver_40 (lv_at hl 0 rfl) ?_
    refine x_ifnullQ (b := b) (o := o13) (tgt := 51) hx hb dX5_takeOver_42 (by decide) (fun hn19 => ?_) (fun o18 hn19 => ?_)
    · subst hn19
      have hf := xopt_n hf
      have hl := lv_sub (l' := [(3, .ref (b + o15)), (0, .ref (b + o3)), (1, .ref (b + o4)), (2, .int x5)]) hl [1, 2, 3, 4] rfl
      obtain ⟨v20, ev20, hf⟩ := xlet_x hf
      refine lv_iinc (v := v20) (lv' := [(2, .int v20), (3, .ref (b + o15)), (0, .ref (b + o3)), (1, .ref (b + o4))]) hx hb dX5_takeOver_51 hl (k := 3) rfl (by rw [ev20]; rfl) (by decide) rfl (fun ls hl => ?_)
      refine lv_goto (tgt := 15) hx hb dX5_takeOver_54 (by decide) ?_
      exact ih M6 v20 H locs ls hf hm (lv_sub hl [2, 3, 0] rfl)
    subst hn19
    have hf := xopt_s hf
    have hl : lv_has ls 5 [(4, .ref (b + o18)), (3, .ref (b + o15)), (0, .ref (b + o3)), (1, .ref (b + o4)), (2, .int x5)] := hl
    refine lv_aload_n hx hb dX5_takeOver_45 rfl (lv_at hl 1 rfl) ?_
    refine lv_aload hx hb dX5_takeOver_46 (lv_at hl 0 rfl) ?_
    obtain ⟨M22, hq21, hf⟩ := xb1_e hf
    refine x_callVv (As := [.ref (b + o18)]) (rest := []) C hm (c_X1_takeOver l E b ((X5_row_lat L_o3 hq9) o15 rfl) ((X5_row_lat L_o4 hq12) o18 rfl) M6 hq21) rfl (cx_Heap (((X5_row_lat L_o3 hq9) o15 rfl) 0 _ rfl)) tc_X1_takeOver tm_RX5_29 ti_X1_takeOver ts_X1_takeOver tn_RX1 td_X1_takeOver rfl rfl ⟨Nat.le_of_ble_eq_true rfl, Nat.le_of_ble_eq_true rfl⟩ rfl hl.1 rfl (Nat.le_of_ble_eq_true rfl) ⟨Nat.zero_le _, Nat.zero_le _⟩ dX5_takeOver_48 (fun H locs hP23 hm => ?_)
    obtain ⟨v24, ev24, hf⟩ := xlet_x hf
    refine lv_iinc (v := v24) (lv' := [(2, .int v24), (4, .ref (b + o18)), (3, .ref (b + o15)), (0, .ref (b + o3)), (1, .ref (b + o4))]) hx hb dX5_takeOver_51 hl (k := 4) rfl (by rw [ev24]; rfl) (by decide) rfl (fun ls hl => ?_)
    refine lv_goto (tgt := 15) hx hb dX5_takeOver_54 (by decide) ?_
    exact ih M22 v24 H locs ls hf hm (lv_sub hl [3, 4, 0] rfl)
set_option maxHeartbeats 4000000 in
set_option maxRecDepth 20000 in
theorem c_X5_takeOver (l : Launch) (E : xE) (b : Nat) {u0 : Nat} (L_u0 : lat u0 pSteps) {u1 : Nat} (L_u1 : lat u1 pSteps) (M : xm) {M' : xm} (hf : f_X5_takeOver u0 u1 M = some M') :
    xMet l E b NX yX5_takeOver cX5_takeOver 5 none (xR 4) [.ref (b + u0), .ref (b + u1)] (cX E b M) none True (cX E b M') := by
  refine xMet.ofW (own := RX5) (by decide) rfl (Nat.le_of_ble_eq_true rfl) ?_
  intro p e s m below meth c H locs ls C hm hl
  have hx := C.1.1
  have hb := C.1.2.1
  have hl : lv_has ls 5 [(0, .ref (b + u0)), (1, .ref (b + u1))] := hl
  unfold f_X5_takeOver at hf
  refine lv_aload_n hx hb dX5_takeOver_0 rfl (lv_at hl 0 rfl) ?_
  refine lv_iconst (v := (0 : Int32)) hx hb dX5_takeOver_1 (by decide) ?_
  obtain ⟨M1, eM1, hf⟩ := xlet_x hf
  refine x_put (cf' := cX E b M1) C hm inX5 tyX5 tyX5_ok nmX5 rfl 1 (by decide) tf_RX5_17 rfl rfl rfl (cx_Steps (L_u0 0 _ rfl)) (Nat.le_of_ble_eq_true rfl) (by rw [eM1]; exact cu_Steps_1 (L_u0 0 _ rfl)) (by rw [eM1]; exact cX_o) dX5_takeOver_2 (fun H locs hm => ?_)
  refine lv_aload_n hx hb dX5_takeOver_5 rfl (lv_at hl 0 rfl) ?_
  refine lv_aload_n hx hb dX5_takeOver_6 rfl (lv_at hl 1 rfl) ?_
  refine x_get C hm inX5 rfl 2 (by decide) tf_RX5_21 (cx_Steps (L_u1 0 _ rfl)) rfl dX5_takeOver_7 ?_
  obtain ⟨M2, eM2, hf⟩ := xlet_x hf
  refine x_put (cf' := cX E b M2) C hm inX5 tyX5 tyX5_ok nmX5 rfl 2 (by decide) tf_RX5_21 rfl rfl rfl (cx_Steps (L_u0 0 _ rfl)) (Nat.le_of_ble_eq_true rfl) (by rw [eM2]; exact cu_Steps_2 (L_u0 0 _ rfl)) (by rw [eM2]; exact cX_o) dX5_takeOver_10 (fun H locs hm => ?_)
  refine lv_iconst (v := (0 : Int32)) hx hb dX5_takeOver_13 (by decide) ?_
  refine lv_istore_n (lv' := [(2, .int (0 : Int32)), (0, .ref (b + u0)), (1, .ref (b + u1))]) hx hb dX5_takeOver_14 rfl hl (by decide) rfl (fun ls hl => ?_)
  obtain ⟨M25, hq, hf⟩ := xb1_e hf
  refine j_X5_takeOver_15 C L_u0 L_u1 (fun H locs ls hm hl => ?_) xfuel M2 (0 : Int32) H locs ls hq hm (lv_sub hl [1, 2, 0] rfl)
  cases hf
  exact x_vret C hm trivial dX5_takeOver_57
/-! ColouredHeap$Survey.chainFrom(LColouredHeap$Heap;I)I -/
theorem dX6_chainFrom_0 : decode cX6_chainFrom 0 = .ok (.aload_n 0, 1) := by decide +kernel
theorem dX6_chainFrom_1 : decode cX6_chainFrom 1 = .ok (.getfield 18, 3) := by decide +kernel
theorem dX6_chainFrom_4 : decode cX6_chainFrom 4 = .ok (.iconst 0, 1) := by decide +kernel
theorem dX6_chainFrom_5 : decode cX6_chainFrom 5 = .ok (.invokestatic 21, 3) := by decide +kernel
theorem dX6_chainFrom_8 : decode cX6_chainFrom 8 = .ok (.iload_n 2, 1) := by decide +kernel
theorem dX6_chainFrom_9 : decode cX6_chainFrom 9 = .ok (.istore_n 3, 1) := by decide +kernel
theorem dX6_chainFrom_10 : decode cX6_chainFrom 10 = .ok (.iconst 0, 1) := by decide +kernel
theorem dX6_chainFrom_11 : decode cX6_chainFrom 11 = .ok (.istore 4, 2) := by decide +kernel
theorem dX6_chainFrom_13 : decode cX6_chainFrom 13 = .ok (.iload 4, 2) := by decide +kernel
theorem dX6_chainFrom_15 : decode cX6_chainFrom 15 = .ok (.bipush 64, 2) := by decide +kernel
theorem dX6_chainFrom_17 : decode cX6_chainFrom 17 = .ok (.if_icmp .ge 53, 3) := by decide +kernel
theorem dX6_chainFrom_20 : decode cX6_chainFrom 20 = .ok (.iload_n 3, 1) := by decide +kernel
theorem dX6_chainFrom_21 : decode cX6_chainFrom 21 = .ok (.invokestatic 64, 3) := by decide +kernel
theorem dX6_chainFrom_24 : decode cX6_chainFrom 24 = .ok (.ifCond .eq 46, 3) := by decide +kernel
theorem dX6_chainFrom_27 : decode cX6_chainFrom 27 = .ok (.aload_n 0, 1) := by decide +kernel
theorem dX6_chainFrom_28 : decode cX6_chainFrom 28 = .ok (.getfield 9, 3) := by decide +kernel
theorem dX6_chainFrom_31 : decode cX6_chainFrom 31 = .ok (.iload_n 3, 1) := by decide +kernel
theorem dX6_chainFrom_32 : decode cX6_chainFrom 32 = .ok (.iaload, 1) := by decide +kernel
theorem dX6_chainFrom_33 : decode cX6_chainFrom 33 = .ok (.iconst (-1), 1) := by decide +kernel
theorem dX6_chainFrom_34 : decode cX6_chainFrom 34 = .ok (.if_icmp .eq 36, 3) := by decide +kernel
theorem dX6_chainFrom_37 : decode cX6_chainFrom 37 = .ok (.aload_n 0, 1) := by decide +kernel
theorem dX6_chainFrom_38 : decode cX6_chainFrom 38 = .ok (.getfield 18, 3) := by decide +kernel
theorem dX6_chainFrom_41 : decode cX6_chainFrom 41 = .ok (.iload_n 3, 1) := by decide +kernel
theorem dX6_chainFrom_42 : decode cX6_chainFrom 42 = .ok (.iaload, 1) := by decide +kernel
theorem dX6_chainFrom_43 : decode cX6_chainFrom 43 = .ok (.ifCond .ne 27, 3) := by decide +kernel
theorem dX6_chainFrom_46 : decode cX6_chainFrom 46 = .ok (.aload_n 0, 1) := by decide +kernel
theorem dX6_chainFrom_47 : decode cX6_chainFrom 47 = .ok (.getfield 18, 3) := by decide +kernel
theorem dX6_chainFrom_50 : decode cX6_chainFrom 50 = .ok (.iload_n 3, 1) := by decide +kernel
theorem dX6_chainFrom_51 : decode cX6_chainFrom 51 = .ok (.iconst 1, 1) := by decide +kernel
theorem dX6_chainFrom_52 : decode cX6_chainFrom 52 = .ok (.iastore, 1) := by decide +kernel
theorem dX6_chainFrom_53 : decode cX6_chainFrom 53 = .ok (.iinc 4 1, 3) := by decide +kernel
theorem dX6_chainFrom_56 : decode cX6_chainFrom 56 = .ok (.aload_n 1, 1) := by decide +kernel
theorem dX6_chainFrom_57 : decode cX6_chainFrom 57 = .ok (.aload_n 1, 1) := by decide +kernel
theorem dX6_chainFrom_58 : decode cX6_chainFrom 58 = .ok (.iload_n 3, 1) := by decide +kernel
theorem dX6_chainFrom_59 : decode cX6_chainFrom 59 = .ok (.iconst 0, 1) := by decide +kernel
theorem dX6_chainFrom_60 : decode cX6_chainFrom 60 = .ok (.invokevirtual 54, 3) := by decide +kernel
theorem dX6_chainFrom_63 : decode cX6_chainFrom 63 = .ok (.invokevirtual 61, 3) := by decide +kernel
theorem dX6_chainFrom_66 : decode cX6_chainFrom 66 = .ok (.istore_n 3, 1) := by decide +kernel
theorem dX6_chainFrom_67 : decode cX6_chainFrom 67 = .ok (.goto (-54), 3) := by decide +kernel
theorem dX6_chainFrom_70 : decode cX6_chainFrom 70 = .ok (.iload 4, 2) := by decide +kernel
theorem dX6_chainFrom_72 : decode cX6_chainFrom 72 = .ok (.ireturn, 1) := by decide +kernel
def g_X6_chainFrom_13 (o4 : Nat) : Nat → xm → Int32 → Int32 → Option ((Int32 × xm))
  | 0, _, _, _ => none
  | n + 1, M7, x5, x6 => (if (64 : Int32) ≤ x6 then some ((x6, M7)) else (if (f_X9_isAddress x5) = 0 then some ((x6, M7)) else if xin x5 64 = true then (if (M7 (986 + 1) (Int32.toNatClampNeg x5)) = (-1 : Int32) then some ((x6, M7)) else (if (M7 (986 + 3) (Int32.toNatClampNeg x5)) = 0 then xlet (up2 M7 (986 + 3) (Int32.toNatClampNeg x5) (1 : Int32)) (fun M16 => xlet (x6 + (1 : Int32)) (fun v17 => xb1 (f_X1_fieldOf o4 M16 x5 (0 : Int32)) (fun v19 => xb1 (f_X1_leadsTo o4 M16 v19) (fun v22 => g_X6_chainFrom_13 o4 n M16 v22 v17)))) else some ((x6, M7)))) else none))
def f_X6_chainFrom (u1 : Nat) (M : xm) (a2 : Int32) : Option (Int32 × xm) := xb1 (f_J7_fill_53178 (986 + 3) 64 M (0 : Int32)) (fun M2 => xb2 (g_X6_chainFrom_13 u1 xfuel M2 a2 (0 : Int32)) (fun v24 M25 => some (v24, M25)))
set_option maxHeartbeats 4000000 in
set_option maxRecDepth 20000 in
theorem j_X6_chainFrom_13 {p : Program} {l : Launch} {e : Env} {s : State} {m : MethodId} {args : Array Value} {below : List Frame} {meth : Method} {c : Code} {Q : State → Prop} {E : xE} {b : Nat} (C : xC p s m args meth c cX6_chainFrom 5 RX6 (some .int) E b) {o4 : Nat} (L_o4 : lat o4 pHeap) {y8 : Int32} {y9 : xm}
    (kx0 : ∀ (H : Heap) (locs : List Loc) (ls : Array Slot), xM E b NX (cX E b y9) s.heap H locs → lv_has ls 5 [(4, .int y8)] → W p l e (xR 4) s m args below meth c H locs 0 0 Q (F0 m 70 ls [])) :
    ∀ (n : Nat) (M7 : xm) (x5 : Int32) (x6 : Int32) (H : Heap) (locs : List Loc) (ls : Array Slot), g_X6_chainFrom_13 o4 n M7 x5 x6 = some (y8, y9) → xM E b NX (cX E b M7) s.heap H locs → lv_has ls 5 [(0, .ref (b + 986)), (1, .ref (b + o4)), (3, .int x5), (4, .int x6)] → W p l e (xR 4) s m args below meth c H locs 0 0 Q (F0 m 13 ls []) := by
  have hx := C.1.1
  have hb := C.1.2.1
  intro n
  induction n with
  | zero =>
    intro M7 x5 x6 H locs ls hf hm hl
    rw [g_X6_chainFrom_13] at hf
    cases hf
  | succ n ih =>
    intro M7 x5 x6 H locs ls hf hm hl
    rw [g_X6_chainFrom_13] at hf
    refine lv_iload hx hb dX6_chainFrom_13 (lv_at hl 3 rfl) ?_
    refine lv_bipush (v := (64 : Int32)) hx hb dX6_chainFrom_15 (by decide) ?_
    refine lv_icmp_ge (tgt := 70) hx hb dX6_chainFrom_17 (by decide) (fun hc10 => ?_) (fun hc10 => ?_)
    · have hf := xif_t hc10 hf
      cases hf
      exact kx0 H locs ls hm (lv_sub hl [3] rfl)
    have hf := xif_f hc10 hf
    refine lv_iload_n hx hb dX6_chainFrom_20 rfl (lv_at hl 2 rfl) ?_
    refine x_callSNi (As := [.int x5]) (rest := []) C hm (c_X9_isAddress l E b M7 x5 rfl) tc_X9_isAddress (by decide +kernel : (RX6, 64, yX9_isAddress, "ColouredHeap") ∈ xNest) tz_X9_isAddress tn_RX9 td_X9_isAddress rfl rfl ⟨Nat.le_of_ble_eq_true rfl, Nat.le_of_ble_eq_true rfl⟩ rfl hl.1 rfl (Nat.le_of_ble_eq_true rfl) ⟨Nat.zero_le _, Nat.zero_le _⟩ dX6_chainFrom_21 (fun H locs hP11 hm => ?_)
    refine lv_if_eq (tgt := 70) hx hb dX6_chainFrom_24 (by decide) (fun hc12 => ?_) (fun hc12 => ?_)
    · have hf := xif_t hc12 hf
      cases hf
      exact kx0 H locs ls hm (lv_sub hl [3] rfl)
    have hf := xif_f hc12 hf
    refine lv_aload_n hx hb dX6_chainFrom_27 rfl (lv_at hl 0 rfl) ?_
    refine x_get C hm inX6 rfl 0 (by decide) tf_RX6_9 (cx_Survey (LX_survey 0 _ rfl)) rfl dX6_chainFrom_28 ?_
    refine lv_iload_n hx hb dX6_chainFrom_31 rfl (lv_at hl 2 rfl) ?_
    obtain ⟨hi13, hf⟩ := xif_s hf
    refine x_iald (j := (Int32.toNatClampNeg x5)) C hm (cx_I (LX_survey 1 _ rfl)) hi13 dX6_chainFrom_32 rfl ?_
    refine lv_iconst (v := (-1 : Int32)) hx hb dX6_chainFrom_33 (by decide) ?_
    refine lv_icmp_eq (tgt := 70) hx hb dX6_chainFrom_34 (by decide) (fun hc14 => ?_) (fun hc14 => ?_)
    · have hf := xif_t hc14 hf
      cases hf
      exact kx0 H locs ls hm (lv_sub hl [3] rfl)
    have hf := xif_f hc14 hf
    refine lv_aload_n hx hb dX6_chainFrom_37 rfl (lv_at hl 0 rfl) ?_
    refine x_get C hm inX6 rfl 2 (by decide) tf_RX6_18 (cx_Survey (LX_survey 0 _ rfl)) rfl dX6_chainFrom_38 ?_
    refine lv_iload_n hx hb dX6_chainFrom_41 rfl (lv_at hl 2 rfl) ?_
    refine x_iald (j := (Int32.toNatClampNeg x5)) C hm (cx_I (LX_survey 3 _ rfl)) hi13 dX6_chainFrom_42 rfl ?_
    refine lv_if_ne (tgt := 70) hx hb dX6_chainFrom_43 (by decide) (fun hc15 => ?_) (fun hc15 => ?_)
    · have hf := xif_f hc15 hf
      cases hf
      exact kx0 H locs ls hm (lv_sub hl [3] rfl)
    have hf := xif_t hc15 hf
    refine lv_aload_n hx hb dX6_chainFrom_46 rfl (lv_at hl 0 rfl) ?_
    refine x_get C hm inX6 rfl 2 (by decide) tf_RX6_18 (cx_Survey (LX_survey 0 _ rfl)) rfl dX6_chainFrom_47 ?_
    refine lv_iload_n hx hb dX6_chainFrom_50 rfl (lv_at hl 2 rfl) ?_
    refine lv_iconst (v := (1 : Int32)) hx hb dX6_chainFrom_51 (by decide) ?_
    obtain ⟨M16, eM16, hf⟩ := xlet_x hf
    refine x_iast (j := (Int32.toNatClampNeg x5)) (cf' := cX E b M16) C hm (cx_I (LX_survey 3 _ rfl)) hi13 dX6_chainFrom_52 rfl (by rw [eM16]; exact cu_I (LX_survey 3 _ rfl)) (by rw [eM16]; exact cX_o) (fun H locs hm => ?_)
    obtain ⟨v17, ev17, hf⟩ := xlet_x hf
    refine lv_iinc (v := v17) (lv' := [(4, .int v17), (0, .ref (b + 986)), (1, .ref (b + o4)), (3, .int x5)]) hx hb dX6_chainFrom_53 hl (k := 3) rfl (by rw [ev17]; rfl) (by decide) rfl (fun ls hl => ?_)
    refine lv_aload_n hx hb dX6_chainFrom_56 rfl (lv_at hl 2 rfl) ?_
    refine lv_aload_n hx hb dX6_chainFrom_57 rfl (lv_at hl 2 rfl) ?_
    refine lv_iload_n hx hb dX6_chainFrom_58 rfl (lv_at hl 3 rfl) ?_
    refine lv_iconst (v := (0 : Int32)) hx hb dX6_chainFrom_59 (by decide) ?_
    obtain ⟨v19, hq18, hf⟩ := xb1_e hf
    refine x_callVi (As := [.int x5, .int (0 : Int32)]) (rest := [.ref (b + o4)]) C hm (c_X1_fieldOf l E b L_o4 M16 x5 (0 : Int32) hq18) rfl (cx_Heap (L_o4 0 _ rfl)) tc_X1_fieldOf tm_RX6_54 ti_X1_fieldOf ts_X1_fieldOf tn_RX1 td_X1_fieldOf rfl rfl ⟨Nat.le_of_ble_eq_true rfl, Nat.le_of_ble_eq_true rfl⟩ rfl hl.1 rfl (Nat.le_of_ble_eq_true rfl) ⟨Nat.zero_le _, Nat.zero_le _⟩ dX6_chainFrom_60 (fun H locs hP20 hm => ?_)
    obtain ⟨v22, hq21, hf⟩ := xb1_e hf
    refine x_callVi (As := [.int v19]) (rest := []) C hm (c_X1_leadsTo l E b L_o4 M16 v19 hq21) rfl (cx_Heap (L_o4 0 _ rfl)) tc_X1_leadsTo tm_RX6_61 ti_X1_leadsTo ts_X1_leadsTo tn_RX1 td_X1_leadsTo rfl rfl ⟨Nat.le_of_ble_eq_true rfl, Nat.le_of_ble_eq_true rfl⟩ rfl hl.1 rfl (Nat.le_of_ble_eq_true rfl) ⟨Nat.zero_le _, Nat.zero_le _⟩ dX6_chainFrom_63 (fun H locs hP23 hm => ?_)
    refine lv_istore_n (lv' := [(3, .int v22), (4, .int v17), (0, .ref (b + 986)), (1, .ref (b + o4))]) hx hb dX6_chainFrom_66 rfl hl (by decide) rfl (fun ls hl => ?_)
    refine lv_goto (tgt := 13) hx hb dX6_chainFrom_67 (by decide) ?_
    exact ih M16 v22 v17 H locs ls hf hm (lv_sub hl [2, 3, 0, 1] rfl)
set_option maxHeartbeats 4000000 in
set_option maxRecDepth 20000 in
theorem c_X6_chainFrom (l : Launch) (E : xE) (b : Nat) {u1 : Nat} (L_u1 : lat u1 pHeap) (M : xm) (a2 : Int32) {r : Int32} {M' : xm} (hf : f_X6_chainFrom u1 M a2 = some (r, M')) :
    xMet l E b NX yX6_chainFrom cX6_chainFrom 5 (some .int) (xR 4) [.ref (b + 986), .ref (b + u1), .int a2] (cX E b M) (some (.int r)) True (cX E b M') := by
  refine xMet.ofW (own := RX6) (by decide) rfl (Nat.le_of_ble_eq_true rfl) ?_
  intro p e s m below meth c H locs ls C hm hl
  have hx := C.1.1
  have hb := C.1.2.1
  have hl : lv_has ls 5 [(0, .ref (b + 986)), (1, .ref (b + u1)), (2, .int a2)] := hl
  unfold f_X6_chainFrom at hf
  refine lv_aload_n hx hb dX6_chainFrom_0 rfl (lv_at hl 0 rfl) ?_
  refine x_get C hm inX6 rfl 2 (by decide) tf_RX6_18 (cx_Survey (LX_survey 0 _ rfl)) rfl dX6_chainFrom_1 ?_
  refine lv_iconst (v := (0 : Int32)) hx hb dX6_chainFrom_4 (by decide) ?_
  obtain ⟨M2, hq1, hf⟩ := xb1_e hf
  refine x_callSv (As := [.ref (b + (986 + 3)), .int (0 : Int32)]) (rest := []) C hm (c_J7_fill_53178 l E b (LX_survey 3 _ rfl) M (0 : Int32) hq1) tc_J7_fill_53178 tm_RX6_21 tz_J7_fill_53178 tn_RJ7 td_J7_fill_53178 rfl rfl ⟨Nat.le_of_ble_eq_true rfl, Nat.le_of_ble_eq_true rfl⟩ rfl hl.1 rfl (Nat.le_of_ble_eq_true rfl) ⟨Nat.zero_le _, Nat.zero_le _⟩ dX6_chainFrom_5 (fun H locs hP3 hm => ?_)
  refine lv_iload_n hx hb dX6_chainFrom_8 rfl (lv_at hl 2 rfl) ?_
  refine lv_istore_n (lv' := [(3, .int a2), (0, .ref (b + 986)), (1, .ref (b + u1)), (2, .int a2)]) hx hb dX6_chainFrom_9 rfl hl (by decide) rfl (fun ls hl => ?_)
  refine lv_iconst (v := (0 : Int32)) hx hb dX6_chainFrom_10 (by decide) ?_
  refine lv_istore (lv' := [(4, .int (0 : Int32)), (3, .int a2), (0, .ref (b + 986)), (1, .ref (b + u1)), (2, .int a2)]) hx hb dX6_chainFrom_11 hl (by decide) rfl (fun ls hl => ?_)
  obtain ⟨v24, M25, hq, hf⟩ := xb2_e hf
  refine j_X6_chainFrom_13 C L_u1 (fun H locs ls hm hl => ?_) xfuel M2 a2 (0 : Int32) H locs ls hq hm (lv_sub hl [2, 3, 1, 0] rfl)
  refine lv_iload hx hb dX6_chainFrom_70 (lv_at hl 0 rfl) ?_
  cases hf
  exact x_iret C hm trivial dX6_chainFrom_72
/-! ColouredHeap$Survey.objectsOf(LColouredHeap$Heap;I)I -/
theorem dX6_objectsOf_0 : decode cX6_objectsOf 0 = .ok (.iconst 0, 1) := by decide +kernel
theorem dX6_objectsOf_1 : decode cX6_objectsOf 1 = .ok (.istore_n 3, 1) := by decide +kernel
theorem dX6_objectsOf_2 : decode cX6_objectsOf 2 = .ok (.iconst 0, 1) := by decide +kernel
theorem dX6_objectsOf_3 : decode cX6_objectsOf 3 = .ok (.istore 4, 2) := by decide +kernel
theorem dX6_objectsOf_5 : decode cX6_objectsOf 5 = .ok (.iload 4, 2) := by decide +kernel
theorem dX6_objectsOf_7 : decode cX6_objectsOf 7 = .ok (.aload_n 0, 1) := by decide +kernel
theorem dX6_objectsOf_8 : decode cX6_objectsOf 8 = .ok (.getfield 27, 3) := by decide +kernel
theorem dX6_objectsOf_11 : decode cX6_objectsOf 11 = .ok (.if_icmp .ge 34, 3) := by decide +kernel
theorem dX6_objectsOf_14 : decode cX6_objectsOf 14 = .ok (.iload 4, 2) := by decide +kernel
theorem dX6_objectsOf_16 : decode cX6_objectsOf 16 = .ok (.bipush 64, 2) := by decide +kernel
theorem dX6_objectsOf_18 : decode cX6_objectsOf 18 = .ok (.if_icmp .ge 27, 3) := by decide +kernel
theorem dX6_objectsOf_21 : decode cX6_objectsOf 21 = .ok (.aload_n 1, 1) := by decide +kernel
theorem dX6_objectsOf_22 : decode cX6_objectsOf 22 = .ok (.aload_n 0, 1) := by decide +kernel
theorem dX6_objectsOf_23 : decode cX6_objectsOf 23 = .ok (.getfield 15, 3) := by decide +kernel
theorem dX6_objectsOf_26 : decode cX6_objectsOf 26 = .ok (.iload 4, 2) := by decide +kernel
theorem dX6_objectsOf_28 : decode cX6_objectsOf 28 = .ok (.iaload, 1) := by decide +kernel
theorem dX6_objectsOf_29 : decode cX6_objectsOf 29 = .ok (.invokevirtual 50, 3) := by decide +kernel
theorem dX6_objectsOf_32 : decode cX6_objectsOf 32 = .ok (.iload_n 2, 1) := by decide +kernel
theorem dX6_objectsOf_33 : decode cX6_objectsOf 33 = .ok (.if_icmp .ne 6, 3) := by decide +kernel
theorem dX6_objectsOf_36 : decode cX6_objectsOf 36 = .ok (.iinc 3 1, 3) := by decide +kernel
theorem dX6_objectsOf_39 : decode cX6_objectsOf 39 = .ok (.iinc 4 1, 3) := by decide +kernel
theorem dX6_objectsOf_42 : decode cX6_objectsOf 42 = .ok (.goto (-37), 3) := by decide +kernel
theorem dX6_objectsOf_45 : decode cX6_objectsOf 45 = .ok (.iload_n 3, 1) := by decide +kernel
theorem dX6_objectsOf_46 : decode cX6_objectsOf 46 = .ok (.ireturn, 1) := by decide +kernel
def g_X6_objectsOf_5 (o1 : Nat) (M : xm) (x2 : Int32) : Nat → Int32 → Int32 → Option ((Int32))
  | 0, _, _ => none
  | n + 1, x3, x4 => (if (M 986 3) ≤ x4 then some (x3) else (if (64 : Int32) ≤ x4 then some (x3) else if xin x4 64 = true then xb1 (f_X1_sizeAt o1 M (M (986 + 2) (Int32.toNatClampNeg x4))) (fun v10 => (if v10 = x2 then xlet (x3 + (1 : Int32)) (fun v14 => xlet (x4 + (1 : Int32)) (fun v15 => g_X6_objectsOf_5 o1 M x2 n v14 v15)) else xlet (x4 + (1 : Int32)) (fun v13 => g_X6_objectsOf_5 o1 M x2 n x3 v13))) else none))
def f_X6_objectsOf (u1 : Nat) (M : xm) (a2 : Int32) : Option (Int32) := xb1 (g_X6_objectsOf_5 u1 M a2 xfuel (0 : Int32) (0 : Int32)) (fun v16 => some v16)
set_option maxHeartbeats 4000000 in
set_option maxRecDepth 20000 in
theorem j_X6_objectsOf_5 {p : Program} {l : Launch} {e : Env} {s : State} {m : MethodId} {args : Array Value} {below : List Frame} {meth : Method} {c : Code} {Q : State → Prop} {E : xE} {b : Nat} (C : xC p s m args meth c cX6_objectsOf 5 RX6 (some .int) E b) {o1 : Nat} (L_o1 : lat o1 pHeap) (M : xm) (x2 : Int32) {y5 : Int32}
    (kx0 : ∀ (H : Heap) (locs : List Loc) (ls : Array Slot), xM E b NX (cX E b M) s.heap H locs → lv_has ls 5 [(3, .int y5)] → W p l e (xR 3) s m args below meth c H locs 0 0 Q (F0 m 45 ls [])) :
    ∀ (n : Nat) (x3 : Int32) (x4 : Int32) (H : Heap) (locs : List Loc) (ls : Array Slot), g_X6_objectsOf_5 o1 M x2 n x3 x4 = some y5 → xM E b NX (cX E b M) s.heap H locs → lv_has ls 5 [(0, .ref (b + 986)), (1, .ref (b + o1)), (2, .int x2), (3, .int x3), (4, .int x4)] → W p l e (xR 3) s m args below meth c H locs 0 0 Q (F0 m 5 ls []) := by
  have hx := C.1.1
  have hb := C.1.2.1
  intro n
  induction n with
  | zero =>
    intro x3 x4 H locs ls hf hm hl
    rw [g_X6_objectsOf_5] at hf
    cases hf
  | succ n ih =>
    intro x3 x4 H locs ls hf hm hl
    rw [g_X6_objectsOf_5] at hf
    refine lv_iload hx hb dX6_objectsOf_5 (lv_at hl 4 rfl) ?_
    refine lv_aload_n hx hb dX6_objectsOf_7 rfl (lv_at hl 0 rfl) ?_
    refine x_get C hm inX6 rfl 3 (by decide) tf_RX6_27 (cx_Survey (LX_survey 0 _ rfl)) rfl dX6_objectsOf_8 ?_
    refine lv_icmp_ge (tgt := 45) hx hb dX6_objectsOf_11 (by decide) (fun hc6 => ?_) (fun hc6 => ?_)
    · have hf := xif_t hc6 hf
      cases hf
      exact kx0 H locs ls hm (lv_sub hl [3] rfl)
    have hf := xif_f hc6 hf
    refine lv_iload hx hb dX6_objectsOf_14 (lv_at hl 4 rfl) ?_
    refine lv_bipush (v := (64 : Int32)) hx hb dX6_objectsOf_16 (by decide) ?_
    refine lv_icmp_ge (tgt := 45) hx hb dX6_objectsOf_18 (by decide) (fun hc7 => ?_) (fun hc7 => ?_)
    · have hf := xif_t hc7 hf
      cases hf
      exact kx0 H locs ls hm (lv_sub hl [3] rfl)
    have hf := xif_f hc7 hf
    refine lv_aload_n hx hb dX6_objectsOf_21 rfl (lv_at hl 1 rfl) ?_
    refine lv_aload_n hx hb dX6_objectsOf_22 rfl (lv_at hl 0 rfl) ?_
    refine x_get C hm inX6 rfl 1 (by decide) tf_RX6_15 (cx_Survey (LX_survey 0 _ rfl)) rfl dX6_objectsOf_23 ?_
    refine lv_iload hx hb dX6_objectsOf_26 (lv_at hl 4 rfl) ?_
    obtain ⟨hi8, hf⟩ := xif_s hf
    refine x_iald (j := (Int32.toNatClampNeg x4)) C hm (cx_I (LX_survey 2 _ rfl)) hi8 dX6_objectsOf_28 rfl ?_
    obtain ⟨v10, hq9, hf⟩ := xb1_e hf
    refine x_callVi (As := [.int (M (986 + 2) (Int32.toNatClampNeg x4))]) (rest := []) C hm (c_X1_sizeAt l E b L_o1 M (M (986 + 2) (Int32.toNatClampNeg x4)) hq9) rfl (cx_Heap (L_o1 0 _ rfl)) tc_X1_sizeAt tm_RX6_50 ti_X1_sizeAt ts_X1_sizeAt tn_RX1 td_X1_sizeAt rfl rfl ⟨Nat.le_of_ble_eq_true rfl, Nat.le_of_ble_eq_true rfl⟩ rfl hl.1 rfl (Nat.le_of_ble_eq_true rfl) ⟨Nat.zero_le _, Nat.zero_le _⟩ dX6_objectsOf_29 (fun H locs hP11 hm => ?_)
    refine lv_iload_n hx hb dX6_objectsOf_32 rfl (lv_at hl 2 rfl) ?_
    refine lv_icmp_ne (tgt := 39) hx hb dX6_objectsOf_33 (by decide) (fun hc12 => ?_) (fun hc12 => ?_)
    · have hf := xif_f hc12 hf
      obtain ⟨v13, ev13, hf⟩ := xlet_x hf
      refine lv_iinc (v := v13) (lv' := [(4, .int v13), (0, .ref (b + 986)), (1, .ref (b + o1)), (2, .int x2), (3, .int x3)]) hx hb dX6_objectsOf_39 hl (k := 4) rfl (by rw [ev13]; rfl) (by decide) rfl (fun ls hl => ?_)
      refine lv_goto (tgt := 5) hx hb dX6_objectsOf_42 (by decide) ?_
      exact ih x3 v13 H locs ls hf hm (lv_sub hl [1, 2, 3, 4, 0] rfl)
    have hf := xif_t hc12 hf
    obtain ⟨v14, ev14, hf⟩ := xlet_x hf
    refine lv_iinc (v := v14) (lv' := [(3, .int v14), (0, .ref (b + 986)), (1, .ref (b + o1)), (2, .int x2), (4, .int x4)]) hx hb dX6_objectsOf_36 hl (k := 3) rfl (by rw [ev14]; rfl) (by decide) rfl (fun ls hl => ?_)
    obtain ⟨v15, ev15, hf⟩ := xlet_x hf
    refine lv_iinc (v := v15) (lv' := [(4, .int v15), (3, .int v14), (0, .ref (b + 986)), (1, .ref (b + o1)), (2, .int x2)]) hx hb dX6_objectsOf_39 hl (k := 4) rfl (by rw [ev15]; rfl) (by decide) rfl (fun ls hl => ?_)
    refine lv_goto (tgt := 5) hx hb dX6_objectsOf_42 (by decide) ?_
    exact ih v14 v15 H locs ls hf hm (lv_sub hl [2, 3, 4, 1, 0] rfl)
set_option maxHeartbeats 4000000 in
set_option maxRecDepth 20000 in
theorem c_X6_objectsOf (l : Launch) (E : xE) (b : Nat) {u1 : Nat} (L_u1 : lat u1 pHeap) (M : xm) (a2 : Int32) {r : Int32} (hf : f_X6_objectsOf u1 M a2 = some r) :
    xMet l E b NX yX6_objectsOf cX6_objectsOf 5 (some .int) (xR 3) [.ref (b + 986), .ref (b + u1), .int a2] (cX E b M) (some (.int r)) True (cX E b M) := by
  refine xMet.ofW (own := RX6) (by decide) rfl (Nat.le_of_ble_eq_true rfl) ?_
  intro p e s m below meth c H locs ls C hm hl
  have hx := C.1.1
  have hb := C.1.2.1
  have hl : lv_has ls 5 [(0, .ref (b + 986)), (1, .ref (b + u1)), (2, .int a2)] := hl
  unfold f_X6_objectsOf at hf
  refine lv_iconst (v := (0 : Int32)) hx hb dX6_objectsOf_0 (by decide) ?_
  refine lv_istore_n (lv' := [(3, .int (0 : Int32)), (0, .ref (b + 986)), (1, .ref (b + u1)), (2, .int a2)]) hx hb dX6_objectsOf_1 rfl hl (by decide) rfl (fun ls hl => ?_)
  refine lv_iconst (v := (0 : Int32)) hx hb dX6_objectsOf_2 (by decide) ?_
  refine lv_istore (lv' := [(4, .int (0 : Int32)), (3, .int (0 : Int32)), (0, .ref (b + 986)), (1, .ref (b + u1)), (2, .int a2)]) hx hb dX6_objectsOf_3 hl (by decide) rfl (fun ls hl => ?_)
  obtain ⟨v16, hq, hf⟩ := xb1_e hf
  refine j_X6_objectsOf_5 C L_u1 M a2 (fun H locs ls hm hl => ?_) xfuel (0 : Int32) (0 : Int32) H locs ls hq hm (lv_sub hl [2, 3, 4, 1, 0] rfl)
  refine lv_iload_n hx hb dX6_objectsOf_45 rfl (lv_at hl 0 rfl) ?_
  cases hf
  exact x_iret C hm trivial dX6_objectsOf_46
/-! ColouredHeap$Survey.fewestPages(LColouredHeap$Heap;)I -/
theorem dX6_fewestPages_0 : decode cX6_fewestPages 0 = .ok (.aload_n 0, 1) := by decide +kernel
theorem dX6_fewestPages_1 : decode cX6_fewestPages 1 = .ok (.aload_n 1, 1) := by decide +kernel
theorem dX6_fewestPages_2 : decode cX6_fewestPages 2 = .ok (.iconst 2, 1) := by decide +kernel
theorem dX6_fewestPages_3 : decode cX6_fewestPages 3 = .ok (.invokevirtual 77, 3) := by decide +kernel
theorem dX6_fewestPages_6 : decode cX6_fewestPages 6 = .ok (.istore_n 2, 1) := by decide +kernel
theorem dX6_fewestPages_7 : decode cX6_fewestPages 7 = .ok (.aload_n 0, 1) := by decide +kernel
theorem dX6_fewestPages_8 : decode cX6_fewestPages 8 = .ok (.aload_n 1, 1) := by decide +kernel
theorem dX6_fewestPages_9 : decode cX6_fewestPages 9 = .ok (.iconst 3, 1) := by decide +kernel
theorem dX6_fewestPages_10 : decode cX6_fewestPages 10 = .ok (.invokevirtual 77, 3) := by decide +kernel
theorem dX6_fewestPages_13 : decode cX6_fewestPages 13 = .ok (.istore_n 3, 1) := by decide +kernel
theorem dX6_fewestPages_14 : decode cX6_fewestPages 14 = .ok (.aload_n 0, 1) := by decide +kernel
theorem dX6_fewestPages_15 : decode cX6_fewestPages 15 = .ok (.aload_n 1, 1) := by decide +kernel
theorem dX6_fewestPages_16 : decode cX6_fewestPages 16 = .ok (.iconst 4, 1) := by decide +kernel
theorem dX6_fewestPages_17 : decode cX6_fewestPages 17 = .ok (.invokevirtual 77, 3) := by decide +kernel
theorem dX6_fewestPages_20 : decode cX6_fewestPages 20 = .ok (.istore 4, 2) := by decide +kernel
theorem dX6_fewestPages_22 : decode cX6_fewestPages 22 = .ok (.bipush 64, 2) := by decide +kernel
theorem dX6_fewestPages_24 : decode cX6_fewestPages 24 = .ok (.istore 5, 2) := by decide +kernel
theorem dX6_fewestPages_26 : decode cX6_fewestPages 26 = .ok (.iconst 0, 1) := by decide +kernel
theorem dX6_fewestPages_27 : decode cX6_fewestPages 27 = .ok (.istore 6, 2) := by decide +kernel
theorem dX6_fewestPages_29 : decode cX6_fewestPages 29 = .ok (.iload 6, 2) := by decide +kernel
theorem dX6_fewestPages_31 : decode cX6_fewestPages 31 = .ok (.iconst 2, 1) := by decide +kernel
theorem dX6_fewestPages_32 : decode cX6_fewestPages 32 = .ok (.imul, 1) := by decide +kernel
theorem dX6_fewestPages_33 : decode cX6_fewestPages 33 = .ok (.iload_n 3, 1) := by decide +kernel
theorem dX6_fewestPages_34 : decode cX6_fewestPages 34 = .ok (.if_icmp .gt 64, 3) := by decide +kernel
theorem dX6_fewestPages_37 : decode cX6_fewestPages 37 = .ok (.iload_n 3, 1) := by decide +kernel
theorem dX6_fewestPages_38 : decode cX6_fewestPages 38 = .ok (.iload 6, 2) := by decide +kernel
theorem dX6_fewestPages_40 : decode cX6_fewestPages 40 = .ok (.iconst 2, 1) := by decide +kernel
theorem dX6_fewestPages_41 : decode cX6_fewestPages 41 = .ok (.imul, 1) := by decide +kernel
theorem dX6_fewestPages_42 : decode cX6_fewestPages 42 = .ok (.isub, 1) := by decide +kernel
theorem dX6_fewestPages_43 : decode cX6_fewestPages 43 = .ok (.istore 7, 2) := by decide +kernel
theorem dX6_fewestPages_45 : decode cX6_fewestPages 45 = .ok (.iconst 0, 1) := by decide +kernel
theorem dX6_fewestPages_46 : decode cX6_fewestPages 46 = .ok (.iload_n 2, 1) := by decide +kernel
theorem dX6_fewestPages_47 : decode cX6_fewestPages 47 = .ok (.iload 6, 2) := by decide +kernel
theorem dX6_fewestPages_49 : decode cX6_fewestPages 49 = .ok (.isub, 1) := by decide +kernel
theorem dX6_fewestPages_50 : decode cX6_fewestPages 50 = .ok (.invokestatic 81, 3) := by decide +kernel
theorem dX6_fewestPages_53 : decode cX6_fewestPages 53 = .ok (.istore 8, 2) := by decide +kernel
theorem dX6_fewestPages_55 : decode cX6_fewestPages 55 = .ok (.iconst 0, 1) := by decide +kernel
theorem dX6_fewestPages_56 : decode cX6_fewestPages 56 = .ok (.iload 4, 2) := by decide +kernel
theorem dX6_fewestPages_58 : decode cX6_fewestPages 58 = .ok (.iload 8, 2) := by decide +kernel
theorem dX6_fewestPages_60 : decode cX6_fewestPages 60 = .ok (.iconst 1, 1) := by decide +kernel
theorem dX6_fewestPages_61 : decode cX6_fewestPages 61 = .ok (.iadd, 1) := by decide +kernel
theorem dX6_fewestPages_62 : decode cX6_fewestPages 62 = .ok (.iconst 2, 1) := by decide +kernel
theorem dX6_fewestPages_63 : decode cX6_fewestPages 63 = .ok (.idiv, 1) := by decide +kernel
theorem dX6_fewestPages_64 : decode cX6_fewestPages 64 = .ok (.iadd, 1) := by decide +kernel
theorem dX6_fewestPages_65 : decode cX6_fewestPages 65 = .ok (.iload 7, 2) := by decide +kernel
theorem dX6_fewestPages_67 : decode cX6_fewestPages 67 = .ok (.isub, 1) := by decide +kernel
theorem dX6_fewestPages_68 : decode cX6_fewestPages 68 = .ok (.invokestatic 81, 3) := by decide +kernel
theorem dX6_fewestPages_71 : decode cX6_fewestPages 71 = .ok (.istore 9, 2) := by decide +kernel
theorem dX6_fewestPages_73 : decode cX6_fewestPages 73 = .ok (.iload 5, 2) := by decide +kernel
theorem dX6_fewestPages_75 : decode cX6_fewestPages 75 = .ok (.iload 6, 2) := by decide +kernel
theorem dX6_fewestPages_77 : decode cX6_fewestPages 77 = .ok (.iload 7, 2) := by decide +kernel
theorem dX6_fewestPages_79 : decode cX6_fewestPages 79 = .ok (.iadd, 1) := by decide +kernel
theorem dX6_fewestPages_80 : decode cX6_fewestPages 80 = .ok (.iload 9, 2) := by decide +kernel
theorem dX6_fewestPages_82 : decode cX6_fewestPages 82 = .ok (.iconst 1, 1) := by decide +kernel
theorem dX6_fewestPages_83 : decode cX6_fewestPages 83 = .ok (.iadd, 1) := by decide +kernel
theorem dX6_fewestPages_84 : decode cX6_fewestPages 84 = .ok (.iconst 2, 1) := by decide +kernel
theorem dX6_fewestPages_85 : decode cX6_fewestPages 85 = .ok (.idiv, 1) := by decide +kernel
theorem dX6_fewestPages_86 : decode cX6_fewestPages 86 = .ok (.iadd, 1) := by decide +kernel
theorem dX6_fewestPages_87 : decode cX6_fewestPages 87 = .ok (.invokestatic 86, 3) := by decide +kernel
theorem dX6_fewestPages_90 : decode cX6_fewestPages 90 = .ok (.istore 5, 2) := by decide +kernel
theorem dX6_fewestPages_92 : decode cX6_fewestPages 92 = .ok (.iinc 6 1, 3) := by decide +kernel
theorem dX6_fewestPages_95 : decode cX6_fewestPages 95 = .ok (.goto (-66), 3) := by decide +kernel
theorem dX6_fewestPages_98 : decode cX6_fewestPages 98 = .ok (.iload 5, 2) := by decide +kernel
theorem dX6_fewestPages_100 : decode cX6_fewestPages 100 = .ok (.aload_n 0, 1) := by decide +kernel
theorem dX6_fewestPages_101 : decode cX6_fewestPages 101 = .ok (.getfield 31, 3) := by decide +kernel
theorem dX6_fewestPages_104 : decode cX6_fewestPages 104 = .ok (.bipush 8, 2) := by decide +kernel
theorem dX6_fewestPages_106 : decode cX6_fewestPages 106 = .ok (.iadd, 1) := by decide +kernel
theorem dX6_fewestPages_107 : decode cX6_fewestPages 107 = .ok (.iconst 1, 1) := by decide +kernel
theorem dX6_fewestPages_108 : decode cX6_fewestPages 108 = .ok (.isub, 1) := by decide +kernel
theorem dX6_fewestPages_109 : decode cX6_fewestPages 109 = .ok (.bipush 8, 2) := by decide +kernel
theorem dX6_fewestPages_111 : decode cX6_fewestPages 111 = .ok (.idiv, 1) := by decide +kernel
theorem dX6_fewestPages_112 : decode cX6_fewestPages 112 = .ok (.invokestatic 81, 3) := by decide +kernel
theorem dX6_fewestPages_115 : decode cX6_fewestPages 115 = .ok (.ireturn, 1) := by decide +kernel
def g_X6_fewestPages_29 (M : xm) (x10 : Int32) (x11 : Int32) (x12 : Int32) : Nat → Int32 → Int32 → Option ((Int32))
  | 0, _, _ => none
  | n + 1, x13, x14 => (if x11 < (x14 * (2 : Int32)) then some (x13) else xlet (x11 - (x14 * (2 : Int32))) (fun v17 => xlet (xmax (0 : Int32) (x10 - x14)) (fun v18 => xlet (xmax (0 : Int32) ((x12 + ((v18 + (1 : Int32)) / (2 : Int32))) - v17)) (fun v19 => xlet (xmin x13 ((x14 + v17) + ((v19 + (1 : Int32)) / (2 : Int32)))) (fun v20 => xlet (x14 + (1 : Int32)) (fun v21 => g_X6_fewestPages_29 M x10 x11 x12 n v20 v21))))))
def f_X6_fewestPages (u1 : Nat) (M : xm) : Option (Int32) := xb1 (f_X6_objectsOf u1 M (2 : Int32)) (fun v2 => xb1 (f_X6_objectsOf u1 M (3 : Int32)) (fun v5 => xb1 (f_X6_objectsOf u1 M (4 : Int32)) (fun v8 => xb1 (g_X6_fewestPages_29 M v2 v5 v8 xfuel (64 : Int32) (0 : Int32)) (fun v22 => some (xmax v22 ((((M 986 4) + (8 : Int32)) - (1 : Int32)) / (8 : Int32)))))))
set_option maxHeartbeats 4000000 in
set_option maxRecDepth 20000 in
theorem j_X6_fewestPages_29 {p : Program} {l : Launch} {e : Env} {s : State} {m : MethodId} {args : Array Value} {below : List Frame} {meth : Method} {c : Code} {Q : State → Prop} {E : xE} {b : Nat} (C : xC p s m args meth c cX6_fewestPages 10 RX6 (some .int) E b) (M : xm) (x10 : Int32) (x11 : Int32) (x12 : Int32) {y15 : Int32}
    (kx0 : ∀ (H : Heap) (locs : List Loc) (ls : Array Slot), xM E b NX (cX E b M) s.heap H locs → lv_has ls 10 [(0, .ref (b + 986)), (5, .int y15)] → W p l e (xR 4) s m args below meth c H locs 0 0 Q (F0 m 98 ls [])) :
    ∀ (n : Nat) (x13 : Int32) (x14 : Int32) (H : Heap) (locs : List Loc) (ls : Array Slot), g_X6_fewestPages_29 M x10 x11 x12 n x13 x14 = some y15 → xM E b NX (cX E b M) s.heap H locs → lv_has ls 10 [(0, .ref (b + 986)), (2, .int x10), (3, .int x11), (4, .int x12), (5, .int x13), (6, .int x14)] → W p l e (xR 4) s m args below meth c H locs 0 0 Q (F0 m 29 ls []) := by
  have hx := C.1.1
  have hb := C.1.2.1
  intro n
  induction n with
  | zero =>
    intro x13 x14 H locs ls hf hm hl
    rw [g_X6_fewestPages_29] at hf
    cases hf
  | succ n ih =>
    intro x13 x14 H locs ls hf hm hl
    rw [g_X6_fewestPages_29] at hf
    refine lv_iload hx hb dX6_fewestPages_29 (lv_at hl 5 rfl) ?_
    refine lv_iconst (v := (2 : Int32)) hx hb dX6_fewestPages_31 (by decide) ?_
    refine lv_imul hx hb dX6_fewestPages_32 ?_
    refine lv_iload_n hx hb dX6_fewestPages_33 rfl (lv_at hl 2 rfl) ?_
    refine lv_icmp_gt (tgt := 98) hx hb dX6_fewestPages_34 (by decide) (fun hc16 => ?_) (fun hc16 => ?_)
    · have hf := xif_t hc16 hf
      cases hf
      exact kx0 H locs ls hm (lv_sub hl [0, 4] rfl)
    have hf := xif_f hc16 hf
    refine lv_iload_n hx hb dX6_fewestPages_37 rfl (lv_at hl 2 rfl) ?_
    refine lv_iload hx hb dX6_fewestPages_38 (lv_at hl 5 rfl) ?_
    refine lv_iconst (v := (2 : Int32)) hx hb dX6_fewestPages_40 (by decide) ?_
    refine lv_imul hx hb dX6_fewestPages_41 ?_
    refine lv_isub hx hb dX6_fewestPages_42 ?_
    refine lv_topi (fun v17 ev17 => ?_)
    have hf := xlet_e ev17 hf
    refine lv_istore (lv' := [(7, .int v17), (0, .ref (b + 986)), (2, .int x10), (3, .int x11), (4, .int x12), (5, .int x13), (6, .int x14)]) hx hb dX6_fewestPages_43 hl (by decide) rfl (fun ls hl => ?_)
    refine lv_iconst (v := (0 : Int32)) hx hb dX6_fewestPages_45 (by decide) ?_
    refine lv_iload_n hx hb dX6_fewestPages_46 rfl (lv_at hl 2 rfl) ?_
    refine lv_iload hx hb dX6_fewestPages_47 (lv_at hl 6 rfl) ?_
    refine lv_isub hx hb dX6_fewestPages_49 ?_
    refine va_mmax hx hb (C.1.2.2.1.trans hl.1.symm) C.1.2.2.2.1 (C.1.2.2.2.2 _ tm_RX6_81) (C.1.2.2.2.2 _ tz_Math_maxI) (C.1.2.2.2.2 _ tn_Math) (C.1.2.2.2.2 _ tc_Math_maxI) (Nat.le_of_ble_eq_true rfl) (Nat.le_of_ble_eq_true rfl) (Nat.zero_le _) (Nat.zero_le _) dX6_fewestPages_50 ?_
    refine lv_topi (fun v18 ev18 => ?_)
    have hf := xlet_e ev18 hf
    refine lv_istore (lv' := [(8, .int v18), (7, .int v17), (0, .ref (b + 986)), (2, .int x10), (3, .int x11), (4, .int x12), (5, .int x13), (6, .int x14)]) hx hb dX6_fewestPages_53 hl (by decide) rfl (fun ls hl => ?_)
    refine lv_iconst (v := (0 : Int32)) hx hb dX6_fewestPages_55 (by decide) ?_
    refine lv_iload hx hb dX6_fewestPages_56 (lv_at hl 5 rfl) ?_
    refine lv_iload hx hb dX6_fewestPages_58 (lv_at hl 0 rfl) ?_
    refine lv_iconst (v := (1 : Int32)) hx hb dX6_fewestPages_60 (by decide) ?_
    refine lv_iadd hx hb dX6_fewestPages_61 ?_
    refine lv_iconst (v := (2 : Int32)) hx hb dX6_fewestPages_62 (by decide) ?_
    refine lv_idiv hx hb dX6_fewestPages_63 (by decide) ?_
    refine lv_iadd hx hb dX6_fewestPages_64 ?_
    refine lv_iload hx hb dX6_fewestPages_65 (lv_at hl 1 rfl) ?_
    refine lv_isub hx hb dX6_fewestPages_67 ?_
    refine va_mmax hx hb (C.1.2.2.1.trans hl.1.symm) C.1.2.2.2.1 (C.1.2.2.2.2 _ tm_RX6_81) (C.1.2.2.2.2 _ tz_Math_maxI) (C.1.2.2.2.2 _ tn_Math) (C.1.2.2.2.2 _ tc_Math_maxI) (Nat.le_of_ble_eq_true rfl) (Nat.le_of_ble_eq_true rfl) (Nat.zero_le _) (Nat.zero_le _) dX6_fewestPages_68 ?_
    refine lv_topi (fun v19 ev19 => ?_)
    have hf := xlet_e ev19 hf
    refine lv_istore (lv' := [(9, .int v19), (8, .int v18), (7, .int v17), (0, .ref (b + 986)), (2, .int x10), (3, .int x11), (4, .int x12), (5, .int x13), (6, .int x14)]) hx hb dX6_fewestPages_71 hl (by decide) rfl (fun ls hl => ?_)
    refine lv_iload hx hb dX6_fewestPages_73 (lv_at hl 7 rfl) ?_
    refine lv_iload hx hb dX6_fewestPages_75 (lv_at hl 8 rfl) ?_
    refine lv_iload hx hb dX6_fewestPages_77 (lv_at hl 2 rfl) ?_
    refine lv_iadd hx hb dX6_fewestPages_79 ?_
    refine lv_iload hx hb dX6_fewestPages_80 (lv_at hl 0 rfl) ?_
    refine lv_iconst (v := (1 : Int32)) hx hb dX6_fewestPages_82 (by decide) ?_
    refine lv_iadd hx hb dX6_fewestPages_83 ?_
    refine lv_iconst (v := (2 : Int32)) hx hb dX6_fewestPages_84 (by decide) ?_
    refine lv_idiv hx hb dX6_fewestPages_85 (by decide) ?_
    refine lv_iadd hx hb dX6_fewestPages_86 ?_
    refine va_mmin hx hb (C.1.2.2.1.trans hl.1.symm) C.1.2.2.2.1 (C.1.2.2.2.2 _ tm_RX6_86) (C.1.2.2.2.2 _ tz_Math_minI) (C.1.2.2.2.2 _ tn_Math) (C.1.2.2.2.2 _ tc_Math_minI) (Nat.le_of_ble_eq_true rfl) (Nat.le_of_ble_eq_true rfl) (Nat.zero_le _) (Nat.zero_le _) dX6_fewestPages_87 ?_
    refine lv_topi (fun v20 ev20 => ?_)
    have hf := xlet_e ev20 hf
    refine lv_istore (lv' := [(5, .int v20), (9, .int v19), (8, .int v18), (7, .int v17), (0, .ref (b + 986)), (2, .int x10), (3, .int x11), (4, .int x12), (6, .int x14)]) hx hb dX6_fewestPages_90 hl (by decide) rfl (fun ls hl => ?_)
    obtain ⟨v21, ev21, hf⟩ := xlet_x hf
    refine lv_iinc (v := v21) (lv' := [(6, .int v21), (5, .int v20), (9, .int v19), (8, .int v18), (7, .int v17), (0, .ref (b + 986)), (2, .int x10), (3, .int x11), (4, .int x12)]) hx hb dX6_fewestPages_92 hl (k := 8) rfl (by rw [ev21]; rfl) (by decide) rfl (fun ls hl => ?_)
    refine lv_goto (tgt := 29) hx hb dX6_fewestPages_95 (by decide) ?_
    exact ih v20 v21 H locs ls hf hm (lv_sub hl [5, 6, 7, 8, 1, 0] rfl)
set_option maxHeartbeats 4000000 in
set_option maxRecDepth 20000 in
theorem c_X6_fewestPages (l : Launch) (E : xE) (b : Nat) {u1 : Nat} (L_u1 : lat u1 pHeap) (M : xm) {r : Int32} (hf : f_X6_fewestPages u1 M = some r) :
    xMet l E b NX yX6_fewestPages cX6_fewestPages 10 (some .int) (xR 4) [.ref (b + 986), .ref (b + u1)] (cX E b M) (some (.int r)) True (cX E b M) := by
  refine xMet.ofW (own := RX6) (by decide) rfl (Nat.le_of_ble_eq_true rfl) ?_
  intro p e s m below meth c H locs ls C hm hl
  have hx := C.1.1
  have hb := C.1.2.1
  have hl : lv_has ls 10 [(0, .ref (b + 986)), (1, .ref (b + u1))] := hl
  unfold f_X6_fewestPages at hf
  refine lv_aload_n hx hb dX6_fewestPages_0 rfl (lv_at hl 0 rfl) ?_
  refine lv_aload_n hx hb dX6_fewestPages_1 rfl (lv_at hl 1 rfl) ?_
  refine lv_iconst (v := (2 : Int32)) hx hb dX6_fewestPages_2 (by decide) ?_
  obtain ⟨v2, hq1, hf⟩ := xb1_e hf
  refine x_callVi (As := [.ref (b + u1), .int (2 : Int32)]) (rest := []) C hm (c_X6_objectsOf l E b L_u1 M (2 : Int32) hq1) rfl (cx_Survey (LX_survey 0 _ rfl)) tc_X6_objectsOf tm_RX6_77 ti_X6_objectsOf ts_X6_objectsOf tn_RX6 td_X6_objectsOf rfl rfl ⟨Nat.le_of_ble_eq_true rfl, Nat.le_of_ble_eq_true rfl⟩ rfl hl.1 rfl (Nat.le_of_ble_eq_true rfl) ⟨Nat.zero_le _, Nat.zero_le _⟩ dX6_fewestPages_3 (fun H locs hP3 hm => ?_)
  refine lv_istore_n (lv' := [(2, .int v2), (0, .ref (b + 986)), (1, .ref (b + u1))]) hx hb dX6_fewestPages_6 rfl hl (by decide) rfl (fun ls hl => ?_)
  refine lv_aload_n hx hb dX6_fewestPages_7 rfl (lv_at hl 1 rfl) ?_
  refine lv_aload_n hx hb dX6_fewestPages_8 rfl (lv_at hl 2 rfl) ?_
  refine lv_iconst (v := (3 : Int32)) hx hb dX6_fewestPages_9 (by decide) ?_
  obtain ⟨v5, hq4, hf⟩ := xb1_e hf
  refine x_callVi (As := [.ref (b + u1), .int (3 : Int32)]) (rest := []) C hm (c_X6_objectsOf l E b L_u1 M (3 : Int32) hq4) rfl (cx_Survey (LX_survey 0 _ rfl)) tc_X6_objectsOf tm_RX6_77 ti_X6_objectsOf ts_X6_objectsOf tn_RX6 td_X6_objectsOf rfl rfl ⟨Nat.le_of_ble_eq_true rfl, Nat.le_of_ble_eq_true rfl⟩ rfl hl.1 rfl (Nat.le_of_ble_eq_true rfl) ⟨Nat.zero_le _, Nat.zero_le _⟩ dX6_fewestPages_10 (fun H locs hP6 hm => ?_)
  refine lv_istore_n (lv' := [(3, .int v5), (2, .int v2), (0, .ref (b + 986)), (1, .ref (b + u1))]) hx hb dX6_fewestPages_13 rfl hl (by decide) rfl (fun ls hl => ?_)
  refine lv_aload_n hx hb dX6_fewestPages_14 rfl (lv_at hl 2 rfl) ?_
  refine lv_aload_n hx hb dX6_fewestPages_15 rfl (lv_at hl 3 rfl) ?_
  refine lv_iconst (v := (4 : Int32)) hx hb dX6_fewestPages_16 (by decide) ?_
  obtain ⟨v8, hq7, hf⟩ := xb1_e hf
  refine x_callVi (As := [.ref (b + u1), .int (4 : Int32)]) (rest := []) C hm (c_X6_objectsOf l E b L_u1 M (4 : Int32) hq7) rfl (cx_Survey (LX_survey 0 _ rfl)) tc_X6_objectsOf tm_RX6_77 ti_X6_objectsOf ts_X6_objectsOf tn_RX6 td_X6_objectsOf rfl rfl ⟨Nat.le_of_ble_eq_true rfl, Nat.le_of_ble_eq_true rfl⟩ rfl hl.1 rfl (Nat.le_of_ble_eq_true rfl) ⟨Nat.zero_le _, Nat.zero_le _⟩ dX6_fewestPages_17 (fun H locs hP9 hm => ?_)
  refine lv_istore (lv' := [(4, .int v8), (3, .int v5), (2, .int v2), (0, .ref (b + 986)), (1, .ref (b + u1))]) hx hb dX6_fewestPages_20 hl (by decide) rfl (fun ls hl => ?_)
  refine lv_bipush (v := (64 : Int32)) hx hb dX6_fewestPages_22 (by decide) ?_
  refine lv_istore (lv' := [(5, .int (64 : Int32)), (4, .int v8), (3, .int v5), (2, .int v2), (0, .ref (b + 986)), (1, .ref (b + u1))]) hx hb dX6_fewestPages_24 hl (by decide) rfl (fun ls hl => ?_)
  refine lv_iconst (v := (0 : Int32)) hx hb dX6_fewestPages_26 (by decide) ?_
  refine lv_istore (lv' := [(6, .int (0 : Int32)), (5, .int (64 : Int32)), (4, .int v8), (3, .int v5), (2, .int v2), (0, .ref (b + 986)), (1, .ref (b + u1))]) hx hb dX6_fewestPages_27 hl (by decide) rfl (fun ls hl => ?_)
  obtain ⟨v22, hq, hf⟩ := xb1_e hf
  refine j_X6_fewestPages_29 C M v2 v5 v8 (fun H locs ls hm hl => ?_) xfuel (64 : Int32) (0 : Int32) H locs ls hq hm (lv_sub hl [5, 4, 3, 2, 1, 0] rfl)
  refine lv_iload hx hb dX6_fewestPages_98 (lv_at hl 1 rfl) ?_
  refine lv_aload_n hx hb dX6_fewestPages_100 rfl (lv_at hl 0 rfl) ?_
  refine x_get C hm inX6 rfl 4 (by decide) tf_RX6_31 (cx_Survey (LX_survey 0 _ rfl)) rfl dX6_fewestPages_101 ?_
  refine lv_bipush (v := (8 : Int32)) hx hb dX6_fewestPages_104 (by decide) ?_
  refine lv_iadd hx hb dX6_fewestPages_106 ?_
  refine lv_iconst (v := (1 : Int32)) hx hb dX6_fewestPages_107 (by decide) ?_
  refine lv_isub hx hb dX6_fewestPages_108 ?_
  refine lv_bipush (v := (8 : Int32)) hx hb dX6_fewestPages_109 (by decide) ?_
  refine lv_idiv hx hb dX6_fewestPages_111 (by decide) ?_
  refine va_mmax hx hb (C.1.2.2.1.trans hl.1.symm) C.1.2.2.2.1 (C.1.2.2.2.2 _ tm_RX6_81) (C.1.2.2.2.2 _ tz_Math_maxI) (C.1.2.2.2.2 _ tn_Math) (C.1.2.2.2.2 _ tc_Math_maxI) (Nat.le_of_ble_eq_true rfl) (Nat.le_of_ble_eq_true rfl) (Nat.zero_le _) (Nat.zero_le _) dX6_fewestPages_112 ?_
  cases hf
  exact x_iret C hm trivial dX6_fewestPages_115
/-! ColouredHeap$Survey.follow(LColouredHeap$Heap;III)V -/
theorem dX6_follow_0 : decode cX6_follow 0 = .ok (.iload_n 2, 1) := by decide +kernel
theorem dX6_follow_1 : decode cX6_follow 1 = .ok (.ifCond .ge 4, 3) := by decide +kernel
theorem dX6_follow_4 : decode cX6_follow 4 = .ok (.return_, 1) := by decide +kernel
theorem dX6_follow_5 : decode cX6_follow 5 = .ok (.iload_n 2, 1) := by decide +kernel
theorem dX6_follow_6 : decode cX6_follow 6 = .ok (.bipush 64, 2) := by decide +kernel
theorem dX6_follow_8 : decode cX6_follow 8 = .ok (.idiv, 1) := by decide +kernel
theorem dX6_follow_9 : decode cX6_follow 9 = .ok (.aload_n 1, 1) := by decide +kernel
theorem dX6_follow_10 : decode cX6_follow 10 = .ok (.getfield 58, 3) := by decide +kernel
theorem dX6_follow_13 : decode cX6_follow 13 = .ok (.if_icmp .eq 13, 3) := by decide +kernel
theorem dX6_follow_16 : decode cX6_follow 16 = .ok (.aload_n 0, 1) := by decide +kernel
theorem dX6_follow_17 : decode cX6_follow 17 = .ok (.dup, 1) := by decide +kernel
theorem dX6_follow_18 : decode cX6_follow 18 = .ok (.getfield 34, 3) := by decide +kernel
theorem dX6_follow_21 : decode cX6_follow 21 = .ok (.iconst 1, 1) := by decide +kernel
theorem dX6_follow_22 : decode cX6_follow 22 = .ok (.iadd, 1) := by decide +kernel
theorem dX6_follow_23 : decode cX6_follow 23 = .ok (.putfield 34, 3) := by decide +kernel
theorem dX6_follow_26 : decode cX6_follow 26 = .ok (.aload_n 1, 1) := by decide +kernel
theorem dX6_follow_27 : decode cX6_follow 27 = .ok (.iload_n 2, 1) := by decide +kernel
theorem dX6_follow_28 : decode cX6_follow 28 = .ok (.invokevirtual 61, 3) := by decide +kernel
theorem dX6_follow_31 : decode cX6_follow 31 = .ok (.istore 5, 2) := by decide +kernel
theorem dX6_follow_33 : decode cX6_follow 33 = .ok (.aload_n 1, 1) := by decide +kernel
theorem dX6_follow_34 : decode cX6_follow 34 = .ok (.iload 5, 2) := by decide +kernel
theorem dX6_follow_36 : decode cX6_follow 36 = .ok (.invokevirtual 50, 3) := by decide +kernel
theorem dX6_follow_39 : decode cX6_follow 39 = .ok (.istore 6, 2) := by decide +kernel
theorem dX6_follow_41 : decode cX6_follow 41 = .ok (.iload 6, 2) := by decide +kernel
theorem dX6_follow_43 : decode cX6_follow 43 = .ok (.ifCond .eq 24, 3) := by decide +kernel
theorem dX6_follow_46 : decode cX6_follow 46 = .ok (.iload 5, 2) := by decide +kernel
theorem dX6_follow_48 : decode cX6_follow 48 = .ok (.invokestatic 64, 3) := by decide +kernel
theorem dX6_follow_51 : decode cX6_follow 51 = .ok (.ifCond .eq 16, 3) := by decide +kernel
theorem dX6_follow_54 : decode cX6_follow 54 = .ok (.aload_n 1, 1) := by decide +kernel
theorem dX6_follow_55 : decode cX6_follow 55 = .ok (.getfield 68, 3) := by decide +kernel
theorem dX6_follow_58 : decode cX6_follow 58 = .ok (.iload 5, 2) := by decide +kernel
theorem dX6_follow_60 : decode cX6_follow 60 = .ok (.bipush 8, 2) := by decide +kernel
theorem dX6_follow_62 : decode cX6_follow 62 = .ok (.idiv, 1) := by decide +kernel
theorem dX6_follow_63 : decode cX6_follow 63 = .ok (.iaload, 1) := by decide +kernel
theorem dX6_follow_64 : decode cX6_follow 64 = .ok (.ifCond .ne 9, 3) := by decide +kernel
theorem dX6_follow_67 : decode cX6_follow 67 = .ok (.aload_n 0, 1) := by decide +kernel
theorem dX6_follow_68 : decode cX6_follow 68 = .ok (.iconst 0, 1) := by decide +kernel
theorem dX6_follow_69 : decode cX6_follow 69 = .ok (.putfield 37, 3) := by decide +kernel
theorem dX6_follow_72 : decode cX6_follow 72 = .ok (.return_, 1) := by decide +kernel
theorem dX6_follow_73 : decode cX6_follow 73 = .ok (.aload_n 0, 1) := by decide +kernel
theorem dX6_follow_74 : decode cX6_follow 74 = .ok (.getfield 9, 3) := by decide +kernel
theorem dX6_follow_77 : decode cX6_follow 77 = .ok (.iload 5, 2) := by decide +kernel
theorem dX6_follow_79 : decode cX6_follow 79 = .ok (.iaload, 1) := by decide +kernel
theorem dX6_follow_80 : decode cX6_follow 80 = .ok (.iconst (-1), 1) := by decide +kernel
theorem dX6_follow_81 : decode cX6_follow 81 = .ok (.if_icmp .ne 59, 3) := by decide +kernel
theorem dX6_follow_84 : decode cX6_follow 84 = .ok (.iload 5, 2) := by decide +kernel
theorem dX6_follow_86 : decode cX6_follow 86 = .ok (.iload 4, 2) := by decide +kernel
theorem dX6_follow_88 : decode cX6_follow 88 = .ok (.if_icmp .eq 52, 3) := by decide +kernel
theorem dX6_follow_91 : decode cX6_follow 91 = .ok (.aload_n 0, 1) := by decide +kernel
theorem dX6_follow_92 : decode cX6_follow 92 = .ok (.getfield 27, 3) := by decide +kernel
theorem dX6_follow_95 : decode cX6_follow 95 = .ok (.bipush 64, 2) := by decide +kernel
theorem dX6_follow_97 : decode cX6_follow 97 = .ok (.if_icmp .ge 43, 3) := by decide +kernel
theorem dX6_follow_100 : decode cX6_follow 100 = .ok (.aload_n 0, 1) := by decide +kernel
theorem dX6_follow_101 : decode cX6_follow 101 = .ok (.getfield 9, 3) := by decide +kernel
theorem dX6_follow_104 : decode cX6_follow 104 = .ok (.iload 5, 2) := by decide +kernel
theorem dX6_follow_106 : decode cX6_follow 106 = .ok (.iload_n 3, 1) := by decide +kernel
theorem dX6_follow_107 : decode cX6_follow 107 = .ok (.iastore, 1) := by decide +kernel
theorem dX6_follow_108 : decode cX6_follow 108 = .ok (.aload_n 0, 1) := by decide +kernel
theorem dX6_follow_109 : decode cX6_follow 109 = .ok (.getfield 15, 3) := by decide +kernel
theorem dX6_follow_112 : decode cX6_follow 112 = .ok (.aload_n 0, 1) := by decide +kernel
theorem dX6_follow_113 : decode cX6_follow 113 = .ok (.getfield 27, 3) := by decide +kernel
theorem dX6_follow_116 : decode cX6_follow 116 = .ok (.iload 5, 2) := by decide +kernel
theorem dX6_follow_118 : decode cX6_follow 118 = .ok (.iastore, 1) := by decide +kernel
theorem dX6_follow_119 : decode cX6_follow 119 = .ok (.aload_n 0, 1) := by decide +kernel
theorem dX6_follow_120 : decode cX6_follow 120 = .ok (.dup, 1) := by decide +kernel
theorem dX6_follow_121 : decode cX6_follow 121 = .ok (.getfield 27, 3) := by decide +kernel
theorem dX6_follow_124 : decode cX6_follow 124 = .ok (.iconst 1, 1) := by decide +kernel
theorem dX6_follow_125 : decode cX6_follow 125 = .ok (.iadd, 1) := by decide +kernel
theorem dX6_follow_126 : decode cX6_follow 126 = .ok (.putfield 27, 3) := by decide +kernel
theorem dX6_follow_129 : decode cX6_follow 129 = .ok (.aload_n 0, 1) := by decide +kernel
theorem dX6_follow_130 : decode cX6_follow 130 = .ok (.dup, 1) := by decide +kernel
theorem dX6_follow_131 : decode cX6_follow 131 = .ok (.getfield 31, 3) := by decide +kernel
theorem dX6_follow_134 : decode cX6_follow 134 = .ok (.iload 6, 2) := by decide +kernel
theorem dX6_follow_136 : decode cX6_follow 136 = .ok (.iadd, 1) := by decide +kernel
theorem dX6_follow_137 : decode cX6_follow 137 = .ok (.putfield 31, 3) := by decide +kernel
theorem dX6_follow_140 : decode cX6_follow 140 = .ok (.return_, 1) := by decide +kernel
def f_X6_follow (u1 : Nat) (M : xm) (a2 : Int32) (a3 : Int32) (a4 : Int32) : Option (xm) := (if 0 ≤ a2 then xlet (fun (M2 : xm) => xb1 (f_X1_leadsTo u1 M2 a2) (fun v5 => xb1 (f_X1_sizeAt u1 M2 v5) (fun v8 => (if v8 = 0 then xlet (up2 M2 986 6 (0 : Int32)) (fun M11 => some M11) else (if (f_X9_isAddress v5) = 0 then xlet (up2 M2 986 6 (0 : Int32)) (fun M14 => some M14) else if xin (v5 / (8 : Int32)) 8 = true then (if (M2 (u1 + 7) (Int32.toNatClampNeg (v5 / (8 : Int32)))) = 0 then xlet (up2 M2 986 6 (0 : Int32)) (fun M26 => some M26) else if xin v5 64 = true then (if (M2 (986 + 1) (Int32.toNatClampNeg v5)) = (-1 : Int32) then (if v5 = a4 then some M2 else (if (64 : Int32) ≤ (M2 986 3) then some M2 else xlet (up2 M2 (986 + 1) (Int32.toNatClampNeg v5) a3) (fun M21 => if xin (M21 986 3) 64 = true then xlet (up2 M21 (986 + 2) (Int32.toNatClampNeg (M21 986 3)) v5) (fun M23 => xlet (up2 M23 986 3 ((M23 986 3) + (1 : Int32))) (fun M24 => xlet (up2 M24 986 4 ((M24 986 4) + v8)) (fun M25 => some M25))) else none))) else some M2) else none) else none))))) (fun k3 => (if (a2 / (64 : Int32)) = (M u1 15) then (k3 M) else xlet (up2 M 986 5 ((M 986 5) + (1 : Int32))) (fun M28 => (k3 M28)))) else some M)
set_option maxHeartbeats 4000000 in
set_option maxRecDepth 20000 in
theorem c_X6_follow (l : Launch) (E : xE) (b : Nat) {u1 : Nat} (L_u1 : lat u1 pHeap) (M : xm) (a2 : Int32) (a3 : Int32) (a4 : Int32) {M' : xm} (hf : f_X6_follow u1 M a2 a3 a4 = some M') :
    xMet l E b NX yX6_follow cX6_follow 7 none (xR 3) [.ref (b + 986), .ref (b + u1), .int a2, .int a3, .int a4] (cX E b M) none True (cX E b M') := by
  refine xMet.ofW (own := RX6) (by decide) rfl (Nat.le_of_ble_eq_true rfl) ?_
  intro p e s m below meth c H locs ls C hm hl
  have hx := C.1.1
  have hb := C.1.2.1
  have hl : lv_has ls 7 [(0, .ref (b + 986)), (1, .ref (b + u1)), (2, .int a2), (3, .int a3), (4, .int a4)] := hl
  unfold f_X6_follow at hf
  refine lv_iload_n hx hb dX6_follow_0 rfl (lv_at hl 2 rfl) ?_
  refine lv_if_ge (tgt := 5) hx hb dX6_follow_1 (by decide) (fun hc1 => ?_) (fun hc1 => ?_)
  rotate_left
  · have hf := xif_f hc1 hf
    cases hf
    exact x_vret C hm trivial dX6_follow_4
  have hf := xif_t hc1 hf
  refine lv_iload_n hx hb dX6_follow_5 rfl (lv_at hl 2 rfl) ?_
  refine lv_bipush (v := (64 : Int32)) hx hb dX6_follow_6 (by decide) ?_
  refine lv_idiv hx hb dX6_follow_8 (by decide) ?_
  refine lv_aload_n hx hb dX6_follow_9 rfl (lv_at hl 1 rfl) ?_
  refine x_get C hm inX1 rfl 15 (by decide) tf_RX6_58 (cx_Heap (L_u1 0 _ rfl)) rfl dX6_follow_10 ?_
  obtain ⟨k3, ek3, hf⟩ := xlet_x hf
  have jk3 : ∀ (M2 : xm) (H : Heap) (locs : List Loc) (ls : Array Slot), k3 M2 = some M' → xM E b NX (cX E b M2) s.heap H locs → lv_has ls 7 [(0, .ref (b + 986)), (1, .ref (b + u1)), (2, .int a2), (3, .int a3), (4, .int a4)] → W p l e (xR 3) s m ([.ref (b + 986), .ref (b + u1), .int a2, .int a3, .int a4] : List Value).toArray below meth c H locs 0 0 (MQ below (xQ E b NX none True (cX E b M')) ([.ref (b + 986), .ref (b + u1), .int a2, .int a3, .int a4] : List Value).toArray s 0 0 (xA b NX)) (F0 m 26 ls []) := by
    intro M2 H locs ls hf hm hl
    have hf := xap1 ek3 hf
    refine lv_aload_n hx hb dX6_follow_26 rfl (lv_at hl 1 rfl) ?_
    refine lv_iload_n hx hb dX6_follow_27 rfl (lv_at hl 2 rfl) ?_
    obtain ⟨v5, hq4, hf⟩ := xb1_e hf
    refine x_callVi (As := [.int a2]) (rest := []) C hm (c_X1_leadsTo l E b L_u1 M2 a2 hq4) rfl (cx_Heap (L_u1 0 _ rfl)) tc_X1_leadsTo tm_RX6_61 ti_X1_leadsTo ts_X1_leadsTo tn_RX1 td_X1_leadsTo rfl rfl ⟨Nat.le_of_ble_eq_true rfl, Nat.le_of_ble_eq_true rfl⟩ rfl hl.1 rfl (Nat.le_of_ble_eq_true rfl) ⟨Nat.zero_le _, Nat.zero_le _⟩ dX6_follow_28 (fun H locs hP6 hm => ?_)
    refine lv_istore (lv' := [(5, .int v5), (0, .ref (b + 986)), (1, .ref (b + u1)), (2, .int a2), (3, .int a3), (4, .int a4)]) hx hb dX6_follow_31 hl (by decide) rfl (fun ls hl => ?_)
    refine lv_aload_n hx hb dX6_follow_33 rfl (lv_at hl 2 rfl) ?_
    refine lv_iload hx hb dX6_follow_34 (lv_at hl 0 rfl) ?_
    obtain ⟨v8, hq7, hf⟩ := xb1_e hf
    refine x_callVi (As := [.int v5]) (rest := []) C hm (c_X1_sizeAt l E b L_u1 M2 v5 hq7) rfl (cx_Heap (L_u1 0 _ rfl)) tc_X1_sizeAt tm_RX6_50 ti_X1_sizeAt ts_X1_sizeAt tn_RX1 td_X1_sizeAt rfl rfl ⟨Nat.le_of_ble_eq_true rfl, Nat.le_of_ble_eq_true rfl⟩ rfl hl.1 rfl (Nat.le_of_ble_eq_true rfl) ⟨Nat.zero_le _, Nat.zero_le _⟩ dX6_follow_36 (fun H locs hP9 hm => ?_)
    refine lv_istore (lv' := [(6, .int v8), (5, .int v5), (0, .ref (b + 986)), (1, .ref (b + u1)), (2, .int a2), (3, .int a3), (4, .int a4)]) hx hb dX6_follow_39 hl (by decide) rfl (fun ls hl => ?_)
    refine lv_iload hx hb dX6_follow_41 (lv_at hl 0 rfl) ?_
    refine lv_if_eq (tgt := 67) hx hb dX6_follow_43 (by decide) (fun hc10 => ?_) (fun hc10 => ?_)
    · have hf := xif_t hc10 hf
      refine lv_aload_n hx hb dX6_follow_67 rfl (lv_at hl 2 rfl) ?_
      refine lv_iconst (v := (0 : Int32)) hx hb dX6_follow_68 (by decide) ?_
      obtain ⟨M11, eM11, hf⟩ := xlet_x hf
      refine x_put (cf' := cX E b M11) C hm inX6 tyX6 tyX6_ok nmX6 rfl 6 (by decide) tf_RX6_37 rfl (xbo_n (by decide)) rfl (cx_Survey (LX_survey 0 _ rfl)) (Nat.le_of_ble_eq_true rfl) (by rw [eM11]; exact cu_Survey_6 (LX_survey 0 _ rfl)) (by rw [eM11]; exact cX_o) dX6_follow_69 (fun H locs hm => ?_)
      cases hf
      exact x_vret C hm trivial dX6_follow_72
    have hf := xif_f hc10 hf
    refine lv_iload hx hb dX6_follow_46 (lv_at hl 1 rfl) ?_
    refine x_callSNi (As := [.int v5]) (rest := []) C hm (c_X9_isAddress l E b M2 v5 rfl) tc_X9_isAddress (by decide +kernel : (RX6, 64, yX9_isAddress, "ColouredHeap") ∈ xNest) tz_X9_isAddress tn_RX9 td_X9_isAddress rfl rfl ⟨Nat.le_of_ble_eq_true rfl, Nat.le_of_ble_eq_true rfl⟩ rfl hl.1 rfl (Nat.le_of_ble_eq_true rfl) ⟨Nat.zero_le _, Nat.zero_le _⟩ dX6_follow_48 (fun H locs hP12 hm => ?_)
    refine lv_if_eq (tgt := 67) hx hb dX6_follow_51 (by decide) (fun hc13 => ?_) (fun hc13 => ?_)
    · have hf := xif_t hc13 hf
      refine lv_aload_n hx hb dX6_follow_67 rfl (lv_at hl 2 rfl) ?_
      refine lv_iconst (v := (0 : Int32)) hx hb dX6_follow_68 (by decide) ?_
      obtain ⟨M14, eM14, hf⟩ := xlet_x hf
      refine x_put (cf' := cX E b M14) C hm inX6 tyX6 tyX6_ok nmX6 rfl 6 (by decide) tf_RX6_37 rfl (xbo_n (by decide)) rfl (cx_Survey (LX_survey 0 _ rfl)) (Nat.le_of_ble_eq_true rfl) (by rw [eM14]; exact cu_Survey_6 (LX_survey 0 _ rfl)) (by rw [eM14]; exact cX_o) dX6_follow_69 (fun H locs hm => ?_)
      cases hf
      exact x_vret C hm trivial dX6_follow_72
    have hf := xif_f hc13 hf
    refine lv_aload_n hx hb dX6_follow_54 rfl (lv_at hl 3 rfl) ?_
    refine x_get C hm inX1 rfl 6 (by decide) tf_RX6_68 (cx_Heap (L_u1 0 _ rfl)) rfl dX6_follow_55 ?_
    refine lv_iload hx hb dX6_follow_58 (lv_at hl 1 rfl) ?_
    refine lv_bipush (v := (8 : Int32)) hx hb dX6_follow_60 (by decide) ?_
    refine lv_idiv hx hb dX6_follow_62 (by decide) ?_
    obtain ⟨hi15, hf⟩ := xif_s hf
    refine x_iald (j := (Int32.toNatClampNeg (v5 / (8 : Int32)))) C hm (cx_I (L_u1 7 _ rfl)) hi15 dX6_follow_63 rfl ?_
    refine lv_if_ne (tgt := 73) hx hb dX6_follow_64 (by decide) (fun hc16 => ?_) (fun hc16 => ?_)
    rotate_left
    · have hf := xif_t hc16 hf
      refine lv_aload_n hx hb dX6_follow_67 rfl (lv_at hl 2 rfl) ?_
      refine lv_iconst (v := (0 : Int32)) hx hb dX6_follow_68 (by decide) ?_
      obtain ⟨M26, eM26, hf⟩ := xlet_x hf
      refine x_put (cf' := cX E b M26) C hm inX6 tyX6 tyX6_ok nmX6 rfl 6 (by decide) tf_RX6_37 rfl (xbo_n (by decide)) rfl (cx_Survey (LX_survey 0 _ rfl)) (Nat.le_of_ble_eq_true rfl) (by rw [eM26]; exact cu_Survey_6 (LX_survey 0 _ rfl)) (by rw [eM26]; exact cX_o) dX6_follow_69 (fun H locs hm => ?_)
      cases hf
      exact x_vret C hm trivial dX6_follow_72
    have hf := xif_f hc16 hf
    refine lv_aload_n hx hb dX6_follow_73 rfl (lv_at hl 2 rfl) ?_
    refine x_get C hm inX6 rfl 0 (by decide) tf_RX6_9 (cx_Survey (LX_survey 0 _ rfl)) rfl dX6_follow_74 ?_
    refine lv_iload hx hb dX6_follow_77 (lv_at hl 1 rfl) ?_
    obtain ⟨hi17, hf⟩ := xif_s hf
    refine x_iald (j := (Int32.toNatClampNeg v5)) C hm (cx_I (LX_survey 1 _ rfl)) hi17 dX6_follow_79 rfl ?_
    refine lv_iconst (v := (-1 : Int32)) hx hb dX6_follow_80 (by decide) ?_
    refine lv_icmp_ne (tgt := 140) hx hb dX6_follow_81 (by decide) (fun hc18 => ?_) (fun hc18 => ?_)
    · have hf := xif_f hc18 hf
      cases hf
      exact x_vret C hm trivial dX6_follow_140
    have hf := xif_t hc18 hf
    refine lv_iload hx hb dX6_follow_84 (lv_at hl 1 rfl) ?_
    refine lv_iload hx hb dX6_follow_86 (lv_at hl 6 rfl) ?_
    refine lv_icmp_eq (tgt := 140) hx hb dX6_follow_88 (by decide) (fun hc19 => ?_) (fun hc19 => ?_)
    · have hf := xif_t hc19 hf
      cases hf
      exact x_vret C hm trivial dX6_follow_140
    have hf := xif_f hc19 hf
    refine lv_aload_n hx hb dX6_follow_91 rfl (lv_at hl 2 rfl) ?_
    refine x_get C hm inX6 rfl 3 (by decide) tf_RX6_27 (cx_Survey (LX_survey 0 _ rfl)) rfl dX6_follow_92 ?_
    refine lv_bipush (v := (64 : Int32)) hx hb dX6_follow_95 (by decide) ?_
    refine lv_icmp_ge (tgt := 140) hx hb dX6_follow_97 (by decide) (fun hc20 => ?_) (fun hc20 => ?_)
    · have hf := xif_t hc20 hf
      cases hf
      exact x_vret C hm trivial dX6_follow_140
    have hf := xif_f hc20 hf
    refine lv_aload_n hx hb dX6_follow_100 rfl (lv_at hl 2 rfl) ?_
    refine x_get C hm inX6 rfl 0 (by decide) tf_RX6_9 (cx_Survey (LX_survey 0 _ rfl)) rfl dX6_follow_101 ?_
    refine lv_iload hx hb dX6_follow_104 (lv_at hl 1 rfl) ?_
    refine lv_iload_n hx hb dX6_follow_106 rfl (lv_at hl 5 rfl) ?_
    obtain ⟨M21, eM21, hf⟩ := xlet_x hf
    refine x_iast (j := (Int32.toNatClampNeg v5)) (cf' := cX E b M21) C hm (cx_I (LX_survey 1 _ rfl)) hi17 dX6_follow_107 rfl (by rw [eM21]; exact cu_I (LX_survey 1 _ rfl)) (by rw [eM21]; exact cX_o) (fun H locs hm => ?_)
    refine lv_aload_n hx hb dX6_follow_108 rfl (lv_at hl 2 rfl) ?_
    refine x_get C hm inX6 rfl 1 (by decide) tf_RX6_15 (cx_Survey (LX_survey 0 _ rfl)) rfl dX6_follow_109 ?_
    refine lv_aload_n hx hb dX6_follow_112 rfl (lv_at hl 2 rfl) ?_
    refine x_get C hm inX6 rfl 3 (by decide) tf_RX6_27 (cx_Survey (LX_survey 0 _ rfl)) rfl dX6_follow_113 ?_
    refine lv_iload hx hb dX6_follow_116 (lv_at hl 1 rfl) ?_
    obtain ⟨hi22, hf⟩ := xif_s hf
    obtain ⟨M23, eM23, hf⟩ := xlet_x hf
    refine x_iast (j := (Int32.toNatClampNeg (M21 986 3))) (cf' := cX E b M23) C hm (cx_I (LX_survey 2 _ rfl)) hi22 dX6_follow_118 rfl (by rw [eM23]; exact cu_I (LX_survey 2 _ rfl)) (by rw [eM23]; exact cX_o) (fun H locs hm => ?_)
    refine lv_aload_n hx hb dX6_follow_119 rfl (lv_at hl 2 rfl) ?_
    refine lv_dup hx hb dX6_follow_120 rfl ?_
    refine x_get C hm inX6 rfl 3 (by decide) tf_RX6_27 (cx_Survey (LX_survey 0 _ rfl)) rfl dX6_follow_121 ?_
    refine lv_iconst (v := (1 : Int32)) hx hb dX6_follow_124 (by decide) ?_
    refine lv_iadd hx hb dX6_follow_125 ?_
    obtain ⟨M24, eM24, hf⟩ := xlet_x hf
    refine x_put (cf' := cX E b M24) C hm inX6 tyX6 tyX6_ok nmX6 rfl 3 (by decide) tf_RX6_27 rfl rfl rfl (cx_Survey (LX_survey 0 _ rfl)) (Nat.le_of_ble_eq_true rfl) (by rw [eM24]; exact cu_Survey_3 (LX_survey 0 _ rfl)) (by rw [eM24]; exact cX_o) dX6_follow_126 (fun H locs hm => ?_)
    refine lv_aload_n hx hb dX6_follow_129 rfl (lv_at hl 2 rfl) ?_
    refine lv_dup hx hb dX6_follow_130 rfl ?_
    refine x_get C hm inX6 rfl 4 (by decide) tf_RX6_31 (cx_Survey (LX_survey 0 _ rfl)) rfl dX6_follow_131 ?_
    refine lv_iload hx hb dX6_follow_134 (lv_at hl 0 rfl) ?_
    refine lv_iadd hx hb dX6_follow_136 ?_
    obtain ⟨M25, eM25, hf⟩ := xlet_x hf
    refine x_put (cf' := cX E b M25) C hm inX6 tyX6 tyX6_ok nmX6 rfl 4 (by decide) tf_RX6_31 rfl rfl rfl (cx_Survey (LX_survey 0 _ rfl)) (Nat.le_of_ble_eq_true rfl) (by rw [eM25]; exact cu_Survey_4 (LX_survey 0 _ rfl)) (by rw [eM25]; exact cX_o) dX6_follow_137 (fun H locs hm => ?_)
    cases hf
    exact x_vret C hm trivial dX6_follow_140
  refine lv_icmp_eq (tgt := 26) hx hb dX6_follow_13 (by decide) (fun hc27 => ?_) (fun hc27 => ?_)
  · have hf := xif_t hc27 hf
    exact jk3 M H locs ls  hf hm (lv_sub hl [0, 1, 2, 3, 4] rfl)
  have hf := xif_f hc27 hf
  refine lv_aload_n hx hb dX6_follow_16 rfl (lv_at hl 0 rfl) ?_
  refine lv_dup hx hb dX6_follow_17 rfl ?_
  refine x_get C hm inX6 rfl 5 (by decide) tf_RX6_34 (cx_Survey (LX_survey 0 _ rfl)) rfl dX6_follow_18 ?_
  refine lv_iconst (v := (1 : Int32)) hx hb dX6_follow_21 (by decide) ?_
  refine lv_iadd hx hb dX6_follow_22 ?_
  obtain ⟨M28, eM28, hf⟩ := xlet_x hf
  refine x_put (cf' := cX E b M28) C hm inX6 tyX6 tyX6_ok nmX6 rfl 5 (by decide) tf_RX6_34 rfl rfl rfl (cx_Survey (LX_survey 0 _ rfl)) (Nat.le_of_ble_eq_true rfl) (by rw [eM28]; exact cu_Survey_5 (LX_survey 0 _ rfl)) (by rw [eM28]; exact cX_o) dX6_follow_23 (fun H locs hm => ?_)
  exact jk3 M28 H locs ls  hf hm (lv_sub hl [0, 1, 2, 3, 4] rfl)
/-! ColouredHeap$Survey.gapsOf(LColouredHeap$Heap;I)I -/
theorem dX6_gapsOf_0 : decode cX6_gapsOf 0 = .ok (.iload_n 2, 1) := by decide +kernel
theorem dX6_gapsOf_1 : decode cX6_gapsOf 1 = .ok (.invokestatic 71, 3) := by decide +kernel
theorem dX6_gapsOf_4 : decode cX6_gapsOf 4 = .ok (.ifCond .ne 5, 3) := by decide +kernel
theorem dX6_gapsOf_7 : decode cX6_gapsOf 7 = .ok (.iconst (-1), 1) := by decide +kernel
theorem dX6_gapsOf_8 : decode cX6_gapsOf 8 = .ok (.ireturn, 1) := by decide +kernel
theorem dX6_gapsOf_9 : decode cX6_gapsOf 9 = .ok (.aload_n 1, 1) := by decide +kernel
theorem dX6_gapsOf_10 : decode cX6_gapsOf 10 = .ok (.getfield 74, 3) := by decide +kernel
theorem dX6_gapsOf_13 : decode cX6_gapsOf 13 = .ok (.iload_n 2, 1) := by decide +kernel
theorem dX6_gapsOf_14 : decode cX6_gapsOf 14 = .ok (.iaload, 1) := by decide +kernel
theorem dX6_gapsOf_15 : decode cX6_gapsOf 15 = .ok (.istore_n 3, 1) := by decide +kernel
theorem dX6_gapsOf_16 : decode cX6_gapsOf 16 = .ok (.iload_n 2, 1) := by decide +kernel
theorem dX6_gapsOf_17 : decode cX6_gapsOf 17 = .ok (.bipush 8, 2) := by decide +kernel
theorem dX6_gapsOf_19 : decode cX6_gapsOf 19 = .ok (.imul, 1) := by decide +kernel
theorem dX6_gapsOf_20 : decode cX6_gapsOf 20 = .ok (.istore 4, 2) := by decide +kernel
theorem dX6_gapsOf_22 : decode cX6_gapsOf 22 = .ok (.iload 4, 2) := by decide +kernel
theorem dX6_gapsOf_24 : decode cX6_gapsOf 24 = .ok (.iload_n 2, 1) := by decide +kernel
theorem dX6_gapsOf_25 : decode cX6_gapsOf 25 = .ok (.iconst 1, 1) := by decide +kernel
theorem dX6_gapsOf_26 : decode cX6_gapsOf 26 = .ok (.iadd, 1) := by decide +kernel
theorem dX6_gapsOf_27 : decode cX6_gapsOf 27 = .ok (.bipush 8, 2) := by decide +kernel
theorem dX6_gapsOf_29 : decode cX6_gapsOf 29 = .ok (.imul, 1) := by decide +kernel
theorem dX6_gapsOf_30 : decode cX6_gapsOf 30 = .ok (.if_icmp .ge 29, 3) := by decide +kernel
theorem dX6_gapsOf_33 : decode cX6_gapsOf 33 = .ok (.aload_n 0, 1) := by decide +kernel
theorem dX6_gapsOf_34 : decode cX6_gapsOf 34 = .ok (.getfield 9, 3) := by decide +kernel
theorem dX6_gapsOf_37 : decode cX6_gapsOf 37 = .ok (.iload 4, 2) := by decide +kernel
theorem dX6_gapsOf_39 : decode cX6_gapsOf 39 = .ok (.iaload, 1) := by decide +kernel
theorem dX6_gapsOf_40 : decode cX6_gapsOf 40 = .ok (.iconst (-1), 1) := by decide +kernel
theorem dX6_gapsOf_41 : decode cX6_gapsOf 41 = .ok (.if_icmp .eq 12, 3) := by decide +kernel
theorem dX6_gapsOf_44 : decode cX6_gapsOf 44 = .ok (.iload_n 3, 1) := by decide +kernel
theorem dX6_gapsOf_45 : decode cX6_gapsOf 45 = .ok (.aload_n 1, 1) := by decide +kernel
theorem dX6_gapsOf_46 : decode cX6_gapsOf 46 = .ok (.iload 4, 2) := by decide +kernel
theorem dX6_gapsOf_48 : decode cX6_gapsOf 48 = .ok (.invokevirtual 50, 3) := by decide +kernel
theorem dX6_gapsOf_51 : decode cX6_gapsOf 51 = .ok (.isub, 1) := by decide +kernel
theorem dX6_gapsOf_52 : decode cX6_gapsOf 52 = .ok (.istore_n 3, 1) := by decide +kernel
theorem dX6_gapsOf_53 : decode cX6_gapsOf 53 = .ok (.iinc 4 1, 3) := by decide +kernel
theorem dX6_gapsOf_56 : decode cX6_gapsOf 56 = .ok (.goto (-34), 3) := by decide +kernel
theorem dX6_gapsOf_59 : decode cX6_gapsOf 59 = .ok (.iload_n 3, 1) := by decide +kernel
theorem dX6_gapsOf_60 : decode cX6_gapsOf 60 = .ok (.ireturn, 1) := by decide +kernel
def g_X6_gapsOf_22 (o6 : Nat) (M : xm) (x7 : Int32) : Nat → Int32 → Int32 → Option ((Int32))
  | 0, _, _ => none
  | n + 1, x8, x9 => (if ((x7 + (1 : Int32)) * (8 : Int32)) ≤ x9 then some (x8) else if xin x9 64 = true then (if (M (986 + 1) (Int32.toNatClampNeg x9)) = (-1 : Int32) then xlet (x9 + (1 : Int32)) (fun v14 => g_X6_gapsOf_22 o6 M x7 n x8 v14) else xb1 (f_X1_sizeAt o6 M x9) (fun v16 => xlet (x8 - v16) (fun v18 => xlet (x9 + (1 : Int32)) (fun v19 => g_X6_gapsOf_22 o6 M x7 n v18 v19)))) else none)
def f_X6_gapsOf (u1 : Nat) (M : xm) (a2 : Int32) : Option (Int32) := (if (f_X9_isPage a2) = 0 then some (-1 : Int32) else if xin a2 8 = true then xlet (M (u1 + 6) (Int32.toNatClampNeg a2)) (fun v4 => xlet (a2 * (8 : Int32)) (fun v5 => xb1 (g_X6_gapsOf_22 u1 M a2 xfuel v4 v5) (fun v20 => some v20))) else none)
set_option maxHeartbeats 4000000 in
set_option maxRecDepth 20000 in
theorem j_X6_gapsOf_22 {p : Program} {l : Launch} {e : Env} {s : State} {m : MethodId} {args : Array Value} {below : List Frame} {meth : Method} {c : Code} {Q : State → Prop} {E : xE} {b : Nat} (C : xC p s m args meth c cX6_gapsOf 5 RX6 (some .int) E b) {o6 : Nat} (L_o6 : lat o6 pHeap) (M : xm) (x7 : Int32) {y10 : Int32}
    (kx0 : ∀ (H : Heap) (locs : List Loc) (ls : Array Slot), xM E b NX (cX E b M) s.heap H locs → lv_has ls 5 [(3, .int y10)] → W p l e (xR 3) s m args below meth c H locs 0 0 Q (F0 m 59 ls [])) :
    ∀ (n : Nat) (x8 : Int32) (x9 : Int32) (H : Heap) (locs : List Loc) (ls : Array Slot), g_X6_gapsOf_22 o6 M x7 n x8 x9 = some y10 → xM E b NX (cX E b M) s.heap H locs → lv_has ls 5 [(0, .ref (b + 986)), (1, .ref (b + o6)), (2, .int x7), (3, .int x8), (4, .int x9)] → W p l e (xR 3) s m args below meth c H locs 0 0 Q (F0 m 22 ls []) := by
  have hx := C.1.1
  have hb := C.1.2.1
  intro n
  induction n with
  | zero =>
    intro x8 x9 H locs ls hf hm hl
    rw [g_X6_gapsOf_22] at hf
    cases hf
  | succ n ih =>
    intro x8 x9 H locs ls hf hm hl
    rw [g_X6_gapsOf_22] at hf
    refine lv_iload hx hb dX6_gapsOf_22 (lv_at hl 4 rfl) ?_
    refine lv_iload_n hx hb dX6_gapsOf_24 rfl (lv_at hl 2 rfl) ?_
    refine lv_iconst (v := (1 : Int32)) hx hb dX6_gapsOf_25 (by decide) ?_
    refine lv_iadd hx hb dX6_gapsOf_26 ?_
    refine lv_bipush (v := (8 : Int32)) hx hb dX6_gapsOf_27 (by decide) ?_
    refine lv_imul hx hb dX6_gapsOf_29 ?_
    refine lv_icmp_ge (tgt := 59) hx hb dX6_gapsOf_30 (by decide) (fun hc11 => ?_) (fun hc11 => ?_)
    · have hf := xif_t hc11 hf
      cases hf
      exact kx0 H locs ls hm (lv_sub hl [3] rfl)
    have hf := xif_f hc11 hf
    refine lv_aload_n hx hb dX6_gapsOf_33 rfl (lv_at hl 0 rfl) ?_
    refine x_get C hm inX6 rfl 0 (by decide) tf_RX6_9 (cx_Survey (LX_survey 0 _ rfl)) rfl dX6_gapsOf_34 ?_
    refine lv_iload hx hb dX6_gapsOf_37 (lv_at hl 4 rfl) ?_
    obtain ⟨hi12, hf⟩ := xif_s hf
    refine x_iald (j := (Int32.toNatClampNeg x9)) C hm (cx_I (LX_survey 1 _ rfl)) hi12 dX6_gapsOf_39 rfl ?_
    refine lv_iconst (v := (-1 : Int32)) hx hb dX6_gapsOf_40 (by decide) ?_
    refine lv_icmp_eq (tgt := 53) hx hb dX6_gapsOf_41 (by decide) (fun hc13 => ?_) (fun hc13 => ?_)
    · have hf := xif_t hc13 hf
      obtain ⟨v14, ev14, hf⟩ := xlet_x hf
      refine lv_iinc (v := v14) (lv' := [(4, .int v14), (0, .ref (b + 986)), (1, .ref (b + o6)), (2, .int x7), (3, .int x8)]) hx hb dX6_gapsOf_53 hl (k := 4) rfl (by rw [ev14]; rfl) (by decide) rfl (fun ls hl => ?_)
      refine lv_goto (tgt := 22) hx hb dX6_gapsOf_56 (by decide) ?_
      exact ih x8 v14 H locs ls hf hm (lv_sub hl [1, 2, 3, 4, 0] rfl)
    have hf := xif_f hc13 hf
    refine lv_iload_n hx hb dX6_gapsOf_44 rfl (lv_at hl 3 rfl) ?_
    refine lv_aload_n hx hb dX6_gapsOf_45 rfl (lv_at hl 1 rfl) ?_
    refine lv_iload hx hb dX6_gapsOf_46 (lv_at hl 4 rfl) ?_
    obtain ⟨v16, hq15, hf⟩ := xb1_e hf
    refine x_callVi (As := [.int x9]) (rest := [.int x8]) C hm (c_X1_sizeAt l E b L_o6 M x9 hq15) rfl (cx_Heap (L_o6 0 _ rfl)) tc_X1_sizeAt tm_RX6_50 ti_X1_sizeAt ts_X1_sizeAt tn_RX1 td_X1_sizeAt rfl rfl ⟨Nat.le_of_ble_eq_true rfl, Nat.le_of_ble_eq_true rfl⟩ rfl hl.1 rfl (Nat.le_of_ble_eq_true rfl) ⟨Nat.zero_le _, Nat.zero_le _⟩ dX6_gapsOf_48 (fun H locs hP17 hm => ?_)
    refine lv_isub hx hb dX6_gapsOf_51 ?_
    refine lv_topi (fun v18 ev18 => ?_)
    have hf := xlet_e ev18 hf
    refine lv_istore_n (lv' := [(3, .int v18), (0, .ref (b + 986)), (1, .ref (b + o6)), (2, .int x7), (4, .int x9)]) hx hb dX6_gapsOf_52 rfl hl (by decide) rfl (fun ls hl => ?_)
    obtain ⟨v19, ev19, hf⟩ := xlet_x hf
    refine lv_iinc (v := v19) (lv' := [(4, .int v19), (3, .int v18), (0, .ref (b + 986)), (1, .ref (b + o6)), (2, .int x7)]) hx hb dX6_gapsOf_53 hl (k := 4) rfl (by rw [ev19]; rfl) (by decide) rfl (fun ls hl => ?_)
    refine lv_goto (tgt := 22) hx hb dX6_gapsOf_56 (by decide) ?_
    exact ih v18 v19 H locs ls hf hm (lv_sub hl [2, 3, 4, 1, 0] rfl)
set_option maxHeartbeats 4000000 in
set_option maxRecDepth 20000 in
theorem c_X6_gapsOf (l : Launch) (E : xE) (b : Nat) {u1 : Nat} (L_u1 : lat u1 pHeap) (M : xm) (a2 : Int32) {r : Int32} (hf : f_X6_gapsOf u1 M a2 = some r) :
    xMet l E b NX yX6_gapsOf cX6_gapsOf 5 (some .int) (xR 3) [.ref (b + 986), .ref (b + u1), .int a2] (cX E b M) (some (.int r)) True (cX E b M) := by
  refine xMet.ofW (own := RX6) (by decide) rfl (Nat.le_of_ble_eq_true rfl) ?_
  intro p e s m below meth c H locs ls C hm hl
  have hx := C.1.1
  have hb := C.1.2.1
  have hl : lv_has ls 5 [(0, .ref (b + 986)), (1, .ref (b + u1)), (2, .int a2)] := hl
  unfold f_X6_gapsOf at hf
  refine lv_iload_n hx hb dX6_gapsOf_0 rfl (lv_at hl 2 rfl) ?_
  refine x_callSNi (As := [.int a2]) (rest := []) C hm (c_X9_isPage l E b M a2 rfl) tc_X9_isPage (by decide +kernel : (RX6, 71, yX9_isPage, "ColouredHeap") ∈ xNest) tz_X9_isPage tn_RX9 td_X9_isPage rfl rfl ⟨Nat.le_of_ble_eq_true rfl, Nat.le_of_ble_eq_true rfl⟩ rfl hl.1 rfl (Nat.le_of_ble_eq_true rfl) ⟨Nat.zero_le _, Nat.zero_le _⟩ dX6_gapsOf_1 (fun H locs hP1 hm => ?_)
  refine lv_if_ne (tgt := 9) hx hb dX6_gapsOf_4 (by decide) (fun hc2 => ?_) (fun hc2 => ?_)
  rotate_left
  · have hf := xif_t hc2 hf
    refine lv_iconst (v := (-1 : Int32)) hx hb dX6_gapsOf_7 (by decide) ?_
    cases hf
    exact x_iret C hm trivial dX6_gapsOf_8
  have hf := xif_f hc2 hf
  refine lv_aload_n hx hb dX6_gapsOf_9 rfl (lv_at hl 1 rfl) ?_
  refine x_get C hm inX1 rfl 5 (by decide) tf_RX6_74 (cx_Heap (L_u1 0 _ rfl)) rfl dX6_gapsOf_10 ?_
  refine lv_iload_n hx hb dX6_gapsOf_13 rfl (lv_at hl 2 rfl) ?_
  obtain ⟨hi3, hf⟩ := xif_s hf
  refine x_iald (j := (Int32.toNatClampNeg a2)) C hm (cx_I (L_u1 6 _ rfl)) hi3 dX6_gapsOf_14 rfl ?_
  refine lv_topi (fun v4 ev4 => ?_)
  have hf := xlet_e ev4 hf
  refine lv_istore_n (lv' := [(3, .int v4), (0, .ref (b + 986)), (1, .ref (b + u1)), (2, .int a2)]) hx hb dX6_gapsOf_15 rfl hl (by decide) rfl (fun ls hl => ?_)
  refine lv_iload_n hx hb dX6_gapsOf_16 rfl (lv_at hl 3 rfl) ?_
  refine lv_bipush (v := (8 : Int32)) hx hb dX6_gapsOf_17 (by decide) ?_
  refine lv_imul hx hb dX6_gapsOf_19 ?_
  refine lv_topi (fun v5 ev5 => ?_)
  have hf := xlet_e ev5 hf
  refine lv_istore (lv' := [(4, .int v5), (3, .int v4), (0, .ref (b + 986)), (1, .ref (b + u1)), (2, .int a2)]) hx hb dX6_gapsOf_20 hl (by decide) rfl (fun ls hl => ?_)
  obtain ⟨v20, hq, hf⟩ := xb1_e hf
  refine j_X6_gapsOf_22 C L_u1 M a2 (fun H locs ls hm hl => ?_) xfuel v4 v5 H locs ls hq hm (lv_sub hl [2, 3, 4, 1, 0] rfl)
  refine lv_iload_n hx hb dX6_gapsOf_59 rfl (lv_at hl 0 rfl) ?_
  cases hf
  exact x_iret C hm trivial dX6_gapsOf_60
