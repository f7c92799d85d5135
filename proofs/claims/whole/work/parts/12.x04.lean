/-! ColouredHeap$Reader.deedClause(I)V -/
theorem dX4_deedClause_0 : decode cX4_deedClause 0 = .ok (.iload_n 1, 1) := by decide +kernel
theorem dX4_deedClause_1 : decode cX4_deedClause 1 = .ok (.bipush 6, 2) := by decide +kernel
theorem dX4_deedClause_3 : decode cX4_deedClause 3 = .ok (.if_icmp .ne 21, 3) := by decide +kernel
theorem dX4_deedClause_6 : decode cX4_deedClause 6 = .ok (.aload_n 0, 1) := by decide +kernel
theorem dX4_deedClause_7 : decode cX4_deedClause 7 = .ok (.getfield 27, 3) := by decide +kernel
theorem dX4_deedClause_10 : decode cX4_deedClause 10 = .ok (.iload_n 1, 1) := by decide +kernel
theorem dX4_deedClause_11 : decode cX4_deedClause 11 = .ok (.aload_n 0, 1) := by decide +kernel
theorem dX4_deedClause_12 : decode cX4_deedClause 12 = .ok (.iconst 1, 1) := by decide +kernel
theorem dX4_deedClause_13 : decode cX4_deedClause 13 = .ok (.bipush 60, 2) := by decide +kernel
theorem dX4_deedClause_15 : decode cX4_deedClause 15 = .ok (.invokevirtual 118, 3) := by decide +kernel
theorem dX4_deedClause_18 : decode cX4_deedClause 18 = .ok (.iconst 0, 1) := by decide +kernel
theorem dX4_deedClause_19 : decode cX4_deedClause 19 = .ok (.iconst 0, 1) := by decide +kernel
theorem dX4_deedClause_20 : decode cX4_deedClause 20 = .ok (.invokevirtual 148, 3) := by decide +kernel
theorem dX4_deedClause_23 : decode cX4_deedClause 23 = .ok (.return_, 1) := by decide +kernel
theorem dX4_deedClause_24 : decode cX4_deedClause 24 = .ok (.aload_n 0, 1) := by decide +kernel
theorem dX4_deedClause_25 : decode cX4_deedClause 25 = .ok (.invokevirtual 152, 3) := by decide +kernel
theorem dX4_deedClause_28 : decode cX4_deedClause 28 = .ok (.istore_n 2, 1) := by decide +kernel
theorem dX4_deedClause_29 : decode cX4_deedClause 29 = .ok (.iconst 0, 1) := by decide +kernel
theorem dX4_deedClause_30 : decode cX4_deedClause 30 = .ok (.istore_n 3, 1) := by decide +kernel
theorem dX4_deedClause_31 : decode cX4_deedClause 31 = .ok (.iconst 0, 1) := by decide +kernel
theorem dX4_deedClause_32 : decode cX4_deedClause 32 = .ok (.istore 4, 2) := by decide +kernel
theorem dX4_deedClause_34 : decode cX4_deedClause 34 = .ok (.iload_n 1, 1) := by decide +kernel
theorem dX4_deedClause_35 : decode cX4_deedClause 35 = .ok (.iconst 2, 1) := by decide +kernel
theorem dX4_deedClause_36 : decode cX4_deedClause 36 = .ok (.if_icmp .ne 19, 3) := by decide +kernel
theorem dX4_deedClause_39 : decode cX4_deedClause 39 = .ok (.aload_n 0, 1) := by decide +kernel
theorem dX4_deedClause_40 : decode cX4_deedClause 40 = .ok (.bipush 7, 2) := by decide +kernel
theorem dX4_deedClause_42 : decode cX4_deedClause 42 = .ok (.invokevirtual 133, 3) := by decide +kernel
theorem dX4_deedClause_45 : decode cX4_deedClause 45 = .ok (.aload_n 0, 1) := by decide +kernel
theorem dX4_deedClause_46 : decode cX4_deedClause 46 = .ok (.iconst 0, 1) := by decide +kernel
theorem dX4_deedClause_47 : decode cX4_deedClause 47 = .ok (.iconst 3, 1) := by decide +kernel
theorem dX4_deedClause_48 : decode cX4_deedClause 48 = .ok (.invokevirtual 118, 3) := by decide +kernel
theorem dX4_deedClause_51 : decode cX4_deedClause 51 = .ok (.istore_n 3, 1) := by decide +kernel
theorem dX4_deedClause_52 : decode cX4_deedClause 52 = .ok (.goto 48, 3) := by decide +kernel
theorem dX4_deedClause_55 : decode cX4_deedClause 55 = .ok (.iload_n 1, 1) := by decide +kernel
theorem dX4_deedClause_56 : decode cX4_deedClause 56 = .ok (.iconst 3, 1) := by decide +kernel
theorem dX4_deedClause_57 : decode cX4_deedClause 57 = .ok (.if_icmp .eq 8, 3) := by decide +kernel
theorem dX4_deedClause_60 : decode cX4_deedClause 60 = .ok (.iload_n 1, 1) := by decide +kernel
theorem dX4_deedClause_61 : decode cX4_deedClause 61 = .ok (.iconst 4, 1) := by decide +kernel
theorem dX4_deedClause_62 : decode cX4_deedClause 62 = .ok (.if_icmp .ne 38, 3) := by decide +kernel
theorem dX4_deedClause_65 : decode cX4_deedClause 65 = .ok (.aload_n 0, 1) := by decide +kernel
theorem dX4_deedClause_66 : decode cX4_deedClause 66 = .ok (.iload_n 1, 1) := by decide +kernel
theorem dX4_deedClause_67 : decode cX4_deedClause 67 = .ok (.iconst 3, 1) := by decide +kernel
theorem dX4_deedClause_68 : decode cX4_deedClause 68 = .ok (.if_icmp .ne 8, 3) := by decide +kernel
theorem dX4_deedClause_71 : decode cX4_deedClause 71 = .ok (.bipush 8, 2) := by decide +kernel
theorem dX4_deedClause_73 : decode cX4_deedClause 73 = .ok (.goto 5, 3) := by decide +kernel
theorem dX4_deedClause_76 : decode cX4_deedClause 76 = .ok (.bipush 9, 2) := by decide +kernel
theorem dX4_deedClause_78 : decode cX4_deedClause 78 = .ok (.invokevirtual 133, 3) := by decide +kernel
theorem dX4_deedClause_81 : decode cX4_deedClause 81 = .ok (.aload_n 0, 1) := by decide +kernel
theorem dX4_deedClause_82 : decode cX4_deedClause 82 = .ok (.invokevirtual 152, 3) := by decide +kernel
theorem dX4_deedClause_85 : decode cX4_deedClause 85 = .ok (.istore_n 3, 1) := by decide +kernel
theorem dX4_deedClause_86 : decode cX4_deedClause 86 = .ok (.aload_n 0, 1) := by decide +kernel
theorem dX4_deedClause_87 : decode cX4_deedClause 87 = .ok (.bipush 7, 2) := by decide +kernel
theorem dX4_deedClause_89 : decode cX4_deedClause 89 = .ok (.invokevirtual 133, 3) := by decide +kernel
theorem dX4_deedClause_92 : decode cX4_deedClause 92 = .ok (.aload_n 0, 1) := by decide +kernel
theorem dX4_deedClause_93 : decode cX4_deedClause 93 = .ok (.iconst 0, 1) := by decide +kernel
theorem dX4_deedClause_94 : decode cX4_deedClause 94 = .ok (.iconst 2, 1) := by decide +kernel
theorem dX4_deedClause_95 : decode cX4_deedClause 95 = .ok (.invokevirtual 118, 3) := by decide +kernel
theorem dX4_deedClause_98 : decode cX4_deedClause 98 = .ok (.istore 4, 2) := by decide +kernel
theorem dX4_deedClause_100 : decode cX4_deedClause 100 = .ok (.aload_n 0, 1) := by decide +kernel
theorem dX4_deedClause_101 : decode cX4_deedClause 101 = .ok (.getfield 27, 3) := by decide +kernel
theorem dX4_deedClause_104 : decode cX4_deedClause 104 = .ok (.iload_n 1, 1) := by decide +kernel
theorem dX4_deedClause_105 : decode cX4_deedClause 105 = .ok (.iload_n 2, 1) := by decide +kernel
theorem dX4_deedClause_106 : decode cX4_deedClause 106 = .ok (.iload_n 3, 1) := by decide +kernel
theorem dX4_deedClause_107 : decode cX4_deedClause 107 = .ok (.iload 4, 2) := by decide +kernel
theorem dX4_deedClause_109 : decode cX4_deedClause 109 = .ok (.invokevirtual 148, 3) := by decide +kernel
theorem dX4_deedClause_112 : decode cX4_deedClause 112 = .ok (.return_, 1) := by decide +kernel
def f_X4_deedClause (M : xm) (a1 : Int32) : Option (xm) := (if a1 = (6 : Int32) then xb2 (f_X4_wantNumber M (1 : Int32) (60 : Int32)) (fun v42 M43 => xb1 (f_X7_addClause (990 + 5) M43 a1 v42 (0 : Int32) (0 : Int32)) (fun M46 => some M46)) else xb2 (f_X4_wantRoot M) (fun v3 M4 => xlet (fun (w6 : Int32) (w7 : Int32) (M8 : xm) => xb1 (f_X7_addClause (990 + 5) M8 a1 v3 w6 w7) (fun M11 => some M11)) (fun k9 => (if a1 = (2 : Int32) then xb1 (f_X4_want M4 (7 : Int32)) (fun M35 => xb2 (f_X4_wantNumber M35 (0 : Int32) (3 : Int32)) (fun v38 M39 => (k9 v38 (0 : Int32) M39))) else xlet (xlet (fun (w15 : Int32) => xb1 (f_X4_want M4 w15) (fun M18 => xb2 (f_X4_wantRoot M18) (fun v21 M22 => xb1 (f_X4_want M22 (7 : Int32)) (fun M25 => xb2 (f_X4_wantNumber M25 (0 : Int32) (2 : Int32)) (fun v28 M29 => (k9 v21 v28 M29)))))) (fun k16 => (if a1 = (3 : Int32) then (k16 (8 : Int32)) else (k16 (9 : Int32))))) (fun k14 => (if a1 = (3 : Int32) then k14 else (if a1 = (4 : Int32) then k14 else (k9 (0 : Int32) (0 : Int32) M4))))))))
set_option maxHeartbeats 4000000 in
set_option maxRecDepth 20000 in
theorem c_X4_deedClause (l : Launch) (E : xE) (b : Nat) (M : xm) (a1 : Int32) {M' : xm} (hf : f_X4_deedClause M a1 = some M') :
    xMet l E b NX yX4_deedClause cX4_deedClause 5 none (xR 5) [.ref (b + 990), .int a1] (cX E b M) none True (cX E b M') := by
  refine xMet.ofW (own := RX4) (by decide) rfl (Nat.le_of_ble_eq_true rfl) ?_
  intro p e s m below meth c H locs ls C hm hl
  have hx := C.1.1
  have hb := C.1.2.1
  have hl : lv_has ls 5 [(0, .ref (b + 990)), (1, .int a1)] := hl
  unfold f_X4_deedClause at hf
  refine lv_iload_n hx hb dX4_deedClause_0 rfl (lv_at hl 1 rfl) ?_
  refine lv_bipush (v := (6 : Int32)) hx hb dX4_deedClause_1 (by decide) ?_
  refine lv_icmp_ne (tgt := 24) hx hb dX4_deedClause_3 (by decide) (fun hc1 => ?_) (fun hc1 => ?_)
  rotate_left
  · have hf := xif_t hc1 hf
    refine lv_aload_n hx hb dX4_deedClause_6 rfl (lv_at hl 0 rfl) ?_
    refine x_get C hm inX4 rfl 4 (by decide) tf_RX4_27 (cx_Reader (LX_reader 0 _ rfl)) rfl dX4_deedClause_7 ?_
    refine lv_iload_n hx hb dX4_deedClause_10 rfl (lv_at hl 1 rfl) ?_
    refine lv_aload_n hx hb dX4_deedClause_11 rfl (lv_at hl 0 rfl) ?_
    refine lv_iconst (v := (1 : Int32)) hx hb dX4_deedClause_12 (by decide) ?_
    refine lv_bipush (v := (60 : Int32)) hx hb dX4_deedClause_13 (by decide) ?_
    obtain ⟨v42, M43, hq41, hf⟩ := xb2_e hf
    refine x_callVi (As := [.int (1 : Int32), .int (60 : Int32)]) (rest := [.int a1, .ref (b + (990 + 5))]) C hm (c_X4_wantNumber l E b M (1 : Int32) (60 : Int32) hq41) rfl (cx_Reader (LX_reader 0 _ rfl)) tc_X4_wantNumber tm_RX4_118 ti_X4_wantNumber ts_X4_wantNumber tn_RX4 td_X4_wantNumber rfl rfl ⟨Nat.le_of_ble_eq_true rfl, Nat.le_of_ble_eq_true rfl⟩ rfl hl.1 rfl (Nat.le_of_ble_eq_true rfl) dX4_deedClause_15 (fun H locs hP44 hm => ?_)
    refine lv_iconst (v := (0 : Int32)) hx hb dX4_deedClause_18 (by decide) ?_
    refine lv_iconst (v := (0 : Int32)) hx hb dX4_deedClause_19 (by decide) ?_
    obtain ⟨M46, hq45, hf⟩ := xb1_e hf
    refine x_callVv (As := [.int a1, .int v42, .int (0 : Int32), .int (0 : Int32)]) (rest := []) C hm (c_X7_addClause l E b (lat_draft LX_reader) M43 a1 v42 (0 : Int32) (0 : Int32) hq45) rfl (cx_Text ((lat_draft LX_reader) 0 _ rfl)) tc_X7_addClause tm_RX4_148 ti_X7_addClause ts_X7_addClause tn_RX7 td_X7_addClause rfl rfl ⟨Nat.le_of_ble_eq_true rfl, Nat.le_of_ble_eq_true rfl⟩ rfl hl.1 rfl (Nat.le_of_ble_eq_true rfl) dX4_deedClause_20 (fun H locs hP47 hm => ?_)
    cases hf
    exact x_vret C hm trivial dX4_deedClause_23
  have hf := xif_f hc1 hf
  refine lv_aload_n hx hb dX4_deedClause_24 rfl (lv_at hl 0 rfl) ?_
  obtain ⟨v3, M4, hq2, hf⟩ := xb2_e hf
  refine x_callVi (As := []) (rest := []) C hm (c_X4_wantRoot l E b M hq2) rfl (cx_Reader (LX_reader 0 _ rfl)) tc_X4_wantRoot tm_RX4_152 ti_X4_wantRoot ts_X4_wantRoot tn_RX4 td_X4_wantRoot rfl rfl ⟨Nat.le_of_ble_eq_true rfl, Nat.le_of_ble_eq_true rfl⟩ rfl hl.1 rfl (Nat.le_of_ble_eq_true rfl) dX4_deedClause_25 (fun H locs hP5 hm => ?_)
  refine lv_istore_n (lv' := [(2, .int v3), (0, .ref (b + 990)), (1, .int a1)]) hx hb dX4_deedClause_28 rfl hl (by decide) rfl (fun ls hl => ?_)
  refine lv_iconst (v := (0 : Int32)) hx hb dX4_deedClause_29 (by decide) ?_
  refine lv_istore_n (lv' := [(3, .int (0 : Int32)), (2, .int v3), (0, .ref (b + 990)), (1, .int a1)]) hx hb dX4_deedClause_30 rfl hl (by decide) rfl (fun ls hl => ?_)
  refine lv_iconst (v := (0 : Int32)) hx hb dX4_deedClause_31 (by decide) ?_
  refine lv_istore (lv' := [(4, .int (0 : Int32)), (3, .int (0 : Int32)), (2, .int v3), (0, .ref (b + 990)), (1, .int a1)]) hx hb dX4_deedClause_32 hl (by decide) rfl (fun ls hl => ?_)
  refine lv_iload_n hx hb dX4_deedClause_34 rfl (lv_at hl 4 rfl) ?_
  refine lv_iconst (v := (2 : Int32)) hx hb dX4_deedClause_35 (by decide) ?_
  obtain ⟨k9, ek9, hf⟩ := xlet_x hf
  have jk9 : ∀ (w6 : Int32) (w7 : Int32) (M8 : xm) (H : Heap) (locs : List Loc) (ls : Array Slot), k9 w6 w7 M8 = some M' → xM E b NX (cX E b M8) s.heap H locs → lv_has ls 5 [(0, .ref (b + 990)), (1, .int a1), (2, .int v3), (3, .int w6), (4, .int w7)] → W p l e (xR 5) s m ([.ref (b + 990), .int a1] : List Value).toArray below meth c H locs 0 0 (MQ below (xQ E b NX none True (cX E b M')) ([.ref (b + 990), .int a1] : List Value).toArray s 0 0 (xA b NX)) (F0 m 100 ls []) := by
    intro w6 w7 M8 H locs ls hf hm hl
    have hf := xap3 ek9 hf
    refine lv_aload_n hx hb dX4_deedClause_100 rfl (lv_at hl 0 rfl) ?_
    refine x_get C hm inX4 rfl 4 (by decide) tf_RX4_27 (cx_Reader (LX_reader 0 _ rfl)) rfl dX4_deedClause_101 ?_
    refine lv_iload_n hx hb dX4_deedClause_104 rfl (lv_at hl 1 rfl) ?_
    refine lv_iload_n hx hb dX4_deedClause_105 rfl (lv_at hl 2 rfl) ?_
    refine lv_iload_n hx hb dX4_deedClause_106 rfl (lv_at hl 3 rfl) ?_
    refine lv_iload hx hb dX4_deedClause_107 (lv_at hl 4 rfl) ?_
    obtain ⟨M11, hq10, hf⟩ := xb1_e hf
    refine x_callVv (As := [.int a1, .int v3, .int w6, .int w7]) (rest := []) C hm (c_X7_addClause l E b (lat_draft LX_reader) M8 a1 v3 w6 w7 hq10) rfl (cx_Text ((lat_draft LX_reader) 0 _ rfl)) tc_X7_addClause tm_RX4_148 ti_X7_addClause ts_X7_addClause tn_RX7 td_X7_addClause rfl rfl ⟨Nat.le_of_ble_eq_true rfl, Nat.le_of_ble_eq_true rfl⟩ rfl hl.1 rfl (Nat.le_of_ble_eq_true rfl) dX4_deedClause_109 (fun H locs hP12 hm => ?_)
    cases hf
    exact x_vret C hm trivial dX4_deedClause_112
  refine lv_icmp_ne (tgt := 55) hx hb dX4_deedClause_36 (by decide) (fun hc13 => ?_) (fun hc13 => ?_)
  rotate_left
  · have hf := xif_t hc13 hf
    refine lv_aload_n hx hb dX4_deedClause_39 rfl (lv_at hl 3 rfl) ?_
    refine lv_bipush (v := (7 : Int32)) hx hb dX4_deedClause_40 (by decide) ?_
    obtain ⟨M35, hq34, hf⟩ := xb1_e hf
    refine x_callVv (As := [.int (7 : Int32)]) (rest := []) C hm (c_X4_want l E b M4 (7 : Int32) hq34) rfl (cx_Reader (LX_reader 0 _ rfl)) tc_X4_want tm_RX4_133 ti_X4_want ts_X4_want tn_RX4 td_X4_want rfl rfl ⟨Nat.le_of_ble_eq_true rfl, Nat.le_of_ble_eq_true rfl⟩ rfl hl.1 rfl (Nat.le_of_ble_eq_true rfl) dX4_deedClause_42 (fun H locs hP36 hm => ?_)
    refine lv_aload_n hx hb dX4_deedClause_45 rfl (lv_at hl 3 rfl) ?_
    refine lv_iconst (v := (0 : Int32)) hx hb dX4_deedClause_46 (by decide) ?_
    refine lv_iconst (v := (3 : Int32)) hx hb dX4_deedClause_47 (by decide) ?_
    obtain ⟨v38, M39, hq37, hf⟩ := xb2_e hf
    refine x_callVi (As := [.int (0 : Int32), .int (3 : Int32)]) (rest := []) C hm (c_X4_wantNumber l E b M35 (0 : Int32) (3 : Int32) hq37) rfl (cx_Reader (LX_reader 0 _ rfl)) tc_X4_wantNumber tm_RX4_118 ti_X4_wantNumber ts_X4_wantNumber tn_RX4 td_X4_wantNumber rfl rfl ⟨Nat.le_of_ble_eq_true rfl, Nat.le_of_ble_eq_true rfl⟩ rfl hl.1 rfl (Nat.le_of_ble_eq_true rfl) dX4_deedClause_48 (fun H locs hP40 hm => ?_)
    refine lv_istore_n (lv' := [(3, .int v38), (4, .int (0 : Int32)), (2, .int v3), (0, .ref (b + 990)), (1, .int a1)]) hx hb dX4_deedClause_51 rfl hl (by decide) rfl (fun ls hl => ?_)
    refine lv_goto (tgt := 100) hx hb dX4_deedClause_52 (by decide) ?_
    exact jk9 v38 (0 : Int32) M39 H locs ls  hf hm (lv_sub hl [3, 4, 2, 0, 1] rfl)
  have hf := xif_f hc13 hf
  refine lv_iload_n hx hb dX4_deedClause_55 rfl (lv_at hl 4 rfl) ?_
  refine lv_iconst (v := (3 : Int32)) hx hb dX4_deedClause_56 (by decide) ?_
  obtain ⟨k14, ek14, hf⟩ := xlet_x hf
  have jk14 : ∀  (H : Heap) (locs : List Loc) (ls : Array Slot), k14 = some M' → xM E b NX (cX E b M4) s.heap H locs → lv_has ls 5 [(0, .ref (b + 990)), (1, .int a1), (2, .int v3)] → W p l e (xR 5) s m ([.ref (b + 990), .int a1] : List Value).toArray below meth c H locs 0 0 (MQ below (xQ E b NX none True (cX E b M')) ([.ref (b + 990), .int a1] : List Value).toArray s 0 0 (xA b NX)) (F0 m 65 ls []) := by
    intro  H locs ls hf hm hl
    have hf := xap0 ek14 hf
    refine lv_aload_n hx hb dX4_deedClause_65 rfl (lv_at hl 0 rfl) ?_
    refine lv_iload_n hx hb dX4_deedClause_66 rfl (lv_at hl 1 rfl) ?_
    refine lv_iconst (v := (3 : Int32)) hx hb dX4_deedClause_67 (by decide) ?_
    obtain ⟨k16, ek16, hf⟩ := xlet_x hf
    have jk16 : ∀ (w15 : Int32) (H : Heap) (locs : List Loc) (ls : Array Slot), k16 w15 = some M' → xM E b NX (cX E b M4) s.heap H locs → lv_has ls 5 [(0, .ref (b + 990)), (1, .int a1), (2, .int v3)] → W p l e (xR 5) s m ([.ref (b + 990), .int a1] : List Value).toArray below meth c H locs 0 0 (MQ below (xQ E b NX none True (cX E b M')) ([.ref (b + 990), .int a1] : List Value).toArray s 0 0 (xA b NX)) (F0 m 78 ls [.int w15, .ref (b + 990)]) := by
      intro w15 H locs ls hf hm hl
      have hf := xap1 ek16 hf
      obtain ⟨M18, hq17, hf⟩ := xb1_e hf
      refine x_callVv (As := [.int w15]) (rest := []) C hm (c_X4_want l E b M4 w15 hq17) rfl (cx_Reader (LX_reader 0 _ rfl)) tc_X4_want tm_RX4_133 ti_X4_want ts_X4_want tn_RX4 td_X4_want rfl rfl ⟨Nat.le_of_ble_eq_true rfl, Nat.le_of_ble_eq_true rfl⟩ rfl hl.1 rfl (Nat.le_of_ble_eq_true rfl) dX4_deedClause_78 (fun H locs hP19 hm => ?_)
      refine lv_aload_n hx hb dX4_deedClause_81 rfl (lv_at hl 0 rfl) ?_
      obtain ⟨v21, M22, hq20, hf⟩ := xb2_e hf
      refine x_callVi (As := []) (rest := []) C hm (c_X4_wantRoot l E b M18 hq20) rfl (cx_Reader (LX_reader 0 _ rfl)) tc_X4_wantRoot tm_RX4_152 ti_X4_wantRoot ts_X4_wantRoot tn_RX4 td_X4_wantRoot rfl rfl ⟨Nat.le_of_ble_eq_true rfl, Nat.le_of_ble_eq_true rfl⟩ rfl hl.1 rfl (Nat.le_of_ble_eq_true rfl) dX4_deedClause_82 (fun H locs hP23 hm => ?_)
      refine lv_istore_n (lv' := [(3, .int v21), (0, .ref (b + 990)), (1, .int a1), (2, .int v3)]) hx hb dX4_deedClause_85 rfl hl (by decide) rfl (fun ls hl => ?_)
      refine lv_aload_n hx hb dX4_deedClause_86 rfl (lv_at hl 1 rfl) ?_
      refine lv_bipush (v := (7 : Int32)) hx hb dX4_deedClause_87 (by decide) ?_
      obtain ⟨M25, hq24, hf⟩ := xb1_e hf
      refine x_callVv (As := [.int (7 : Int32)]) (rest := []) C hm (c_X4_want l E b M22 (7 : Int32) hq24) rfl (cx_Reader (LX_reader 0 _ rfl)) tc_X4_want tm_RX4_133 ti_X4_want ts_X4_want tn_RX4 td_X4_want rfl rfl ⟨Nat.le_of_ble_eq_true rfl, Nat.le_of_ble_eq_true rfl⟩ rfl hl.1 rfl (Nat.le_of_ble_eq_true rfl) dX4_deedClause_89 (fun H locs hP26 hm => ?_)
      refine lv_aload_n hx hb dX4_deedClause_92 rfl (lv_at hl 1 rfl) ?_
      refine lv_iconst (v := (0 : Int32)) hx hb dX4_deedClause_93 (by decide) ?_
      refine lv_iconst (v := (2 : Int32)) hx hb dX4_deedClause_94 (by decide) ?_
      obtain ⟨v28, M29, hq27, hf⟩ := xb2_e hf
      refine x_callVi (As := [.int (0 : Int32), .int (2 : Int32)]) (rest := []) C hm (c_X4_wantNumber l E b M25 (0 : Int32) (2 : Int32) hq27) rfl (cx_Reader (LX_reader 0 _ rfl)) tc_X4_wantNumber tm_RX4_118 ti_X4_wantNumber ts_X4_wantNumber tn_RX4 td_X4_wantNumber rfl rfl ⟨Nat.le_of_ble_eq_true rfl, Nat.le_of_ble_eq_true rfl⟩ rfl hl.1 rfl (Nat.le_of_ble_eq_true rfl) dX4_deedClause_95 (fun H locs hP30 hm => ?_)
      refine lv_istore (lv' := [(4, .int v28), (3, .int v21), (0, .ref (b + 990)), (1, .int a1), (2, .int v3)]) hx hb dX4_deedClause_98 hl (by decide) rfl (fun ls hl => ?_)
      exact jk9 v21 v28 M29 H locs ls  hf hm (lv_sub hl [2, 3, 4, 1, 0] rfl)
    refine lv_icmp_ne (tgt := 76) hx hb dX4_deedClause_68 (by decide) (fun hc31 => ?_) (fun hc31 => ?_)
    · have hf := xif_f hc31 hf
      refine lv_bipush (v := (9 : Int32)) hx hb dX4_deedClause_76 (by decide) ?_
      exact jk16 (9 : Int32) H locs ls  hf hm (lv_sub hl [0, 1, 2] rfl)
    have hf := xif_t hc31 hf
    refine lv_bipush (v := (8 : Int32)) hx hb dX4_deedClause_71 (by decide) ?_
    refine lv_goto (tgt := 78) hx hb dX4_deedClause_73 (by decide) ?_
    exact jk16 (8 : Int32) H locs ls  hf hm (lv_sub hl [0, 1, 2] rfl)
  refine lv_icmp_eq (tgt := 65) hx hb dX4_deedClause_57 (by decide) (fun hc32 => ?_) (fun hc32 => ?_)
  · have hf := xif_t hc32 hf
    exact jk14  H locs ls  hf hm (lv_sub hl [3, 4, 2] rfl)
  have hf := xif_f hc32 hf
  refine lv_iload_n hx hb dX4_deedClause_60 rfl (lv_at hl 4 rfl) ?_
  refine lv_iconst (v := (4 : Int32)) hx hb dX4_deedClause_61 (by decide) ?_
  refine lv_icmp_ne (tgt := 100) hx hb dX4_deedClause_62 (by decide) (fun hc33 => ?_) (fun hc33 => ?_)
  · have hf := xif_f hc33 hf
    exact jk9 (0 : Int32) (0 : Int32) M4 H locs ls  hf hm (lv_sub hl [3, 4, 2, 1, 0] rfl)
  have hf := xif_t hc33 hf
  exact jk14  H locs ls  hf hm (lv_sub hl [3, 4, 2] rfl)
