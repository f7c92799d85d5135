/-! ColouredHeapModel.behindOne()Z -/
theorem dX10_behindOne_0 : decode cX10_behindOne 0 = .ok (.aload_n 0, 1) := by decide +kernel
theorem dX10_behindOne_1 : decode cX10_behindOne 1 = .ok (.invokevirtual 203, 3) := by decide +kernel
theorem dX10_behindOne_4 : decode cX10_behindOne 4 = .ok (.istore_n 1, 1) := by decide +kernel
theorem dX10_behindOne_5 : decode cX10_behindOne 5 = .ok (.iload_n 1, 1) := by decide +kernel
theorem dX10_behindOne_6 : decode cX10_behindOne 6 = .ok (.ifCond .lt 54, 3) := by decide +kernel
theorem dX10_behindOne_9 : decode cX10_behindOne 9 = .ok (.aload_n 0, 1) := by decide +kernel
theorem dX10_behindOne_10 : decode cX10_behindOne 10 = .ok (.iload_n 1, 1) := by decide +kernel
theorem dX10_behindOne_11 : decode cX10_behindOne 11 = .ok (.invokestatic 153, 3) := by decide +kernel
theorem dX10_behindOne_14 : decode cX10_behindOne 14 = .ok (.iconst 4, 1) := by decide +kernel
theorem dX10_behindOne_15 : decode cX10_behindOne 15 = .ok (.if_icmp .ne 7, 3) := by decide +kernel
theorem dX10_behindOne_18 : decode cX10_behindOne 18 = .ok (.iconst 5, 1) := by decide +kernel
theorem dX10_behindOne_19 : decode cX10_behindOne 19 = .ok (.goto 7, 3) := by decide +kernel
theorem dX10_behindOne_22 : decode cX10_behindOne 22 = .ok (.iload_n 1, 1) := by decide +kernel
theorem dX10_behindOne_23 : decode cX10_behindOne 23 = .ok (.invokestatic 153, 3) := by decide +kernel
theorem dX10_behindOne_26 : decode cX10_behindOne 26 = .ok (.invokevirtual 183, 3) := by decide +kernel
theorem dX10_behindOne_29 : decode cX10_behindOne 29 = .ok (.aload_n 0, 1) := by decide +kernel
theorem dX10_behindOne_30 : decode cX10_behindOne 30 = .ok (.getfield 29, 3) := by decide +kernel
theorem dX10_behindOne_33 : decode cX10_behindOne 33 = .ok (.aload_n 0, 1) := by decide +kernel
theorem dX10_behindOne_34 : decode cX10_behindOne 34 = .ok (.getfield 150, 3) := by decide +kernel
theorem dX10_behindOne_37 : decode cX10_behindOne 37 = .ok (.iload_n 1, 1) := by decide +kernel
theorem dX10_behindOne_38 : decode cX10_behindOne 38 = .ok (.iastore, 1) := by decide +kernel
theorem dX10_behindOne_39 : decode cX10_behindOne 39 = .ok (.aload_n 0, 1) := by decide +kernel
theorem dX10_behindOne_40 : decode cX10_behindOne 40 = .ok (.dup, 1) := by decide +kernel
theorem dX10_behindOne_41 : decode cX10_behindOne 41 = .ok (.getfield 150, 3) := by decide +kernel
theorem dX10_behindOne_44 : decode cX10_behindOne 44 = .ok (.iconst 1, 1) := by decide +kernel
theorem dX10_behindOne_45 : decode cX10_behindOne 45 = .ok (.iadd, 1) := by decide +kernel
theorem dX10_behindOne_46 : decode cX10_behindOne 46 = .ok (.putfield 150, 3) := by decide +kernel
theorem dX10_behindOne_49 : decode cX10_behindOne 49 = .ok (.aload_n 0, 1) := by decide +kernel
theorem dX10_behindOne_50 : decode cX10_behindOne 50 = .ok (.iconst 0, 1) := by decide +kernel
theorem dX10_behindOne_51 : decode cX10_behindOne 51 = .ok (.putfield 179, 3) := by decide +kernel
theorem dX10_behindOne_54 : decode cX10_behindOne 54 = .ok (.aload_n 0, 1) := by decide +kernel
theorem dX10_behindOne_55 : decode cX10_behindOne 55 = .ok (.invokevirtual 170, 3) := by decide +kernel
theorem dX10_behindOne_58 : decode cX10_behindOne 58 = .ok (.iconst 1, 1) := by decide +kernel
theorem dX10_behindOne_59 : decode cX10_behindOne 59 = .ok (.ireturn, 1) := by decide +kernel
theorem dX10_behindOne_60 : decode cX10_behindOne 60 = .ok (.aload_n 0, 1) := by decide +kernel
theorem dX10_behindOne_61 : decode cX10_behindOne 61 = .ok (.invokevirtual 167, 3) := by decide +kernel
theorem dX10_behindOne_64 : decode cX10_behindOne 64 = .ok (.istore_n 2, 1) := by decide +kernel
theorem dX10_behindOne_65 : decode cX10_behindOne 65 = .ok (.aload_n 0, 1) := by decide +kernel
theorem dX10_behindOne_66 : decode cX10_behindOne 66 = .ok (.iload_n 2, 1) := by decide +kernel
theorem dX10_behindOne_67 : decode cX10_behindOne 67 = .ok (.invokevirtual 206, 3) := by decide +kernel
theorem dX10_behindOne_70 : decode cX10_behindOne 70 = .ok (.istore_n 3, 1) := by decide +kernel
theorem dX10_behindOne_71 : decode cX10_behindOne 71 = .ok (.iload_n 3, 1) := by decide +kernel
theorem dX10_behindOne_72 : decode cX10_behindOne 72 = .ok (.ifCond .ge 5, 3) := by decide +kernel
theorem dX10_behindOne_75 : decode cX10_behindOne 75 = .ok (.iconst 0, 1) := by decide +kernel
theorem dX10_behindOne_76 : decode cX10_behindOne 76 = .ok (.ireturn, 1) := by decide +kernel
theorem dX10_behindOne_77 : decode cX10_behindOne 77 = .ok (.aload_n 0, 1) := by decide +kernel
theorem dX10_behindOne_78 : decode cX10_behindOne 78 = .ok (.iconst 1, 1) := by decide +kernel
theorem dX10_behindOne_79 : decode cX10_behindOne 79 = .ok (.invokevirtual 183, 3) := by decide +kernel
theorem dX10_behindOne_82 : decode cX10_behindOne 82 = .ok (.aload_n 0, 1) := by decide +kernel
theorem dX10_behindOne_83 : decode cX10_behindOne 83 = .ok (.invokevirtual 170, 3) := by decide +kernel
theorem dX10_behindOne_86 : decode cX10_behindOne 86 = .ok (.iload_n 3, 1) := by decide +kernel
theorem dX10_behindOne_87 : decode cX10_behindOne 87 = .ok (.ifCond .le 20, 3) := by decide +kernel
theorem dX10_behindOne_90 : decode cX10_behindOne 90 = .ok (.aload_n 0, 1) := by decide +kernel
theorem dX10_behindOne_91 : decode cX10_behindOne 91 = .ok (.getfield 29, 3) := by decide +kernel
theorem dX10_behindOne_94 : decode cX10_behindOne 94 = .ok (.aload_n 0, 1) := by decide +kernel
theorem dX10_behindOne_95 : decode cX10_behindOne 95 = .ok (.invokevirtual 163, 3) := by decide +kernel
theorem dX10_behindOne_98 : decode cX10_behindOne 98 = .ok (.iload_n 3, 1) := by decide +kernel
theorem dX10_behindOne_99 : decode cX10_behindOne 99 = .ok (.iastore, 1) := by decide +kernel
theorem dX10_behindOne_100 : decode cX10_behindOne 100 = .ok (.aload_n 0, 1) := by decide +kernel
theorem dX10_behindOne_101 : decode cX10_behindOne 101 = .ok (.iconst 0, 1) := by decide +kernel
theorem dX10_behindOne_102 : decode cX10_behindOne 102 = .ok (.putfield 179, 3) := by decide +kernel
theorem dX10_behindOne_105 : decode cX10_behindOne 105 = .ok (.iconst 1, 1) := by decide +kernel
theorem dX10_behindOne_106 : decode cX10_behindOne 106 = .ok (.ireturn, 1) := by decide +kernel
theorem dX10_behindOne_107 : decode cX10_behindOne 107 = .ok (.aload_n 0, 1) := by decide +kernel
theorem dX10_behindOne_108 : decode cX10_behindOne 108 = .ok (.dup, 1) := by decide +kernel
theorem dX10_behindOne_109 : decode cX10_behindOne 109 = .ok (.getfield 160, 3) := by decide +kernel
theorem dX10_behindOne_112 : decode cX10_behindOne 112 = .ok (.iconst 1, 1) := by decide +kernel
theorem dX10_behindOne_113 : decode cX10_behindOne 113 = .ok (.isub, 1) := by decide +kernel
theorem dX10_behindOne_114 : decode cX10_behindOne 114 = .ok (.putfield 160, 3) := by decide +kernel
theorem dX10_behindOne_117 : decode cX10_behindOne 117 = .ok (.aload_n 0, 1) := by decide +kernel
theorem dX10_behindOne_118 : decode cX10_behindOne 118 = .ok (.dup, 1) := by decide +kernel
theorem dX10_behindOne_119 : decode cX10_behindOne 119 = .ok (.getfield 150, 3) := by decide +kernel
theorem dX10_behindOne_122 : decode cX10_behindOne 122 = .ok (.iconst 1, 1) := by decide +kernel
theorem dX10_behindOne_123 : decode cX10_behindOne 123 = .ok (.isub, 1) := by decide +kernel
theorem dX10_behindOne_124 : decode cX10_behindOne 124 = .ok (.putfield 150, 3) := by decide +kernel
theorem dX10_behindOne_127 : decode cX10_behindOne 127 = .ok (.iload_n 2, 1) := by decide +kernel
theorem dX10_behindOne_128 : decode cX10_behindOne 128 = .ok (.bipush 43, 2) := by decide +kernel
theorem dX10_behindOne_130 : decode cX10_behindOne 130 = .ok (.if_icmp .ne 9, 3) := by decide +kernel
theorem dX10_behindOne_133 : decode cX10_behindOne 133 = .ok (.aload_n 0, 1) := by decide +kernel
theorem dX10_behindOne_134 : decode cX10_behindOne 134 = .ok (.iconst 3, 1) := by decide +kernel
theorem dX10_behindOne_135 : decode cX10_behindOne 135 = .ok (.iconst 0, 1) := by decide +kernel
theorem dX10_behindOne_136 : decode cX10_behindOne 136 = .ok (.invokevirtual 156, 3) := by decide +kernel
theorem dX10_behindOne_139 : decode cX10_behindOne 139 = .ok (.aload_n 0, 1) := by decide +kernel
theorem dX10_behindOne_140 : decode cX10_behindOne 140 = .ok (.bipush 7, 2) := by decide +kernel
theorem dX10_behindOne_142 : decode cX10_behindOne 142 = .ok (.invokevirtual 183, 3) := by decide +kernel
theorem dX10_behindOne_145 : decode cX10_behindOne 145 = .ok (.iconst 1, 1) := by decide +kernel
theorem dX10_behindOne_146 : decode cX10_behindOne 146 = .ok (.ireturn, 1) := by decide +kernel
def f_X10_behindOne (M : xm) (Lm : xn) : Option (Int32 × xm × xn) := xb1 (f_X10_betweenOf M Lm) (fun v2 => (if v2 < 0 then xb1 (f_X10_openNow M) (fun v6 => xb1 (f_X10_partOf M Lm v6) (fun v9 => (if 0 ≤ v9 then xb1 (f_X10_settle M (1 : Int32)) (fun M13 => xb2 (f_X10_nextToken M13 Lm) (fun M16 L17 => (if v9 ≤ 0 then xlet (up2 M16 0 17 ((M16 0 17) - (1 : Int32))) (fun M20 => xlet (up2 M20 0 16 ((M20 0 16) - (1 : Int32))) (fun M21 => xlet (fun (M22 : xm) => xb1 (f_X10_settle M22 (7 : Int32)) (fun M25 => some ((1 : Int32), M25, L17))) (fun k23 => (if v6 = (43 : Int32) then xb1 (f_X10_emit M21 (3 : Int32) (0 : Int32)) (fun M29 => (k23 M29)) else (k23 M21))))) else xb1 (f_X10_openAt M16) (fun v32 => if xin v32 160 = true then xlet (up2 M16 5 (Int32.toNatClampNeg v32) v9) (fun M35 => xlet (up2 M35 0 18 (0 : Int32)) (fun M36 => some ((1 : Int32), M36, L17))) else none)))) else some ((0 : Int32), M, Lm)))) else xlet (fun (w38 : Int32) => xb1 (f_X10_settle M w38) (fun M41 => if xin (M41 0 16) 160 = true then xlet (up2 M41 5 (Int32.toNatClampNeg (M41 0 16)) v2) (fun M44 => xlet (up2 M44 0 16 ((M44 0 16) + (1 : Int32))) (fun M45 => xlet (up2 M45 0 18 (0 : Int32)) (fun M46 => xb2 (f_X10_nextToken M46 Lm) (fun M48 L49 => some ((1 : Int32), M48, L49))))) else none)) (fun k39 => (if (f_X10_rank v2) = (4 : Int32) then (k39 (5 : Int32)) else (k39 (f_X10_rank v2))))))
set_option maxHeartbeats 4000000 in
set_option maxRecDepth 20000 in
theorem c_X10_behindOne (l : Launch) (E : xE) (b : Nat) (M : xm) (Lm : xn) {r : Int32} {M' : xm} {L' : xn} (hf : f_X10_behindOne M Lm = some (r, M', L')) :
    xMet l E b NY yX10_behindOne cX10_behindOne 4 (some .boolean) (xR 5) [.ref (b + 0)] (cY E b M Lm) (some (.int r)) (xbo r = true) (cY E b M' L') := by
  refine xMet.ofW (own := RX10) (by decide) rfl (Nat.le_of_ble_eq_true rfl) ?_
  intro p e s m below meth c H locs ls C hm hl
  have hx := C.1.1
  have hb := C.1.2.1
  have hl : lv_has ls 4 [(0, .ref (b + 0))] := hl
  unfold f_X10_behindOne at hf
  refine lv_aload_n hx hb dX10_behindOne_0 rfl (lv_at hl 0 rfl) ?_
  obtain ⟨v2, hq1, hf⟩ := xb1_e hf
  refine x_callVi (As := []) (rest := []) C hm (c_X10_betweenOf l E b M Lm hq1) rfl cy_0 tc_X10_betweenOf tm_RX10_203 ti_X10_betweenOf ts_X10_betweenOf tn_RX10 td_X10_betweenOf rfl rfl ⟨Nat.le_of_ble_eq_true rfl, Nat.le_of_ble_eq_true rfl⟩ rfl hl.1 rfl (Nat.le_of_ble_eq_true rfl) ⟨Nat.zero_le _, Nat.zero_le _⟩ dX10_behindOne_1 (fun H locs hP3 hm => ?_)
  refine lv_istore_n (lv' := [(1, .int v2), (0, .ref (b + 0))]) hx hb dX10_behindOne_4 rfl hl (by decide) rfl (fun ls hl => ?_)
  refine lv_iload_n hx hb dX10_behindOne_5 rfl (lv_at hl 0 rfl) ?_
  refine lv_if_lt (tgt := 60) hx hb dX10_behindOne_6 (by decide) (fun hc4 => ?_) (fun hc4 => ?_)
  rotate_left
  · have hf := xif_f hc4 hf
    refine lv_aload_n hx hb dX10_behindOne_9 rfl (lv_at hl 1 rfl) ?_
    refine lv_iload_n hx hb dX10_behindOne_10 rfl (lv_at hl 0 rfl) ?_
    refine x_callSi (As := [.int v2]) (rest := [.ref (b + 0)]) C hm (c_X10_rank l E b M Lm v2 rfl) tc_X10_rank tm_RX10_153 tz_X10_rank tn_RX10 td_X10_rank rfl rfl ⟨Nat.le_of_ble_eq_true rfl, Nat.le_of_ble_eq_true rfl⟩ rfl hl.1 rfl (Nat.le_of_ble_eq_true rfl) ⟨Nat.zero_le _, Nat.zero_le _⟩ dX10_behindOne_11 (fun H locs hP37 hm => ?_)
    refine lv_iconst (v := (4 : Int32)) hx hb dX10_behindOne_14 (by decide) ?_
    obtain ⟨k39, ek39, hf⟩ := xlet_x hf
    have jk39 : ∀ (w38 : Int32) (H : Heap) (locs : List Loc) (ls : Array Slot), k39 w38 = some (r, M', L') → xM E b NY (cY E b M Lm) s.heap H locs → lv_has ls 4 [(0, .ref (b + 0)), (1, .int v2)] → W p l e (xR 5) s m ([.ref (b + 0)] : List Value).toArray below meth c H locs 0 0 (MQ below (xQ E b NY (some (.int r)) (xbo r = true) (cY E b M' L')) ([.ref (b + 0)] : List Value).toArray s 0 0 (xA b NY)) (F0 m 26 ls [.int w38, .ref (b + 0)]) := by
      intro w38 H locs ls hf hm hl
      have hf := xap1 ek39 hf
      obtain ⟨M41, hq40, hf⟩ := xb1_e hf
      refine x_callVv (As := [.int w38]) (rest := []) C hm (c_X10_settle l E b M Lm w38 hq40) rfl cy_0 tc_X10_settle tm_RX10_183 ti_X10_settle ts_X10_settle tn_RX10 td_X10_settle rfl rfl ⟨Nat.le_of_ble_eq_true rfl, Nat.le_of_ble_eq_true rfl⟩ rfl hl.1 rfl (Nat.le_of_ble_eq_true rfl) ⟨Nat.zero_le _, Nat.zero_le _⟩ dX10_behindOne_26 (fun H locs hP42 hm => ?_)
      refine lv_aload_n hx hb dX10_behindOne_29 rfl (lv_at hl 0 rfl) ?_
      refine x_get C hm inX10 rfl 15 (by decide) tf_RX10_29 cy_0 rfl dX10_behindOne_30 ?_
      refine lv_aload_n hx hb dX10_behindOne_33 rfl (lv_at hl 0 rfl) ?_
      refine x_get C hm inX10 rfl 16 (by decide) tf_RX10_150 cy_0 rfl dX10_behindOne_34 ?_
      refine lv_iload_n hx hb dX10_behindOne_37 rfl (lv_at hl 1 rfl) ?_
      obtain ⟨hi43, hf⟩ := xif_s hf
      obtain ⟨M44, eM44, hf⟩ := xlet_x hf
      refine x_iast (j := (Int32.toNatClampNeg (M41 0 16))) (cf' := cY E b M44 Lm) C hm cy_5 hi43 dX10_behindOne_38 rfl (by rw [eM44]; exact cyu_5) (by rw [eM44]; exact cY_o) (fun H locs hm => ?_)
      refine lv_aload_n hx hb dX10_behindOne_39 rfl (lv_at hl 0 rfl) ?_
      refine lv_dup hx hb dX10_behindOne_40 rfl ?_
      refine x_get C hm inX10 rfl 16 (by decide) tf_RX10_150 cy_0 rfl dX10_behindOne_41 ?_
      refine lv_iconst (v := (1 : Int32)) hx hb dX10_behindOne_44 (by decide) ?_
      refine lv_iadd hx hb dX10_behindOne_45 ?_
      obtain ⟨M45, eM45, hf⟩ := xlet_x hf
      refine x_put (cf' := cY E b M45 Lm) C hm inX10 tyX10 tyX10_ok nmX10 rfl 16 (by decide) tf_RX10_150 rfl rfl rfl cy_0 (Nat.le_of_ble_eq_true rfl) (by rw [eM45]; exact cyf_16) (by rw [eM45]; exact cY_o) dX10_behindOne_46 (fun H locs hm => ?_)
      refine lv_aload_n hx hb dX10_behindOne_49 rfl (lv_at hl 0 rfl) ?_
      refine lv_iconst (v := (0 : Int32)) hx hb dX10_behindOne_50 (by decide) ?_
      obtain ⟨M46, eM46, hf⟩ := xlet_x hf
      refine x_put (cf' := cY E b M46 Lm) C hm inX10 tyX10 tyX10_ok nmX10 rfl 18 (by decide) tf_RX10_179 rfl (xbo_n (by decide)) rfl cy_0 (Nat.le_of_ble_eq_true rfl) (by rw [eM46]; exact cyf_18) (by rw [eM46]; exact cY_o) dX10_behindOne_51 (fun H locs hm => ?_)
      refine lv_aload_n hx hb dX10_behindOne_54 rfl (lv_at hl 0 rfl) ?_
      obtain ⟨M48, L49, hq47, hf⟩ := xb2_e hf
      refine x_callVv (As := []) (rest := []) C hm (c_X10_nextToken l E b M46 Lm hq47) rfl cy_0 tc_X10_nextToken tm_RX10_170 ti_X10_nextToken ts_X10_nextToken tn_RX10 td_X10_nextToken rfl rfl ⟨Nat.le_of_ble_eq_true rfl, Nat.le_of_ble_eq_true rfl⟩ rfl hl.1 rfl (Nat.le_of_ble_eq_true rfl) ⟨Nat.zero_le _, Nat.zero_le _⟩ dX10_behindOne_55 (fun H locs hP50 hm => ?_)
      refine lv_iconst (v := (1 : Int32)) hx hb dX10_behindOne_58 (by decide) ?_
      cases hf
      exact x_zret C hm (by decide) (by decide) dX10_behindOne_59
    refine lv_icmp_ne (tgt := 22) hx hb dX10_behindOne_15 (by decide) (fun hc51 => ?_) (fun hc51 => ?_)
    · have hf := xif_f hc51 hf
      refine lv_iload_n hx hb dX10_behindOne_22 rfl (lv_at hl 0 rfl) ?_
      refine x_callSi (As := [.int v2]) (rest := [.ref (b + 0)]) C hm (c_X10_rank l E b M Lm v2 rfl) tc_X10_rank tm_RX10_153 tz_X10_rank tn_RX10 td_X10_rank rfl rfl ⟨Nat.le_of_ble_eq_true rfl, Nat.le_of_ble_eq_true rfl⟩ rfl hl.1 rfl (Nat.le_of_ble_eq_true rfl) ⟨Nat.zero_le _, Nat.zero_le _⟩ dX10_behindOne_23 (fun H locs hP52 hm => ?_)
      exact jk39 (f_X10_rank v2) H locs ls  hf hm (lv_sub hl [1, 0] rfl)
    have hf := xif_t hc51 hf
    refine lv_iconst (v := (5 : Int32)) hx hb dX10_behindOne_18 (by decide) ?_
    refine lv_goto (tgt := 26) hx hb dX10_behindOne_19 (by decide) ?_
    exact jk39 (5 : Int32) H locs ls  hf hm (lv_sub hl [1, 0] rfl)
  have hf := xif_t hc4 hf
  refine lv_aload_n hx hb dX10_behindOne_60 rfl (lv_at hl 1 rfl) ?_
  obtain ⟨v6, hq5, hf⟩ := xb1_e hf
  refine x_callVi (As := []) (rest := []) C hm (c_X10_openNow l E b M Lm hq5) rfl cy_0 tc_X10_openNow tm_RX10_167 ti_X10_openNow ts_X10_openNow tn_RX10 td_X10_openNow rfl rfl ⟨Nat.le_of_ble_eq_true rfl, Nat.le_of_ble_eq_true rfl⟩ rfl hl.1 rfl (Nat.le_of_ble_eq_true rfl) ⟨Nat.zero_le _, Nat.zero_le _⟩ dX10_behindOne_61 (fun H locs hP7 hm => ?_)
  refine lv_istore_n (lv' := [(2, .int v6), (1, .int v2), (0, .ref (b + 0))]) hx hb dX10_behindOne_64 rfl hl (by decide) rfl (fun ls hl => ?_)
  refine lv_aload_n hx hb dX10_behindOne_65 rfl (lv_at hl 2 rfl) ?_
  refine lv_iload_n hx hb dX10_behindOne_66 rfl (lv_at hl 0 rfl) ?_
  obtain ⟨v9, hq8, hf⟩ := xb1_e hf
  refine x_callVi (As := [.int v6]) (rest := []) C hm (c_X10_partOf l E b M Lm v6 hq8) rfl cy_0 tc_X10_partOf tm_RX10_206 ti_X10_partOf ts_X10_partOf tn_RX10 td_X10_partOf rfl rfl ⟨Nat.le_of_ble_eq_true rfl, Nat.le_of_ble_eq_true rfl⟩ rfl hl.1 rfl (Nat.le_of_ble_eq_true rfl) ⟨Nat.zero_le _, Nat.zero_le _⟩ dX10_behindOne_67 (fun H locs hP10 hm => ?_)
  refine lv_istore_n (lv' := [(3, .int v9), (2, .int v6), (1, .int v2), (0, .ref (b + 0))]) hx hb dX10_behindOne_70 rfl hl (by decide) rfl (fun ls hl => ?_)
  refine lv_iload_n hx hb dX10_behindOne_71 rfl (lv_at hl 0 rfl) ?_
  refine lv_if_ge (tgt := 77) hx hb dX10_behindOne_72 (by decide) (fun hc11 => ?_) (fun hc11 => ?_)
  rotate_left
  · have hf := xif_f hc11 hf
    refine lv_iconst (v := (0 : Int32)) hx hb dX10_behindOne_75 (by decide) ?_
    cases hf
    exact x_zret C hm (by decide) (by decide) dX10_behindOne_76
  have hf := xif_t hc11 hf
  refine lv_aload_n hx hb dX10_behindOne_77 rfl (lv_at hl 3 rfl) ?_
  refine lv_iconst (v := (1 : Int32)) hx hb dX10_behindOne_78 (by decide) ?_
  obtain ⟨M13, hq12, hf⟩ := xb1_e hf
  refine x_callVv (As := [.int (1 : Int32)]) (rest := []) C hm (c_X10_settle l E b M Lm (1 : Int32) hq12) rfl cy_0 tc_X10_settle tm_RX10_183 ti_X10_settle ts_X10_settle tn_RX10 td_X10_settle rfl rfl ⟨Nat.le_of_ble_eq_true rfl, Nat.le_of_ble_eq_true rfl⟩ rfl hl.1 rfl (Nat.le_of_ble_eq_true rfl) ⟨Nat.zero_le _, Nat.zero_le _⟩ dX10_behindOne_79 (fun H locs hP14 hm => ?_)
  refine lv_aload_n hx hb dX10_behindOne_82 rfl (lv_at hl 3 rfl) ?_
  obtain ⟨M16, L17, hq15, hf⟩ := xb2_e hf
  refine x_callVv (As := []) (rest := []) C hm (c_X10_nextToken l E b M13 Lm hq15) rfl cy_0 tc_X10_nextToken tm_RX10_170 ti_X10_nextToken ts_X10_nextToken tn_RX10 td_X10_nextToken rfl rfl ⟨Nat.le_of_ble_eq_true rfl, Nat.le_of_ble_eq_true rfl⟩ rfl hl.1 rfl (Nat.le_of_ble_eq_true rfl) ⟨Nat.zero_le _, Nat.zero_le _⟩ dX10_behindOne_83 (fun H locs hP18 hm => ?_)
  refine lv_iload_n hx hb dX10_behindOne_86 rfl (lv_at hl 0 rfl) ?_
  refine lv_if_le (tgt := 107) hx hb dX10_behindOne_87 (by decide) (fun hc19 => ?_) (fun hc19 => ?_)
  rotate_left
  · have hf := xif_f hc19 hf
    refine lv_aload_n hx hb dX10_behindOne_90 rfl (lv_at hl 3 rfl) ?_
    refine x_get C hm inX10 rfl 15 (by decide) tf_RX10_29 cy_0 rfl dX10_behindOne_91 ?_
    refine lv_aload_n hx hb dX10_behindOne_94 rfl (lv_at hl 3 rfl) ?_
    obtain ⟨v32, hq31, hf⟩ := xb1_e hf
    refine x_callVi (As := []) (rest := [.ref (b + 5)]) C hm (c_X10_openAt l E b M16 L17 hq31) rfl cy_0 tc_X10_openAt tm_RX10_163 ti_X10_openAt ts_X10_openAt tn_RX10 td_X10_openAt rfl rfl ⟨Nat.le_of_ble_eq_true rfl, Nat.le_of_ble_eq_true rfl⟩ rfl hl.1 rfl (Nat.le_of_ble_eq_true rfl) ⟨Nat.zero_le _, Nat.zero_le _⟩ dX10_behindOne_95 (fun H locs hP33 hm => ?_)
    refine lv_iload_n hx hb dX10_behindOne_98 rfl (lv_at hl 0 rfl) ?_
    obtain ⟨hi34, hf⟩ := xif_s hf
    obtain ⟨M35, eM35, hf⟩ := xlet_x hf
    refine x_iast (j := (Int32.toNatClampNeg v32)) (cf' := cY E b M35 L17) C hm cy_5 hi34 dX10_behindOne_99 rfl (by rw [eM35]; exact cyu_5) (by rw [eM35]; exact cY_o) (fun H locs hm => ?_)
    refine lv_aload_n hx hb dX10_behindOne_100 rfl (lv_at hl 3 rfl) ?_
    refine lv_iconst (v := (0 : Int32)) hx hb dX10_behindOne_101 (by decide) ?_
    obtain ⟨M36, eM36, hf⟩ := xlet_x hf
    refine x_put (cf' := cY E b M36 L17) C hm inX10 tyX10 tyX10_ok nmX10 rfl 18 (by decide) tf_RX10_179 rfl (xbo_n (by decide)) rfl cy_0 (Nat.le_of_ble_eq_true rfl) (by rw [eM36]; exact cyf_18) (by rw [eM36]; exact cY_o) dX10_behindOne_102 (fun H locs hm => ?_)
    refine lv_iconst (v := (1 : Int32)) hx hb dX10_behindOne_105 (by decide) ?_
    cases hf
    exact x_zret C hm (by decide) (by decide) dX10_behindOne_106
  have hf := xif_t hc19 hf
  refine lv_aload_n hx hb dX10_behindOne_107 rfl (lv_at hl 3 rfl) ?_
  refine lv_dup hx hb dX10_behindOne_108 rfl ?_
  refine x_get C hm inX10 rfl 17 (by decide) tf_RX10_160 cy_0 rfl dX10_behindOne_109 ?_
  refine lv_iconst (v := (1 : Int32)) hx hb dX10_behindOne_112 (by decide) ?_
  refine lv_isub hx hb dX10_behindOne_113 ?_
  obtain ⟨M20, eM20, hf⟩ := xlet_x hf
  refine x_put (cf' := cY E b M20 L17) C hm inX10 tyX10 tyX10_ok nmX10 rfl 17 (by decide) tf_RX10_160 rfl rfl rfl cy_0 (Nat.le_of_ble_eq_true rfl) (by rw [eM20]; exact cyf_17) (by rw [eM20]; exact cY_o) dX10_behindOne_114 (fun H locs hm => ?_)
  refine lv_aload_n hx hb dX10_behindOne_117 rfl (lv_at hl 3 rfl) ?_
  refine lv_dup hx hb dX10_behindOne_118 rfl ?_
  refine x_get C hm inX10 rfl 16 (by decide) tf_RX10_150 cy_0 rfl dX10_behindOne_119 ?_
  refine lv_iconst (v := (1 : Int32)) hx hb dX10_behindOne_122 (by decide) ?_
  refine lv_isub hx hb dX10_behindOne_123 ?_
  obtain ⟨M21, eM21, hf⟩ := xlet_x hf
  refine x_put (cf' := cY E b M21 L17) C hm inX10 tyX10 tyX10_ok nmX10 rfl 16 (by decide) tf_RX10_150 rfl rfl rfl cy_0 (Nat.le_of_ble_eq_true rfl) (by rw [eM21]; exact cyf_16) (by rw [eM21]; exact cY_o) dX10_behindOne_124 (fun H locs hm => ?_)
  refine lv_iload_n hx hb dX10_behindOne_127 rfl (lv_at hl 1 rfl) ?_
  refine lv_bipush (v := (43 : Int32)) hx hb dX10_behindOne_128 (by decide) ?_
  obtain ⟨k23, ek23, hf⟩ := xlet_x hf
  have jk23 : ∀ (M22 : xm) (H : Heap) (locs : List Loc) (ls : Array Slot), k23 M22 = some (r, M', L') → xM E b NY (cY E b M22 L17) s.heap H locs → lv_has ls 4 [(0, .ref (b + 0))] → W p l e (xR 5) s m ([.ref (b + 0)] : List Value).toArray below meth c H locs 0 0 (MQ below (xQ E b NY (some (.int r)) (xbo r = true) (cY E b M' L')) ([.ref (b + 0)] : List Value).toArray s 0 0 (xA b NY)) (F0 m 139 ls []) := by
    intro M22 H locs ls hf hm hl
    have hf := xap1 ek23 hf
    refine lv_aload_n hx hb dX10_behindOne_139 rfl (lv_at hl 0 rfl) ?_
    refine lv_bipush (v := (7 : Int32)) hx hb dX10_behindOne_140 (by decide) ?_
    obtain ⟨M25, hq24, hf⟩ := xb1_e hf
    refine x_callVv (As := [.int (7 : Int32)]) (rest := []) C hm (c_X10_settle l E b M22 L17 (7 : Int32) hq24) rfl cy_0 tc_X10_settle tm_RX10_183 ti_X10_settle ts_X10_settle tn_RX10 td_X10_settle rfl rfl ⟨Nat.le_of_ble_eq_true rfl, Nat.le_of_ble_eq_true rfl⟩ rfl hl.1 rfl (Nat.le_of_ble_eq_true rfl) ⟨Nat.zero_le _, Nat.zero_le _⟩ dX10_behindOne_142 (fun H locs hP26 hm => ?_)
    refine lv_iconst (v := (1 : Int32)) hx hb dX10_behindOne_145 (by decide) ?_
    cases hf
    exact x_zret C hm (by decide) (by decide) dX10_behindOne_146
  refine lv_icmp_ne (tgt := 139) hx hb dX10_behindOne_130 (by decide) (fun hc27 => ?_) (fun hc27 => ?_)
  · have hf := xif_f hc27 hf
    exact jk23 M21 H locs ls  hf hm (lv_sub hl [3] rfl)
  have hf := xif_t hc27 hf
  refine lv_aload_n hx hb dX10_behindOne_133 rfl (lv_at hl 3 rfl) ?_
  refine lv_iconst (v := (3 : Int32)) hx hb dX10_behindOne_134 (by decide) ?_
  refine lv_iconst (v := (0 : Int32)) hx hb dX10_behindOne_135 (by decide) ?_
  obtain ⟨M29, hq28, hf⟩ := xb1_e hf
  refine x_callVv (As := [.int (3 : Int32), .int (0 : Int32)]) (rest := []) C hm (c_X10_emit l E b M21 L17 (3 : Int32) (0 : Int32) hq28) rfl cy_0 tc_X10_emit tm_RX10_156 ti_X10_emit ts_X10_emit tn_RX10 td_X10_emit rfl rfl ⟨Nat.le_of_ble_eq_true rfl, Nat.le_of_ble_eq_true rfl⟩ rfl hl.1 rfl (Nat.le_of_ble_eq_true rfl) ⟨Nat.zero_le _, Nat.zero_le _⟩ dX10_behindOne_136 (fun H locs hP30 hm => ?_)
  exact jk23 M29 H locs ls  hf hm (lv_sub hl [3] rfl)
/-! ColouredHeapModel.figure(III)I -/
theorem dX10_figure_0 : decode cX10_figure 0 = .ok (.aload_n 0, 1) := by decide +kernel
theorem dX10_figure_1 : decode cX10_figure 1 = .ok (.getfield 99, 3) := by decide +kernel
theorem dX10_figure_4 : decode cX10_figure 4 = .ok (.iconst 1, 1) := by decide +kernel
theorem dX10_figure_5 : decode cX10_figure 5 = .ok (.if_icmp .eq 5, 3) := by decide +kernel
theorem dX10_figure_8 : decode cX10_figure 8 = .ok (.iconst 1, 1) := by decide +kernel
theorem dX10_figure_9 : decode cX10_figure 9 = .ok (.ireturn, 1) := by decide +kernel
theorem dX10_figure_10 : decode cX10_figure 10 = .ok (.aload_n 0, 1) := by decide +kernel
theorem dX10_figure_11 : decode cX10_figure 11 = .ok (.getfield 105, 3) := by decide +kernel
theorem dX10_figure_14 : decode cX10_figure 14 = .ok (.iload_n 2, 1) := by decide +kernel
theorem dX10_figure_15 : decode cX10_figure 15 = .ok (.iload_n 3, 1) := by decide +kernel
theorem dX10_figure_16 : decode cX10_figure 16 = .ok (.invokestatic 59, 3) := by decide +kernel
theorem dX10_figure_19 : decode cX10_figure 19 = .ok (.ifCond .ne 5, 3) := by decide +kernel
theorem dX10_figure_22 : decode cX10_figure 22 = .ok (.iconst 2, 1) := by decide +kernel
theorem dX10_figure_23 : decode cX10_figure 23 = .ok (.ireturn, 1) := by decide +kernel
theorem dX10_figure_24 : decode cX10_figure 24 = .ok (.aload_n 0, 1) := by decide +kernel
theorem dX10_figure_25 : decode cX10_figure 25 = .ok (.getfield 16, 3) := by decide +kernel
theorem dX10_figure_28 : decode cX10_figure 28 = .ok (.iload_n 1, 1) := by decide +kernel
theorem dX10_figure_29 : decode cX10_figure 29 = .ok (.aload_n 0, 1) := by decide +kernel
theorem dX10_figure_30 : decode cX10_figure 30 = .ok (.getfield 105, 3) := by decide +kernel
theorem dX10_figure_33 : decode cX10_figure 33 = .ok (.iastore, 1) := by decide +kernel
theorem dX10_figure_34 : decode cX10_figure 34 = .ok (.aload_n 0, 1) := by decide +kernel
theorem dX10_figure_35 : decode cX10_figure 35 = .ok (.invokevirtual 170, 3) := by decide +kernel
theorem dX10_figure_38 : decode cX10_figure 38 = .ok (.iconst 0, 1) := by decide +kernel
theorem dX10_figure_39 : decode cX10_figure 39 = .ok (.ireturn, 1) := by decide +kernel
def f_X10_figure (M : xm) (Lm : xn) (a1 : Int32) (a2 : Int32) (a3 : Int32) : Option (Int32 × xm × xn) := (if (M 0 9) = (1 : Int32) then (if (f_X10_isIn (M 0 10) a2 a3) = 0 then some ((2 : Int32), M, Lm) else if xin a1 2820 = true then xlet (up2 M 3 (Int32.toNatClampNeg a1) (M 0 10)) (fun M5 => xb2 (f_X10_nextToken M5 Lm) (fun M7 L8 => some ((0 : Int32), M7, L8))) else none) else some ((1 : Int32), M, Lm))
set_option maxHeartbeats 4000000 in
set_option maxRecDepth 20000 in
theorem c_X10_figure (l : Launch) (E : xE) (b : Nat) (M : xm) (Lm : xn) (a1 : Int32) (a2 : Int32) (a3 : Int32) {r : Int32} {M' : xm} {L' : xn} (hf : f_X10_figure M Lm a1 a2 a3 = some (r, M', L')) :
    xMet l E b NY yX10_figure cX10_figure 4 (some .int) (xR 3) [.ref (b + 0), .int a1, .int a2, .int a3] (cY E b M Lm) (some (.int r)) True (cY E b M' L') := by
  refine xMet.ofW (own := RX10) (by decide) rfl (Nat.le_of_ble_eq_true rfl) ?_
  intro p e s m below meth c H locs ls C hm hl
  have hx := C.1.1
  have hb := C.1.2.1
  have hl : lv_has ls 4 [(0, .ref (b + 0)), (1, .int a1), (2, .int a2), (3, .int a3)] := hl
  unfold f_X10_figure at hf
  refine lv_aload_n hx hb dX10_figure_0 rfl (lv_at hl 0 rfl) ?_
  refine x_get C hm inX10 rfl 9 (by decide) tf_RX10_99 cy_0 rfl dX10_figure_1 ?_
  refine lv_iconst (v := (1 : Int32)) hx hb dX10_figure_4 (by decide) ?_
  refine lv_icmp_eq (tgt := 10) hx hb dX10_figure_5 (by decide) (fun hc1 => ?_) (fun hc1 => ?_)
  rotate_left
  · have hf := xif_f hc1 hf
    refine lv_iconst (v := (1 : Int32)) hx hb dX10_figure_8 (by decide) ?_
    cases hf
    exact x_iret C hm trivial dX10_figure_9
  have hf := xif_t hc1 hf
  refine lv_aload_n hx hb dX10_figure_10 rfl (lv_at hl 0 rfl) ?_
  refine x_get C hm inX10 rfl 10 (by decide) tf_RX10_105 cy_0 rfl dX10_figure_11 ?_
  refine lv_iload_n hx hb dX10_figure_14 rfl (lv_at hl 2 rfl) ?_
  refine lv_iload_n hx hb dX10_figure_15 rfl (lv_at hl 3 rfl) ?_
  refine x_callSi (As := [.int (M 0 10), .int a2, .int a3]) (rest := []) C hm (c_X10_isIn l E b M Lm (M 0 10) a2 a3 rfl) tc_X10_isIn tm_RX10_59 tz_X10_isIn tn_RX10 td_X10_isIn rfl rfl ⟨Nat.le_of_ble_eq_true rfl, Nat.le_of_ble_eq_true rfl⟩ rfl hl.1 rfl (Nat.le_of_ble_eq_true rfl) ⟨Nat.zero_le _, Nat.zero_le _⟩ dX10_figure_16 (fun H locs hP2 hm => ?_)
  refine lv_if_ne (tgt := 24) hx hb dX10_figure_19 (by decide) (fun hc3 => ?_) (fun hc3 => ?_)
  rotate_left
  · have hf := xif_t hc3 hf
    refine lv_iconst (v := (2 : Int32)) hx hb dX10_figure_22 (by decide) ?_
    cases hf
    exact x_iret C hm trivial dX10_figure_23
  have hf := xif_f hc3 hf
  refine lv_aload_n hx hb dX10_figure_24 rfl (lv_at hl 0 rfl) ?_
  refine x_get C hm inX10 rfl 2 (by decide) tf_RX10_16 cy_0 rfl dX10_figure_25 ?_
  refine lv_iload_n hx hb dX10_figure_28 rfl (lv_at hl 1 rfl) ?_
  refine lv_aload_n hx hb dX10_figure_29 rfl (lv_at hl 0 rfl) ?_
  refine x_get C hm inX10 rfl 10 (by decide) tf_RX10_105 cy_0 rfl dX10_figure_30 ?_
  obtain ⟨hi4, hf⟩ := xif_s hf
  obtain ⟨M5, eM5, hf⟩ := xlet_x hf
  refine x_iast (j := (Int32.toNatClampNeg a1)) (cf' := cY E b M5 Lm) C hm cy_3 hi4 dX10_figure_33 rfl (by rw [eM5]; exact cyu_3) (by rw [eM5]; exact cY_o) (fun H locs hm => ?_)
  refine lv_aload_n hx hb dX10_figure_34 rfl (lv_at hl 0 rfl) ?_
  obtain ⟨M7, L8, hq6, hf⟩ := xb2_e hf
  refine x_callVv (As := []) (rest := []) C hm (c_X10_nextToken l E b M5 Lm hq6) rfl cy_0 tc_X10_nextToken tm_RX10_170 ti_X10_nextToken ts_X10_nextToken tn_RX10 td_X10_nextToken rfl rfl ⟨Nat.le_of_ble_eq_true rfl, Nat.le_of_ble_eq_true rfl⟩ rfl hl.1 rfl (Nat.le_of_ble_eq_true rfl) ⟨Nat.zero_le _, Nat.zero_le _⟩ dX10_figure_35 (fun H locs hP9 hm => ?_)
  refine lv_iconst (v := (0 : Int32)) hx hb dX10_figure_38 (by decide) ?_
  cases hf
  exact x_iret C hm trivial dX10_figure_39
/-! ColouredHeapModel.summed()I -/
theorem dX10_summed_0 : decode cX10_summed 0 = .ok (.aload_n 0, 1) := by decide +kernel
theorem dX10_summed_1 : decode cX10_summed 1 = .ok (.iconst 0, 1) := by decide +kernel
theorem dX10_summed_2 : decode cX10_summed 2 = .ok (.putfield 150, 3) := by decide +kernel
theorem dX10_summed_5 : decode cX10_summed 5 = .ok (.aload_n 0, 1) := by decide +kernel
theorem dX10_summed_6 : decode cX10_summed 6 = .ok (.iconst 0, 1) := by decide +kernel
theorem dX10_summed_7 : decode cX10_summed 7 = .ok (.putfield 160, 3) := by decide +kernel
theorem dX10_summed_10 : decode cX10_summed 10 = .ok (.aload_n 0, 1) := by decide +kernel
theorem dX10_summed_11 : decode cX10_summed 11 = .ok (.iconst 0, 1) := by decide +kernel
theorem dX10_summed_12 : decode cX10_summed 12 = .ok (.putfield 179, 3) := by decide +kernel
theorem dX10_summed_15 : decode cX10_summed 15 = .ok (.aload_n 0, 1) := by decide +kernel
theorem dX10_summed_16 : decode cX10_summed 16 = .ok (.getfield 179, 3) := by decide +kernel
theorem dX10_summed_19 : decode cX10_summed 19 = .ok (.ifCond .eq 29, 3) := by decide +kernel
theorem dX10_summed_22 : decode cX10_summed 22 = .ok (.aload_n 0, 1) := by decide +kernel
theorem dX10_summed_23 : decode cX10_summed 23 = .ok (.invokevirtual 209, 3) := by decide +kernel
theorem dX10_summed_26 : decode cX10_summed 26 = .ok (.ifCond .eq 6, 3) := by decide +kernel
theorem dX10_summed_29 : decode cX10_summed 29 = .ok (.goto (-14), 3) := by decide +kernel
theorem dX10_summed_32 : decode cX10_summed 32 = .ok (.aload_n 0, 1) := by decide +kernel
theorem dX10_summed_33 : decode cX10_summed 33 = .ok (.invokevirtual 167, 3) := by decide +kernel
theorem dX10_summed_36 : decode cX10_summed 36 = .ok (.ifCond .lt 5, 3) := by decide +kernel
theorem dX10_summed_39 : decode cX10_summed 39 = .ok (.iconst 1, 1) := by decide +kernel
theorem dX10_summed_40 : decode cX10_summed 40 = .ok (.ireturn, 1) := by decide +kernel
theorem dX10_summed_41 : decode cX10_summed 41 = .ok (.aload_n 0, 1) := by decide +kernel
theorem dX10_summed_42 : decode cX10_summed 42 = .ok (.iconst 1, 1) := by decide +kernel
theorem dX10_summed_43 : decode cX10_summed 43 = .ok (.invokevirtual 183, 3) := by decide +kernel
theorem dX10_summed_46 : decode cX10_summed 46 = .ok (.iconst 0, 1) := by decide +kernel
theorem dX10_summed_47 : decode cX10_summed 47 = .ok (.ireturn, 1) := by decide +kernel
theorem dX10_summed_48 : decode cX10_summed 48 = .ok (.aload_n 0, 1) := by decide +kernel
theorem dX10_summed_49 : decode cX10_summed 49 = .ok (.invokevirtual 212, 3) := by decide +kernel
theorem dX10_summed_52 : decode cX10_summed 52 = .ok (.istore_n 1, 1) := by decide +kernel
theorem dX10_summed_53 : decode cX10_summed 53 = .ok (.iload_n 1, 1) := by decide +kernel
theorem dX10_summed_54 : decode cX10_summed 54 = .ok (.ifCond .eq 5, 3) := by decide +kernel
theorem dX10_summed_57 : decode cX10_summed 57 = .ok (.iload_n 1, 1) := by decide +kernel
theorem dX10_summed_58 : decode cX10_summed 58 = .ok (.ireturn, 1) := by decide +kernel
theorem dX10_summed_59 : decode cX10_summed 59 = .ok (.goto (-44), 3) := by decide +kernel
def g_X10_summed_15  : Nat → xm → xn → Option ((xm × xn) ⊕ (Int32 × xm × xn))
  | 0, _, _ => none
  | n + 1, M4, L5 => (if (M4 0 18) = 0 then xb3 (f_X10_beginOne M4 L5) (fun v8 M9 L10 => (if v8 = 0 then g_X10_summed_15 n M9 L10 else some (Sum.inr (v8, M9, L10)))) else xb3 (f_X10_behindOne M4 L5) (fun v14 M15 L16 => (if v14 = 0 then some (Sum.inl (M15, L16)) else g_X10_summed_15 n M15 L16)))
def f_X10_summed (M : xm) (Lm : xn) : Option (Int32 × xm × xn) := xlet (up2 M 0 16 (0 : Int32)) (fun M1 => xlet (up2 M1 0 17 (0 : Int32)) (fun M2 => xlet (up2 M2 0 18 (0 : Int32)) (fun M3 => xs2 (g_X10_summed_15 xfuel M3 Lm) (fun q19 => xb1 (f_X10_openNow (q19.1)) (fun v21 => (if v21 < 0 then xb1 (f_X10_settle (q19.1) (1 : Int32)) (fun M25 => some ((0 : Int32), M25, q19.2)) else some ((1 : Int32), (q19.1), q19.2)))) (fun q19 => some (q19.1, (q19.2.1), q19.2.2)))))
set_option maxHeartbeats 4000000 in
set_option maxRecDepth 20000 in
theorem j_X10_summed_15 {p : Program} {l : Launch} {e : Env} {s : State} {m : MethodId} {args : Array Value} {below : List Frame} {meth : Method} {c : Code} {Q : State → Prop} {E : xE} {b : Nat} (C : xC p s m args meth c cX10_summed 2 RX10 (some .int) E b)  {r : (xm × xn) ⊕ (Int32 × xm × xn)}
    (kx0 : ∀ q : xm × xn, r = Sum.inl q → ∀ (H : Heap) (locs : List Loc) (ls : Array Slot), xM E b NY (cY E b q.1 q.2) s.heap H locs → lv_has ls 2 [(0, .ref (b + 0))] → W p l e (xR 8) s m args below meth c H locs 0 0 Q (F0 m 32 ls []))
    (kx1 : ∀ q : Int32 × xm × xn, r = Sum.inr q → ∀ (H : Heap) (locs : List Loc) (ls : Array Slot), xM E b NY (cY E b q.2.1 q.2.2) s.heap H locs → lv_has ls 2 [(1, .int q.1)] → W p l e (xR 8) s m args below meth c H locs 0 0 Q (F0 m 57 ls [])) :
    ∀ (n : Nat) (M4 : xm) (L5 : xn) (H : Heap) (locs : List Loc) (ls : Array Slot), g_X10_summed_15 n M4 L5 = some r → xM E b NY (cY E b M4 L5) s.heap H locs → lv_has ls 2 [(0, .ref (b + 0))] → W p l e (xR 8) s m args below meth c H locs 0 0 Q (F0 m 15 ls []) := by
  have hx := C.1.1
  have hb := C.1.2.1
  intro n
  induction n with
  | zero =>
    intro M4 L5 H locs ls hf hm hl
    rw [g_X10_summed_15] at hf
    cases hf
  | succ n ih =>
    intro M4 L5 H locs ls hf hm hl
    rw [g_X10_summed_15] at hf
    refine lv_aload_n hx hb dX10_summed_15 rfl (lv_at hl 0 rfl) ?_
    refine x_get C hm inX10 rfl 18 (by decide) tf_RX10_179 cy_0 rfl dX10_summed_16 ?_
    refine lv_if_eq (tgt := 48) hx hb dX10_summed_19 (by decide) (fun hc6 => ?_) (fun hc6 => ?_)
    rotate_left
    · have hf := xif_f hc6 hf
      refine lv_aload_n hx hb dX10_summed_22 rfl (lv_at hl 0 rfl) ?_
      obtain ⟨v14, M15, L16, hq13, hf⟩ := xb3_e hf
      refine x_callVi (As := []) (rest := []) C hm (c_X10_behindOne l E b M4 L5 hq13) rfl cy_0 tc_X10_behindOne tm_RX10_209 ti_X10_behindOne ts_X10_behindOne tn_RX10 td_X10_behindOne rfl rfl ⟨Nat.le_of_ble_eq_true rfl, Nat.le_of_ble_eq_true rfl⟩ rfl hl.1 rfl (Nat.le_of_ble_eq_true rfl) ⟨Nat.zero_le _, Nat.zero_le _⟩ dX10_summed_23 (fun H locs hP17 hm => ?_)
      refine lv_if_eq (tgt := 32) hx hb dX10_summed_26 (by decide) (fun hc18 => ?_) (fun hc18 => ?_)
      · have hf := xif_t hc18 hf
        cases hf
        exact kx0 (M15, L16) rfl H locs ls hm (lv_sub hl [0] rfl)
      have hf := xif_f hc18 hf
      refine lv_goto (tgt := 15) hx hb dX10_summed_29 (by decide) ?_
      exact ih M15 L16 H locs ls hf hm (lv_sub hl [0] rfl)
    have hf := xif_t hc6 hf
    refine lv_aload_n hx hb dX10_summed_48 rfl (lv_at hl 0 rfl) ?_
    obtain ⟨v8, M9, L10, hq7, hf⟩ := xb3_e hf
    refine x_callVi (As := []) (rest := []) C hm (c_X10_beginOne l E b M4 L5 hq7) rfl cy_0 tc_X10_beginOne tm_RX10_212 ti_X10_beginOne ts_X10_beginOne tn_RX10 td_X10_beginOne rfl rfl ⟨Nat.le_of_ble_eq_true rfl, Nat.le_of_ble_eq_true rfl⟩ rfl hl.1 rfl (Nat.le_of_ble_eq_true rfl) ⟨Nat.zero_le _, Nat.zero_le _⟩ dX10_summed_49 (fun H locs hP11 hm => ?_)
    refine lv_istore_n (lv' := [(1, .int v8), (0, .ref (b + 0))]) hx hb dX10_summed_52 rfl hl (by decide) rfl (fun ls hl => ?_)
    refine lv_iload_n hx hb dX10_summed_53 rfl (lv_at hl 0 rfl) ?_
    refine lv_if_eq (tgt := 59) hx hb dX10_summed_54 (by decide) (fun hc12 => ?_) (fun hc12 => ?_)
    · have hf := xif_t hc12 hf
      refine lv_goto (tgt := 15) hx hb dX10_summed_59 (by decide) ?_
      exact ih M9 L10 H locs ls hf hm (lv_sub hl [1] rfl)
    have hf := xif_f hc12 hf
    cases hf
    exact kx1 (v8, M9, L10) rfl H locs ls hm (lv_sub hl [0] rfl)
set_option maxHeartbeats 4000000 in
set_option maxRecDepth 20000 in
theorem c_X10_summed (l : Launch) (E : xE) (b : Nat) (M : xm) (Lm : xn) {r : Int32} {M' : xm} {L' : xn} (hf : f_X10_summed M Lm = some (r, M', L')) :
    xMet l E b NY yX10_summed cX10_summed 2 (some .int) (xR 8) [.ref (b + 0)] (cY E b M Lm) (some (.int r)) True (cY E b M' L') := by
  refine xMet.ofW (own := RX10) (by decide) rfl (Nat.le_of_ble_eq_true rfl) ?_
  intro p e s m below meth c H locs ls C hm hl
  have hx := C.1.1
  have hb := C.1.2.1
  have hl : lv_has ls 2 [(0, .ref (b + 0))] := hl
  unfold f_X10_summed at hf
  refine lv_aload_n hx hb dX10_summed_0 rfl (lv_at hl 0 rfl) ?_
  refine lv_iconst (v := (0 : Int32)) hx hb dX10_summed_1 (by decide) ?_
  obtain ⟨M1, eM1, hf⟩ := xlet_x hf
  refine x_put (cf' := cY E b M1 Lm) C hm inX10 tyX10 tyX10_ok nmX10 rfl 16 (by decide) tf_RX10_150 rfl rfl rfl cy_0 (Nat.le_of_ble_eq_true rfl) (by rw [eM1]; exact cyf_16) (by rw [eM1]; exact cY_o) dX10_summed_2 (fun H locs hm => ?_)
  refine lv_aload_n hx hb dX10_summed_5 rfl (lv_at hl 0 rfl) ?_
  refine lv_iconst (v := (0 : Int32)) hx hb dX10_summed_6 (by decide) ?_
  obtain ⟨M2, eM2, hf⟩ := xlet_x hf
  refine x_put (cf' := cY E b M2 Lm) C hm inX10 tyX10 tyX10_ok nmX10 rfl 17 (by decide) tf_RX10_160 rfl rfl rfl cy_0 (Nat.le_of_ble_eq_true rfl) (by rw [eM2]; exact cyf_17) (by rw [eM2]; exact cY_o) dX10_summed_7 (fun H locs hm => ?_)
  refine lv_aload_n hx hb dX10_summed_10 rfl (lv_at hl 0 rfl) ?_
  refine lv_iconst (v := (0 : Int32)) hx hb dX10_summed_11 (by decide) ?_
  obtain ⟨M3, eM3, hf⟩ := xlet_x hf
  refine x_put (cf' := cY E b M3 Lm) C hm inX10 tyX10 tyX10_ok nmX10 rfl 18 (by decide) tf_RX10_179 rfl (xbo_n (by decide)) rfl cy_0 (Nat.le_of_ble_eq_true rfl) (by rw [eM3]; exact cyf_18) (by rw [eM3]; exact cY_o) dX10_summed_12 (fun H locs hm => ?_)
  rcases xs2_e hf with ⟨q19, hq, hf⟩ | ⟨q19, hq, hf⟩
  · refine j_X10_summed_15 C (r := Sum.inl q19) (fun q2 hr H locs ls hm hl => ?_) (fun q2 hr => by cases hr) xfuel M3 Lm H locs ls hq hm (lv_sub hl [0] rfl)
    cases hr
    refine lv_aload_n hx hb dX10_summed_32 rfl (lv_at hl 0 rfl) ?_
    obtain ⟨v21, hq20, hf⟩ := xb1_e hf
    refine x_callVi (As := []) (rest := []) C hm (c_X10_openNow l E b (q19.1) q19.2 hq20) rfl cy_0 tc_X10_openNow tm_RX10_167 ti_X10_openNow ts_X10_openNow tn_RX10 td_X10_openNow rfl rfl ⟨Nat.le_of_ble_eq_true rfl, Nat.le_of_ble_eq_true rfl⟩ rfl hl.1 rfl (Nat.le_of_ble_eq_true rfl) ⟨Nat.zero_le _, Nat.zero_le _⟩ dX10_summed_33 (fun H locs hP22 hm => ?_)
    refine lv_if_lt (tgt := 41) hx hb dX10_summed_36 (by decide) (fun hc23 => ?_) (fun hc23 => ?_)
    rotate_left
    · have hf := xif_f hc23 hf
      refine lv_iconst (v := (1 : Int32)) hx hb dX10_summed_39 (by decide) ?_
      cases hf
      exact x_iret C hm trivial dX10_summed_40
    have hf := xif_t hc23 hf
    refine lv_aload_n hx hb dX10_summed_41 rfl (lv_at hl 0 rfl) ?_
    refine lv_iconst (v := (1 : Int32)) hx hb dX10_summed_42 (by decide) ?_
    obtain ⟨M25, hq24, hf⟩ := xb1_e hf
    refine x_callVv (As := [.int (1 : Int32)]) (rest := []) C hm (c_X10_settle l E b (q19.1) q19.2 (1 : Int32) hq24) rfl cy_0 tc_X10_settle tm_RX10_183 ti_X10_settle ts_X10_settle tn_RX10 td_X10_settle rfl rfl ⟨Nat.le_of_ble_eq_true rfl, Nat.le_of_ble_eq_true rfl⟩ rfl hl.1 rfl (Nat.le_of_ble_eq_true rfl) ⟨Nat.zero_le _, Nat.zero_le _⟩ dX10_summed_43 (fun H locs hP26 hm => ?_)
    refine lv_iconst (v := (0 : Int32)) hx hb dX10_summed_46 (by decide) ?_
    cases hf
    exact x_iret C hm trivial dX10_summed_47
  · refine j_X10_summed_15 C (r := Sum.inr q19) (fun q2 hr => by cases hr) (fun q2 hr H locs ls hm hl => ?_) xfuel M3 Lm H locs ls hq hm (lv_sub hl [0] rfl)
    cases hr
    refine lv_iload_n hx hb dX10_summed_57 rfl (lv_at hl 0 rfl) ?_
    cases hf
    exact x_iret C hm trivial dX10_summed_58
/-! ColouredHeapModel.lawClause(I)I -/
theorem dX10_lawClause_0 : decode cX10_lawClause 0 = .ok (.aload_n 0, 1) := by decide +kernel
theorem dX10_lawClause_1 : decode cX10_lawClause 1 = .ok (.getfield 16, 3) := by decide +kernel
theorem dX10_lawClause_4 : decode cX10_lawClause 4 = .ok (.iload_n 1, 1) := by decide +kernel
theorem dX10_lawClause_5 : decode cX10_lawClause 5 = .ok (.iconst 1, 1) := by decide +kernel
theorem dX10_lawClause_6 : decode cX10_lawClause 6 = .ok (.iadd, 1) := by decide +kernel
theorem dX10_lawClause_7 : decode cX10_lawClause 7 = .ok (.aload_n 0, 1) := by decide +kernel
theorem dX10_lawClause_8 : decode cX10_lawClause 8 = .ok (.getfield 140, 3) := by decide +kernel
theorem dX10_lawClause_11 : decode cX10_lawClause 11 = .ok (.iastore, 1) := by decide +kernel
theorem dX10_lawClause_12 : decode cX10_lawClause 12 = .ok (.aload_n 0, 1) := by decide +kernel
theorem dX10_lawClause_13 : decode cX10_lawClause 13 = .ok (.invokevirtual 215, 3) := by decide +kernel
theorem dX10_lawClause_16 : decode cX10_lawClause 16 = .ok (.istore_n 2, 1) := by decide +kernel
theorem dX10_lawClause_17 : decode cX10_lawClause 17 = .ok (.aload_n 0, 1) := by decide +kernel
theorem dX10_lawClause_18 : decode cX10_lawClause 18 = .ok (.getfield 16, 3) := by decide +kernel
theorem dX10_lawClause_21 : decode cX10_lawClause 21 = .ok (.iload_n 1, 1) := by decide +kernel
theorem dX10_lawClause_22 : decode cX10_lawClause 22 = .ok (.iconst 2, 1) := by decide +kernel
theorem dX10_lawClause_23 : decode cX10_lawClause 23 = .ok (.iadd, 1) := by decide +kernel
theorem dX10_lawClause_24 : decode cX10_lawClause 24 = .ok (.aload_n 0, 1) := by decide +kernel
theorem dX10_lawClause_25 : decode cX10_lawClause 25 = .ok (.getfield 140, 3) := by decide +kernel
theorem dX10_lawClause_28 : decode cX10_lawClause 28 = .ok (.iastore, 1) := by decide +kernel
theorem dX10_lawClause_29 : decode cX10_lawClause 29 = .ok (.iload_n 2, 1) := by decide +kernel
theorem dX10_lawClause_30 : decode cX10_lawClause 30 = .ok (.ireturn, 1) := by decide +kernel
def f_X10_lawClause (M : xm) (Lm : xn) (a1 : Int32) : Option (Int32 × xm × xn) := if xin (a1 + (1 : Int32)) 2820 = true then xlet (up2 M 3 (Int32.toNatClampNeg (a1 + (1 : Int32))) (M 0 13)) (fun M2 => xb3 (f_X10_summed M2 Lm) (fun v4 M5 L6 => if xin (a1 + (2 : Int32)) 2820 = true then xlet (up2 M5 3 (Int32.toNatClampNeg (a1 + (2 : Int32))) (M5 0 13)) (fun M9 => some (v4, M9, L6)) else none)) else none
set_option maxHeartbeats 4000000 in
set_option maxRecDepth 20000 in
theorem c_X10_lawClause (l : Launch) (E : xE) (b : Nat) (M : xm) (Lm : xn) (a1 : Int32) {r : Int32} {M' : xm} {L' : xn} (hf : f_X10_lawClause M Lm a1 = some (r, M', L')) :
    xMet l E b NY yX10_lawClause cX10_lawClause 3 (some .int) (xR 9) [.ref (b + 0), .int a1] (cY E b M Lm) (some (.int r)) True (cY E b M' L') := by
  refine xMet.ofW (own := RX10) (by decide) rfl (Nat.le_of_ble_eq_true rfl) ?_
  intro p e s m below meth c H locs ls C hm hl
  have hx := C.1.1
  have hb := C.1.2.1
  have hl : lv_has ls 3 [(0, .ref (b + 0)), (1, .int a1)] := hl
  unfold f_X10_lawClause at hf
  refine lv_aload_n hx hb dX10_lawClause_0 rfl (lv_at hl 0 rfl) ?_
  refine x_get C hm inX10 rfl 2 (by decide) tf_RX10_16 cy_0 rfl dX10_lawClause_1 ?_
  refine lv_iload_n hx hb dX10_lawClause_4 rfl (lv_at hl 1 rfl) ?_
  refine lv_iconst (v := (1 : Int32)) hx hb dX10_lawClause_5 (by decide) ?_
  refine lv_iadd hx hb dX10_lawClause_6 ?_
  refine lv_aload_n hx hb dX10_lawClause_7 rfl (lv_at hl 0 rfl) ?_
  refine x_get C hm inX10 rfl 13 (by decide) tf_RX10_140 cy_0 rfl dX10_lawClause_8 ?_
  obtain ⟨hi1, hf⟩ := xif_s hf
  obtain ⟨M2, eM2, hf⟩ := xlet_x hf
  refine x_iast (j := (Int32.toNatClampNeg (a1 + (1 : Int32)))) (cf' := cY E b M2 Lm) C hm cy_3 hi1 dX10_lawClause_11 rfl (by rw [eM2]; exact cyu_3) (by rw [eM2]; exact cY_o) (fun H locs hm => ?_)
  refine lv_aload_n hx hb dX10_lawClause_12 rfl (lv_at hl 0 rfl) ?_
  obtain ⟨v4, M5, L6, hq3, hf⟩ := xb3_e hf
  refine x_callVi (As := []) (rest := []) C hm (c_X10_summed l E b M2 Lm hq3) rfl cy_0 tc_X10_summed tm_RX10_215 ti_X10_summed ts_X10_summed tn_RX10 td_X10_summed rfl rfl ⟨Nat.le_of_ble_eq_true rfl, Nat.le_of_ble_eq_true rfl⟩ rfl hl.1 rfl (Nat.le_of_ble_eq_true rfl) ⟨Nat.zero_le _, Nat.zero_le _⟩ dX10_lawClause_13 (fun H locs hP7 hm => ?_)
  refine lv_istore_n (lv' := [(2, .int v4), (0, .ref (b + 0)), (1, .int a1)]) hx hb dX10_lawClause_16 rfl hl (by decide) rfl (fun ls hl => ?_)
  refine lv_aload_n hx hb dX10_lawClause_17 rfl (lv_at hl 1 rfl) ?_
  refine x_get C hm inX10 rfl 2 (by decide) tf_RX10_16 cy_0 rfl dX10_lawClause_18 ?_
  refine lv_iload_n hx hb dX10_lawClause_21 rfl (lv_at hl 2 rfl) ?_
  refine lv_iconst (v := (2 : Int32)) hx hb dX10_lawClause_22 (by decide) ?_
  refine lv_iadd hx hb dX10_lawClause_23 ?_
  refine lv_aload_n hx hb dX10_lawClause_24 rfl (lv_at hl 1 rfl) ?_
  refine x_get C hm inX10 rfl 13 (by decide) tf_RX10_140 cy_0 rfl dX10_lawClause_25 ?_
  obtain ⟨hi8, hf⟩ := xif_s hf
  obtain ⟨M9, eM9, hf⟩ := xlet_x hf
  refine x_iast (j := (Int32.toNatClampNeg (a1 + (2 : Int32)))) (cf' := cY E b M9 L6) C hm cy_3 hi8 dX10_lawClause_28 rfl (by rw [eM9]; exact cyu_3) (by rw [eM9]; exact cY_o) (fun H locs hm => ?_)
  refine lv_iload_n hx hb dX10_lawClause_29 rfl (lv_at hl 0 rfl) ?_
  cases hf
  exact x_iret C hm trivial dX10_lawClause_30
/-! ColouredHeapModel.further(IJI)I -/
theorem dX10_further_0 : decode cX10_further 0 = .ok (.aload_n 0, 1) := by decide +kernel
theorem dX10_further_1 : decode cX10_further 1 = .ok (.lload_n 2, 1) := by decide +kernel
theorem dX10_further_2 : decode cX10_further 2 = .ok (.invokevirtual 189, 3) := by decide +kernel
theorem dX10_further_5 : decode cX10_further 5 = .ok (.ifCond .ne 5, 3) := by decide +kernel
theorem dX10_further_8 : decode cX10_further 8 = .ok (.iconst 1, 1) := by decide +kernel
theorem dX10_further_9 : decode cX10_further 9 = .ok (.ireturn, 1) := by decide +kernel
theorem dX10_further_10 : decode cX10_further 10 = .ok (.aload_n 0, 1) := by decide +kernel
theorem dX10_further_11 : decode cX10_further 11 = .ok (.invokevirtual 170, 3) := by decide +kernel
theorem dX10_further_14 : decode cX10_further 14 = .ok (.aload_n 0, 1) := by decide +kernel
theorem dX10_further_15 : decode cX10_further 15 = .ok (.iload_n 1, 1) := by decide +kernel
theorem dX10_further_16 : decode cX10_further 16 = .ok (.iconst 0, 1) := by decide +kernel
theorem dX10_further_17 : decode cX10_further 17 = .ok (.iload 4, 2) := by decide +kernel
theorem dX10_further_19 : decode cX10_further 19 = .ok (.invokevirtual 218, 3) := by decide +kernel
theorem dX10_further_22 : decode cX10_further 22 = .ok (.ireturn, 1) := by decide +kernel
def f_X10_further (M : xm) (Lm : xn) (a1 : Int32) (a2 : Int64) (a3 : Int32) : Option (Int32 × xm × xn) := (if (f_X10_isWord M Lm a2) = 0 then some ((1 : Int32), M, Lm) else xb2 (f_X10_nextToken M Lm) (fun M4 L5 => xb3 (f_X10_figure M4 L5 a1 (0 : Int32) a3) (fun v8 M9 L10 => some (v8, M9, L10))))
set_option maxHeartbeats 4000000 in
set_option maxRecDepth 20000 in
theorem c_X10_further (l : Launch) (E : xE) (b : Nat) (M : xm) (Lm : xn) (a1 : Int32) (a2 : Int64) (a3 : Int32) {r : Int32} {M' : xm} {L' : xn} (hf : f_X10_further M Lm a1 a2 a3 = some (r, M', L')) :
    xMet l E b NY yX10_further cX10_further 5 (some .int) (xR 4) [.ref (b + 0), .int a1, .long a2, .int a3] (cY E b M Lm) (some (.int r)) True (cY E b M' L') := by
  refine xMet.ofW (own := RX10) (by decide) rfl (Nat.le_of_ble_eq_true rfl) ?_
  intro p e s m below meth c H locs ls C hm hl
  have hx := C.1.1
  have hb := C.1.2.1
  have hl : lv_has ls 5 [(0, .ref (b + 0)), (1, .int a1), (2, .long a2), (4, .int a3)] := hl
  unfold f_X10_further at hf
  refine lv_aload_n hx hb dX10_further_0 rfl (lv_at hl 0 rfl) ?_
  refine lv_lload_n hx hb dX10_further_1 rfl (lv_at hl 2 rfl) ?_
  refine x_callVi (As := [.long a2]) (rest := []) C hm (c_X10_isWord l E b M Lm a2 rfl) rfl cy_0 tc_X10_isWord tm_RX10_189 ti_X10_isWord ts_X10_isWord tn_RX10 td_X10_isWord rfl rfl ⟨Nat.le_of_ble_eq_true rfl, Nat.le_of_ble_eq_true rfl⟩ rfl hl.1 rfl (Nat.le_of_ble_eq_true rfl) ⟨Nat.zero_le _, Nat.zero_le _⟩ dX10_further_2 (fun H locs hP1 hm => ?_)
  refine lv_if_ne (tgt := 10) hx hb dX10_further_5 (by decide) (fun hc2 => ?_) (fun hc2 => ?_)
  rotate_left
  · have hf := xif_t hc2 hf
    refine lv_iconst (v := (1 : Int32)) hx hb dX10_further_8 (by decide) ?_
    cases hf
    exact x_iret C hm trivial dX10_further_9
  have hf := xif_f hc2 hf
  refine lv_aload_n hx hb dX10_further_10 rfl (lv_at hl 0 rfl) ?_
  obtain ⟨M4, L5, hq3, hf⟩ := xb2_e hf
  refine x_callVv (As := []) (rest := []) C hm (c_X10_nextToken l E b M Lm hq3) rfl cy_0 tc_X10_nextToken tm_RX10_170 ti_X10_nextToken ts_X10_nextToken tn_RX10 td_X10_nextToken rfl rfl ⟨Nat.le_of_ble_eq_true rfl, Nat.le_of_ble_eq_true rfl⟩ rfl hl.1 rfl (Nat.le_of_ble_eq_true rfl) ⟨Nat.zero_le _, Nat.zero_le _⟩ dX10_further_11 (fun H locs hP6 hm => ?_)
  refine lv_aload_n hx hb dX10_further_14 rfl (lv_at hl 0 rfl) ?_
  refine lv_iload_n hx hb dX10_further_15 rfl (lv_at hl 1 rfl) ?_
  refine lv_iconst (v := (0 : Int32)) hx hb dX10_further_16 (by decide) ?_
  refine lv_iload hx hb dX10_further_17 (lv_at hl 3 rfl) ?_
  obtain ⟨v8, M9, L10, hq7, hf⟩ := xb3_e hf
  refine x_callVi (As := [.int a1, .int (0 : Int32), .int a3]) (rest := []) C hm (c_X10_figure l E b M4 L5 a1 (0 : Int32) a3 hq7) rfl cy_0 tc_X10_figure tm_RX10_218 ti_X10_figure ts_X10_figure tn_RX10 td_X10_figure rfl rfl ⟨Nat.le_of_ble_eq_true rfl, Nat.le_of_ble_eq_true rfl⟩ rfl hl.1 rfl (Nat.le_of_ble_eq_true rfl) ⟨Nat.zero_le _, Nat.zero_le _⟩ dX10_further_19 (fun H locs hP11 hm => ?_)
  cases hf
  exact x_iret C hm trivial dX10_further_22
/-! ColouredHeapModel.makeClause(I)I -/
theorem dX10_makeClause_0 : decode cX10_makeClause 0 = .ok (.aload_n 0, 1) := by decide +kernel
theorem dX10_makeClause_1 : decode cX10_makeClause 1 = .ok (.iload_n 1, 1) := by decide +kernel
theorem dX10_makeClause_2 : decode cX10_makeClause 2 = .ok (.iconst 1, 1) := by decide +kernel
theorem dX10_makeClause_3 : decode cX10_makeClause 3 = .ok (.iadd, 1) := by decide +kernel
theorem dX10_makeClause_4 : decode cX10_makeClause 4 = .ok (.iconst 0, 1) := by decide +kernel
theorem dX10_makeClause_5 : decode cX10_makeClause 5 = .ok (.iconst 5, 1) := by decide +kernel
theorem dX10_makeClause_6 : decode cX10_makeClause 6 = .ok (.invokevirtual 218, 3) := by decide +kernel
theorem dX10_makeClause_9 : decode cX10_makeClause 9 = .ok (.istore_n 2, 1) := by decide +kernel
theorem dX10_makeClause_10 : decode cX10_makeClause 10 = .ok (.iload_n 2, 1) := by decide +kernel
theorem dX10_makeClause_11 : decode cX10_makeClause 11 = .ok (.ifCond .eq 7, 3) := by decide +kernel
theorem dX10_makeClause_14 : decode cX10_makeClause 14 = .ok (.iload_n 2, 1) := by decide +kernel
theorem dX10_makeClause_15 : decode cX10_makeClause 15 = .ok (.goto 18, 3) := by decide +kernel
theorem dX10_makeClause_18 : decode cX10_makeClause 18 = .ok (.aload_n 0, 1) := by decide +kernel
theorem dX10_makeClause_19 : decode cX10_makeClause 19 = .ok (.iload_n 1, 1) := by decide +kernel
theorem dX10_makeClause_20 : decode cX10_makeClause 20 = .ok (.iconst 2, 1) := by decide +kernel
theorem dX10_makeClause_21 : decode cX10_makeClause 21 = .ok (.iadd, 1) := by decide +kernel
theorem dX10_makeClause_22 : decode cX10_makeClause 22 = .ok (.bipush 111, 2) := by decide +kernel
theorem dX10_makeClause_24 : decode cX10_makeClause 24 = .ok (.bipush 102, 2) := by decide +kernel
theorem dX10_makeClause_26 : decode cX10_makeClause 26 = .ok (.invokestatic 121, 3) := by decide +kernel
theorem dX10_makeClause_29 : decode cX10_makeClause 29 = .ok (.iconst 3, 1) := by decide +kernel
theorem dX10_makeClause_30 : decode cX10_makeClause 30 = .ok (.invokevirtual 222, 3) := by decide +kernel
theorem dX10_makeClause_33 : decode cX10_makeClause 33 = .ok (.ireturn, 1) := by decide +kernel
def f_X10_makeClause (M : xm) (Lm : xn) (a1 : Int32) : Option (Int32 × xm × xn) := xb3 (f_X10_figure M Lm (a1 + (1 : Int32)) (0 : Int32) (5 : Int32)) (fun v2 M3 L4 => (if v2 = 0 then xb3 (f_X10_further M3 L4 (a1 + (2 : Int32)) (f_X10_w2 (111 : Int32) (102 : Int32)) (3 : Int32)) (fun v9 M10 L11 => some (v9, M10, L11)) else some (v2, M3, L4)))
set_option maxHeartbeats 4000000 in
set_option maxRecDepth 20000 in
theorem c_X10_makeClause (l : Launch) (E : xE) (b : Nat) (M : xm) (Lm : xn) (a1 : Int32) {r : Int32} {M' : xm} {L' : xn} (hf : f_X10_makeClause M Lm a1 = some (r, M', L')) :
    xMet l E b NY yX10_makeClause cX10_makeClause 3 (some .int) (xR 5) [.ref (b + 0), .int a1] (cY E b M Lm) (some (.int r)) True (cY E b M' L') := by
  refine xMet.ofW (own := RX10) (by decide) rfl (Nat.le_of_ble_eq_true rfl) ?_
  intro p e s m below meth c H locs ls C hm hl
  have hx := C.1.1
  have hb := C.1.2.1
  have hl : lv_has ls 3 [(0, .ref (b + 0)), (1, .int a1)] := hl
  unfold f_X10_makeClause at hf
  refine lv_aload_n hx hb dX10_makeClause_0 rfl (lv_at hl 0 rfl) ?_
  refine lv_iload_n hx hb dX10_makeClause_1 rfl (lv_at hl 1 rfl) ?_
  refine lv_iconst (v := (1 : Int32)) hx hb dX10_makeClause_2 (by decide) ?_
  refine lv_iadd hx hb dX10_makeClause_3 ?_
  refine lv_iconst (v := (0 : Int32)) hx hb dX10_makeClause_4 (by decide) ?_
  refine lv_iconst (v := (5 : Int32)) hx hb dX10_makeClause_5 (by decide) ?_
  obtain ⟨v2, M3, L4, hq1, hf⟩ := xb3_e hf
  refine x_callVi (As := [.int (a1 + (1 : Int32)), .int (0 : Int32), .int (5 : Int32)]) (rest := []) C hm (c_X10_figure l E b M Lm (a1 + (1 : Int32)) (0 : Int32) (5 : Int32) hq1) rfl cy_0 tc_X10_figure tm_RX10_218 ti_X10_figure ts_X10_figure tn_RX10 td_X10_figure rfl rfl ⟨Nat.le_of_ble_eq_true rfl, Nat.le_of_ble_eq_true rfl⟩ rfl hl.1 rfl (Nat.le_of_ble_eq_true rfl) ⟨Nat.zero_le _, Nat.zero_le _⟩ dX10_makeClause_6 (fun H locs hP5 hm => ?_)
  refine lv_istore_n (lv' := [(2, .int v2), (0, .ref (b + 0)), (1, .int a1)]) hx hb dX10_makeClause_9 rfl hl (by decide) rfl (fun ls hl => ?_)
  refine lv_iload_n hx hb dX10_makeClause_10 rfl (lv_at hl 0 rfl) ?_
  refine lv_if_eq (tgt := 18) hx hb dX10_makeClause_11 (by decide) (fun hc6 => ?_) (fun hc6 => ?_)
  rotate_left
  · have hf := xif_f hc6 hf
    refine lv_iload_n hx hb dX10_makeClause_14 rfl (lv_at hl 0 rfl) ?_
    refine lv_goto (tgt := 33) hx hb dX10_makeClause_15 (by decide) ?_
    cases hf
    exact x_iret C hm trivial dX10_makeClause_33
  have hf := xif_t hc6 hf
  refine lv_aload_n hx hb dX10_makeClause_18 rfl (lv_at hl 1 rfl) ?_
  refine lv_iload_n hx hb dX10_makeClause_19 rfl (lv_at hl 2 rfl) ?_
  refine lv_iconst (v := (2 : Int32)) hx hb dX10_makeClause_20 (by decide) ?_
  refine lv_iadd hx hb dX10_makeClause_21 ?_
  refine lv_bipush (v := (111 : Int32)) hx hb dX10_makeClause_22 (by decide) ?_
  refine lv_bipush (v := (102 : Int32)) hx hb dX10_makeClause_24 (by decide) ?_
  refine x_callSl (As := [.int (111 : Int32), .int (102 : Int32)]) (rest := [.int (a1 + (2 : Int32)), .ref (b + 0)]) C hm (c_X10_w2 l E b M3 L4 (111 : Int32) (102 : Int32) rfl) tc_X10_w2 tm_RX10_121 tz_X10_w2 tn_RX10 td_X10_w2 rfl rfl ⟨Nat.le_of_ble_eq_true rfl, Nat.le_of_ble_eq_true rfl⟩ rfl hl.1 rfl (Nat.le_of_ble_eq_true rfl) ⟨Nat.zero_le _, Nat.zero_le _⟩ dX10_makeClause_26 (fun H locs hP7 hm => ?_)
  refine lv_iconst (v := (3 : Int32)) hx hb dX10_makeClause_29 (by decide) ?_
  obtain ⟨v9, M10, L11, hq8, hf⟩ := xb3_e hf
  refine x_callVi (As := [.int (a1 + (2 : Int32)), .long (f_X10_w2 (111 : Int32) (102 : Int32)), .int (3 : Int32)]) (rest := []) C hm (c_X10_further l E b M3 L4 (a1 + (2 : Int32)) (f_X10_w2 (111 : Int32) (102 : Int32)) (3 : Int32) hq8) rfl cy_0 tc_X10_further tm_RX10_222 ti_X10_further ts_X10_further tn_RX10 td_X10_further rfl rfl ⟨Nat.le_of_ble_eq_true rfl, Nat.le_of_ble_eq_true rfl⟩ rfl hl.1 rfl (Nat.le_of_ble_eq_true rfl) ⟨Nat.zero_le _, Nat.zero_le _⟩ dX10_makeClause_30 (fun H locs hP12 hm => ?_)
  cases hf
  exact x_iret C hm trivial dX10_makeClause_33
/-! ColouredHeapModel.threeClause(IJ)I -/
theorem dX10_threeClause_0 : decode cX10_threeClause 0 = .ok (.aload_n 0, 1) := by decide +kernel
theorem dX10_threeClause_1 : decode cX10_threeClause 1 = .ok (.iload_n 1, 1) := by decide +kernel
theorem dX10_threeClause_2 : decode cX10_threeClause 2 = .ok (.iconst 1, 1) := by decide +kernel
theorem dX10_threeClause_3 : decode cX10_threeClause 3 = .ok (.iadd, 1) := by decide +kernel
theorem dX10_threeClause_4 : decode cX10_threeClause 4 = .ok (.iconst 0, 1) := by decide +kernel
theorem dX10_threeClause_5 : decode cX10_threeClause 5 = .ok (.iconst 5, 1) := by decide +kernel
theorem dX10_threeClause_6 : decode cX10_threeClause 6 = .ok (.invokevirtual 218, 3) := by decide +kernel
theorem dX10_threeClause_9 : decode cX10_threeClause 9 = .ok (.istore 4, 2) := by decide +kernel
theorem dX10_threeClause_11 : decode cX10_threeClause 11 = .ok (.iload 4, 2) := by decide +kernel
theorem dX10_threeClause_13 : decode cX10_threeClause 13 = .ok (.ifCond .ne 14, 3) := by decide +kernel
theorem dX10_threeClause_16 : decode cX10_threeClause 16 = .ok (.aload_n 0, 1) := by decide +kernel
theorem dX10_threeClause_17 : decode cX10_threeClause 17 = .ok (.iload_n 1, 1) := by decide +kernel
theorem dX10_threeClause_18 : decode cX10_threeClause 18 = .ok (.iconst 2, 1) := by decide +kernel
theorem dX10_threeClause_19 : decode cX10_threeClause 19 = .ok (.iadd, 1) := by decide +kernel
theorem dX10_threeClause_20 : decode cX10_threeClause 20 = .ok (.lload_n 2, 1) := by decide +kernel
theorem dX10_threeClause_21 : decode cX10_threeClause 21 = .ok (.iconst 5, 1) := by decide +kernel
theorem dX10_threeClause_22 : decode cX10_threeClause 22 = .ok (.invokevirtual 222, 3) := by decide +kernel
theorem dX10_threeClause_25 : decode cX10_threeClause 25 = .ok (.istore 4, 2) := by decide +kernel
theorem dX10_threeClause_27 : decode cX10_threeClause 27 = .ok (.iload 4, 2) := by decide +kernel
theorem dX10_threeClause_29 : decode cX10_threeClause 29 = .ok (.ifCond .eq 8, 3) := by decide +kernel
theorem dX10_threeClause_32 : decode cX10_threeClause 32 = .ok (.iload 4, 2) := by decide +kernel
theorem dX10_threeClause_34 : decode cX10_threeClause 34 = .ok (.goto 18, 3) := by decide +kernel
theorem dX10_threeClause_37 : decode cX10_threeClause 37 = .ok (.aload_n 0, 1) := by decide +kernel
theorem dX10_threeClause_38 : decode cX10_threeClause 38 = .ok (.iload_n 1, 1) := by decide +kernel
theorem dX10_threeClause_39 : decode cX10_threeClause 39 = .ok (.iconst 3, 1) := by decide +kernel
theorem dX10_threeClause_40 : decode cX10_threeClause 40 = .ok (.iadd, 1) := by decide +kernel
theorem dX10_threeClause_41 : decode cX10_threeClause 41 = .ok (.bipush 111, 2) := by decide +kernel
theorem dX10_threeClause_43 : decode cX10_threeClause 43 = .ok (.bipush 102, 2) := by decide +kernel
theorem dX10_threeClause_45 : decode cX10_threeClause 45 = .ok (.invokestatic 121, 3) := by decide +kernel
theorem dX10_threeClause_48 : decode cX10_threeClause 48 = .ok (.iconst 2, 1) := by decide +kernel
theorem dX10_threeClause_49 : decode cX10_threeClause 49 = .ok (.invokevirtual 222, 3) := by decide +kernel
theorem dX10_threeClause_52 : decode cX10_threeClause 52 = .ok (.ireturn, 1) := by decide +kernel
def f_X10_threeClause (M : xm) (Lm : xn) (a1 : Int32) (a2 : Int64) : Option (Int32 × xm × xn) := xb3 (f_X10_figure M Lm (a1 + (1 : Int32)) (0 : Int32) (5 : Int32)) (fun v2 M3 L4 => xlet (fun (w6 : Int32) (M7 : xm) (L8 : xn) => (if w6 = 0 then xb3 (f_X10_further M7 L8 (a1 + (3 : Int32)) (f_X10_w2 (111 : Int32) (102 : Int32)) (2 : Int32)) (fun v13 M14 L15 => some (v13, M14, L15)) else some (w6, M7, L8))) (fun k9 => (if v2 = 0 then xb3 (f_X10_further M3 L4 (a1 + (2 : Int32)) a2 (5 : Int32)) (fun v19 M20 L21 => (k9 v19 M20 L21)) else (k9 v2 M3 L4))))
set_option maxHeartbeats 4000000 in
set_option maxRecDepth 20000 in
theorem c_X10_threeClause (l : Launch) (E : xE) (b : Nat) (M : xm) (Lm : xn) (a1 : Int32) (a2 : Int64) {r : Int32} {M' : xm} {L' : xn} (hf : f_X10_threeClause M Lm a1 a2 = some (r, M', L')) :
    xMet l E b NY yX10_threeClause cX10_threeClause 5 (some .int) (xR 5) [.ref (b + 0), .int a1, .long a2] (cY E b M Lm) (some (.int r)) True (cY E b M' L') := by
  refine xMet.ofW (own := RX10) (by decide) rfl (Nat.le_of_ble_eq_true rfl) ?_
  intro p e s m below meth c H locs ls C hm hl
  have hx := C.1.1
  have hb := C.1.2.1
  have hl : lv_has ls 5 [(0, .ref (b + 0)), (1, .int a1), (2, .long a2)] := hl
  unfold f_X10_threeClause at hf
  refine lv_aload_n hx hb dX10_threeClause_0 rfl (lv_at hl 0 rfl) ?_
  refine lv_iload_n hx hb dX10_threeClause_1 rfl (lv_at hl 1 rfl) ?_
  refine lv_iconst (v := (1 : Int32)) hx hb dX10_threeClause_2 (by decide) ?_
  refine lv_iadd hx hb dX10_threeClause_3 ?_
  refine lv_iconst (v := (0 : Int32)) hx hb dX10_threeClause_4 (by decide) ?_
  refine lv_iconst (v := (5 : Int32)) hx hb dX10_threeClause_5 (by decide) ?_
  obtain ⟨v2, M3, L4, hq1, hf⟩ := xb3_e hf
  refine x_callVi (As := [.int (a1 + (1 : Int32)), .int (0 : Int32), .int (5 : Int32)]) (rest := []) C hm (c_X10_figure l E b M Lm (a1 + (1 : Int32)) (0 : Int32) (5 : Int32) hq1) rfl cy_0 tc_X10_figure tm_RX10_218 ti_X10_figure ts_X10_figure tn_RX10 td_X10_figure rfl rfl ⟨Nat.le_of_ble_eq_true rfl, Nat.le_of_ble_eq_true rfl⟩ rfl hl.1 rfl (Nat.le_of_ble_eq_true rfl) ⟨Nat.zero_le _, Nat.zero_le _⟩ dX10_threeClause_6 (fun H locs hP5 hm => ?_)
  refine lv_istore (lv' := [(4, .int v2), (0, .ref (b + 0)), (1, .int a1), (2, .long a2)]) hx hb dX10_threeClause_9 hl (by decide) rfl (fun ls hl => ?_)
  refine lv_iload hx hb dX10_threeClause_11 (lv_at hl 0 rfl) ?_
  obtain ⟨k9, ek9, hf⟩ := xlet_x hf
  have jk9 : ∀ (w6 : Int32) (M7 : xm) (L8 : xn) (H : Heap) (locs : List Loc) (ls : Array Slot), k9 w6 M7 L8 = some (r, M', L') → xM E b NY (cY E b M7 L8) s.heap H locs → lv_has ls 5 [(0, .ref (b + 0)), (1, .int a1), (4, .int w6)] → W p l e (xR 5) s m ([.ref (b + 0), .int a1, .long a2] : List Value).toArray below meth c H locs 0 0 (MQ below (xQ E b NY (some (.int r)) True (cY E b M' L')) ([.ref (b + 0), .int a1, .long a2] : List Value).toArray s 0 0 (xA b NY)) (F0 m 27 ls []) := by
    intro w6 M7 L8 H locs ls hf hm hl
    have hf := xap3 ek9 hf
    refine lv_iload hx hb dX10_threeClause_27 (lv_at hl 2 rfl) ?_
    refine lv_if_eq (tgt := 37) hx hb dX10_threeClause_29 (by decide) (fun hc10 => ?_) (fun hc10 => ?_)
    rotate_left
    · have hf := xif_f hc10 hf
      refine lv_iload hx hb dX10_threeClause_32 (lv_at hl 2 rfl) ?_
      refine lv_goto (tgt := 52) hx hb dX10_threeClause_34 (by decide) ?_
      cases hf
      exact x_iret C hm trivial dX10_threeClause_52
    have hf := xif_t hc10 hf
    refine lv_aload_n hx hb dX10_threeClause_37 rfl (lv_at hl 0 rfl) ?_
    refine lv_iload_n hx hb dX10_threeClause_38 rfl (lv_at hl 1 rfl) ?_
    refine lv_iconst (v := (3 : Int32)) hx hb dX10_threeClause_39 (by decide) ?_
    refine lv_iadd hx hb dX10_threeClause_40 ?_
    refine lv_bipush (v := (111 : Int32)) hx hb dX10_threeClause_41 (by decide) ?_
    refine lv_bipush (v := (102 : Int32)) hx hb dX10_threeClause_43 (by decide) ?_
    refine x_callSl (As := [.int (111 : Int32), .int (102 : Int32)]) (rest := [.int (a1 + (3 : Int32)), .ref (b + 0)]) C hm (c_X10_w2 l E b M7 L8 (111 : Int32) (102 : Int32) rfl) tc_X10_w2 tm_RX10_121 tz_X10_w2 tn_RX10 td_X10_w2 rfl rfl ⟨Nat.le_of_ble_eq_true rfl, Nat.le_of_ble_eq_true rfl⟩ rfl hl.1 rfl (Nat.le_of_ble_eq_true rfl) ⟨Nat.zero_le _, Nat.zero_le _⟩ dX10_threeClause_45 (fun H locs hP11 hm => ?_)
    refine lv_iconst (v := (2 : Int32)) hx hb dX10_threeClause_48 (by decide) ?_
    obtain ⟨v13, M14, L15, hq12, hf⟩ := xb3_e hf
    refine x_callVi (As := [.int (a1 + (3 : Int32)), .long (f_X10_w2 (111 : Int32) (102 : Int32)), .int (2 : Int32)]) (rest := []) C hm (c_X10_further l E b M7 L8 (a1 + (3 : Int32)) (f_X10_w2 (111 : Int32) (102 : Int32)) (2 : Int32) hq12) rfl cy_0 tc_X10_further tm_RX10_222 ti_X10_further ts_X10_further tn_RX10 td_X10_further rfl rfl ⟨Nat.le_of_ble_eq_true rfl, Nat.le_of_ble_eq_true rfl⟩ rfl hl.1 rfl (Nat.le_of_ble_eq_true rfl) ⟨Nat.zero_le _, Nat.zero_le _⟩ dX10_threeClause_49 (fun H locs hP16 hm => ?_)
    cases hf
    exact x_iret C hm trivial dX10_threeClause_52
  refine lv_if_ne (tgt := 27) hx hb dX10_threeClause_13 (by decide) (fun hc17 => ?_) (fun hc17 => ?_)
  · have hf := xif_f hc17 hf
    exact jk9 v2 M3 L4 H locs ls  hf hm (lv_sub hl [1, 2, 0] rfl)
  have hf := xif_t hc17 hf
  refine lv_aload_n hx hb dX10_threeClause_16 rfl (lv_at hl 1 rfl) ?_
  refine lv_iload_n hx hb dX10_threeClause_17 rfl (lv_at hl 2 rfl) ?_
  refine lv_iconst (v := (2 : Int32)) hx hb dX10_threeClause_18 (by decide) ?_
  refine lv_iadd hx hb dX10_threeClause_19 ?_
  refine lv_lload_n hx hb dX10_threeClause_20 rfl (lv_at hl 3 rfl) ?_
  refine lv_iconst (v := (5 : Int32)) hx hb dX10_threeClause_21 (by decide) ?_
  obtain ⟨v19, M20, L21, hq18, hf⟩ := xb3_e hf
  refine x_callVi (As := [.int (a1 + (2 : Int32)), .long a2, .int (5 : Int32)]) (rest := []) C hm (c_X10_further l E b M3 L4 (a1 + (2 : Int32)) a2 (5 : Int32) hq18) rfl cy_0 tc_X10_further tm_RX10_222 ti_X10_further ts_X10_further tn_RX10 td_X10_further rfl rfl ⟨Nat.le_of_ble_eq_true rfl, Nat.le_of_ble_eq_true rfl⟩ rfl hl.1 rfl (Nat.le_of_ble_eq_true rfl) ⟨Nat.zero_le _, Nat.zero_le _⟩ dX10_threeClause_22 (fun H locs hP22 hm => ?_)
  refine lv_istore (lv' := [(4, .int v19), (0, .ref (b + 0)), (1, .int a1), (2, .long a2)]) hx hb dX10_threeClause_25 hl (by decide) rfl (fun ls hl => ?_)
  exact jk9 v19 M20 L21 H locs ls  hf hm (lv_sub hl [1, 2, 0] rfl)
/-! ColouredHeapModel.body(II)I -/
theorem dX10_body_0 : decode cX10_body 0 = .ok (.iload_n 1, 1) := by decide +kernel
theorem dX10_body_1 : decode cX10_body 1 = .ok (.tableswitch 92 2 6 #[35, 41, 58, 71, 81], 35) := by decide +kernel
theorem dX10_body_36 : decode cX10_body 36 = .ok (.aload_n 0, 1) := by decide +kernel
theorem dX10_body_37 : decode cX10_body 37 = .ok (.iload_n 2, 1) := by decide +kernel
theorem dX10_body_38 : decode cX10_body 38 = .ok (.invokevirtual 226, 3) := by decide +kernel
theorem dX10_body_41 : decode cX10_body 41 = .ok (.ireturn, 1) := by decide +kernel
theorem dX10_body_42 : decode cX10_body 42 = .ok (.aload_n 0, 1) := by decide +kernel
theorem dX10_body_43 : decode cX10_body 43 = .ok (.iload_n 2, 1) := by decide +kernel
theorem dX10_body_44 : decode cX10_body 44 = .ok (.bipush 102, 2) := by decide +kernel
theorem dX10_body_46 : decode cX10_body 46 = .ok (.bipush 114, 2) := by decide +kernel
theorem dX10_body_48 : decode cX10_body 48 = .ok (.bipush 111, 2) := by decide +kernel
theorem dX10_body_50 : decode cX10_body 50 = .ok (.bipush 109, 2) := by decide +kernel
theorem dX10_body_52 : decode cX10_body 52 = .ok (.invokestatic 129, 3) := by decide +kernel
theorem dX10_body_55 : decode cX10_body 55 = .ok (.invokevirtual 229, 3) := by decide +kernel
theorem dX10_body_58 : decode cX10_body 58 = .ok (.ireturn, 1) := by decide +kernel
theorem dX10_body_59 : decode cX10_body 59 = .ok (.aload_n 0, 1) := by decide +kernel
theorem dX10_body_60 : decode cX10_body 60 = .ok (.iload_n 2, 1) := by decide +kernel
theorem dX10_body_61 : decode cX10_body 61 = .ok (.bipush 116, 2) := by decide +kernel
theorem dX10_body_63 : decode cX10_body 63 = .ok (.bipush 111, 2) := by decide +kernel
theorem dX10_body_65 : decode cX10_body 65 = .ok (.invokestatic 121, 3) := by decide +kernel
theorem dX10_body_68 : decode cX10_body 68 = .ok (.invokevirtual 229, 3) := by decide +kernel
theorem dX10_body_71 : decode cX10_body 71 = .ok (.ireturn, 1) := by decide +kernel
theorem dX10_body_72 : decode cX10_body 72 = .ok (.aload_n 0, 1) := by decide +kernel
theorem dX10_body_73 : decode cX10_body 73 = .ok (.iload_n 2, 1) := by decide +kernel
theorem dX10_body_74 : decode cX10_body 74 = .ok (.iconst 1, 1) := by decide +kernel
theorem dX10_body_75 : decode cX10_body 75 = .ok (.iadd, 1) := by decide +kernel
theorem dX10_body_76 : decode cX10_body 76 = .ok (.iconst 0, 1) := by decide +kernel
theorem dX10_body_77 : decode cX10_body 77 = .ok (.iconst 5, 1) := by decide +kernel
theorem dX10_body_78 : decode cX10_body 78 = .ok (.invokevirtual 218, 3) := by decide +kernel
theorem dX10_body_81 : decode cX10_body 81 = .ok (.ireturn, 1) := by decide +kernel
theorem dX10_body_82 : decode cX10_body 82 = .ok (.aload_n 0, 1) := by decide +kernel
theorem dX10_body_83 : decode cX10_body 83 = .ok (.iload_n 2, 1) := by decide +kernel
theorem dX10_body_84 : decode cX10_body 84 = .ok (.iconst 1, 1) := by decide +kernel
theorem dX10_body_85 : decode cX10_body 85 = .ok (.iadd, 1) := by decide +kernel
theorem dX10_body_86 : decode cX10_body 86 = .ok (.iconst 1, 1) := by decide +kernel
theorem dX10_body_87 : decode cX10_body 87 = .ok (.bipush 60, 2) := by decide +kernel
theorem dX10_body_89 : decode cX10_body 89 = .ok (.invokevirtual 218, 3) := by decide +kernel
theorem dX10_body_92 : decode cX10_body 92 = .ok (.ireturn, 1) := by decide +kernel
theorem dX10_body_93 : decode cX10_body 93 = .ok (.aload_n 0, 1) := by decide +kernel
theorem dX10_body_94 : decode cX10_body 94 = .ok (.iload_n 2, 1) := by decide +kernel
theorem dX10_body_95 : decode cX10_body 95 = .ok (.invokevirtual 233, 3) := by decide +kernel
theorem dX10_body_98 : decode cX10_body 98 = .ok (.ireturn, 1) := by decide +kernel
def f_X10_body (M : xm) (Lm : xn) (a1 : Int32) (a2 : Int32) : Option (Int32 × xm × xn) := (if a1 = (2 : Int32) then xb3 (f_X10_makeClause M Lm a2) (fun v3 M4 L5 => some (v3, M4, L5)) else (if a1 = (3 : Int32) then xb3 (f_X10_threeClause M Lm a2 (f_X10_w4 (102 : Int32) (114 : Int32) (111 : Int32) (109 : Int32))) (fun v10 M11 L12 => some (v10, M11, L12)) else (if a1 = (4 : Int32) then xb3 (f_X10_threeClause M Lm a2 (f_X10_w2 (116 : Int32) (111 : Int32))) (fun v17 M18 L19 => some (v17, M18, L19)) else (if a1 = (5 : Int32) then xb3 (f_X10_figure M Lm (a2 + (1 : Int32)) (0 : Int32) (5 : Int32)) (fun v23 M24 L25 => some (v23, M24, L25)) else (if a1 = (6 : Int32) then xb3 (f_X10_figure M Lm (a2 + (1 : Int32)) (1 : Int32) (60 : Int32)) (fun v29 M30 L31 => some (v29, M30, L31)) else xb3 (f_X10_lawClause M Lm a2) (fun v34 M35 L36 => some (v34, M35, L36)))))))
set_option maxHeartbeats 4000000 in
set_option maxRecDepth 20000 in
theorem c_X10_body (l : Launch) (E : xE) (b : Nat) (M : xm) (Lm : xn) (a1 : Int32) (a2 : Int32) {r : Int32} {M' : xm} {L' : xn} (hf : f_X10_body M Lm a1 a2 = some (r, M', L')) :
    xMet l E b NY yX10_body cX10_body 3 (some .int) (xR 10) [.ref (b + 0), .int a1, .int a2] (cY E b M Lm) (some (.int r)) True (cY E b M' L') := by
  refine xMet.ofW (own := RX10) (by decide) rfl (Nat.le_of_ble_eq_true rfl) ?_
  intro p e s m below meth c H locs ls C hm hl
  have hx := C.1.1
  have hb := C.1.2.1
  have hl : lv_has ls 3 [(0, .ref (b + 0)), (1, .int a1), (2, .int a2)] := hl
  unfold f_X10_body at hf
  refine lv_iload_n hx hb dX10_body_0 rfl (lv_at hl 1 rfl) ?_
  by_cases hs1 : a1 = (2 : Int32)
  · have hf := xif_t hs1 hf
    refine x_tabIn (tgt := 36) hx hb (2 : Int32) hs1 dX10_body_1 (by decide) (by decide) rfl (by decide) ?_
    refine lv_aload_n hx hb dX10_body_36 rfl (lv_at hl 0 rfl) ?_
    refine lv_iload_n hx hb dX10_body_37 rfl (lv_at hl 2 rfl) ?_
    obtain ⟨v3, M4, L5, hq2, hf⟩ := xb3_e hf
    refine x_callVi (As := [.int a2]) (rest := []) C hm (c_X10_makeClause l E b M Lm a2 hq2) rfl cy_0 tc_X10_makeClause tm_RX10_226 ti_X10_makeClause ts_X10_makeClause tn_RX10 td_X10_makeClause rfl rfl ⟨Nat.le_of_ble_eq_true rfl, Nat.le_of_ble_eq_true rfl⟩ rfl hl.1 rfl (Nat.le_of_ble_eq_true rfl) ⟨Nat.zero_le _, Nat.zero_le _⟩ dX10_body_38 (fun H locs hP6 hm => ?_)
    cases hf
    exact x_iret C hm trivial dX10_body_41
  have hf := xif_f hs1 hf
  by_cases hs7 : a1 = (3 : Int32)
  · have hf := xif_t hs7 hf
    refine x_tabIn (tgt := 42) hx hb (3 : Int32) hs7 dX10_body_1 (by decide) (by decide) rfl (by decide) ?_
    refine lv_aload_n hx hb dX10_body_42 rfl (lv_at hl 0 rfl) ?_
    refine lv_iload_n hx hb dX10_body_43 rfl (lv_at hl 2 rfl) ?_
    refine lv_bipush (v := (102 : Int32)) hx hb dX10_body_44 (by decide) ?_
    refine lv_bipush (v := (114 : Int32)) hx hb dX10_body_46 (by decide) ?_
    refine lv_bipush (v := (111 : Int32)) hx hb dX10_body_48 (by decide) ?_
    refine lv_bipush (v := (109 : Int32)) hx hb dX10_body_50 (by decide) ?_
    refine x_callSl (As := [.int (102 : Int32), .int (114 : Int32), .int (111 : Int32), .int (109 : Int32)]) (rest := [.int a2, .ref (b + 0)]) C hm (c_X10_w4 l E b M Lm (102 : Int32) (114 : Int32) (111 : Int32) (109 : Int32) rfl) tc_X10_w4 tm_RX10_129 tz_X10_w4 tn_RX10 td_X10_w4 rfl rfl ⟨Nat.le_of_ble_eq_true rfl, Nat.le_of_ble_eq_true rfl⟩ rfl hl.1 rfl (Nat.le_of_ble_eq_true rfl) ⟨Nat.zero_le _, Nat.zero_le _⟩ dX10_body_52 (fun H locs hP8 hm => ?_)
    obtain ⟨v10, M11, L12, hq9, hf⟩ := xb3_e hf
    refine x_callVi (As := [.int a2, .long (f_X10_w4 (102 : Int32) (114 : Int32) (111 : Int32) (109 : Int32))]) (rest := []) C hm (c_X10_threeClause l E b M Lm a2 (f_X10_w4 (102 : Int32) (114 : Int32) (111 : Int32) (109 : Int32)) hq9) rfl cy_0 tc_X10_threeClause tm_RX10_229 ti_X10_threeClause ts_X10_threeClause tn_RX10 td_X10_threeClause rfl rfl ⟨Nat.le_of_ble_eq_true rfl, Nat.le_of_ble_eq_true rfl⟩ rfl hl.1 rfl (Nat.le_of_ble_eq_true rfl) ⟨Nat.zero_le _, Nat.zero_le _⟩ dX10_body_55 (fun H locs hP13 hm => ?_)
    cases hf
    exact x_iret C hm trivial dX10_body_58
  have hf := xif_f hs7 hf
  by_cases hs14 : a1 = (4 : Int32)
  · have hf := xif_t hs14 hf
    refine x_tabIn (tgt := 59) hx hb (4 : Int32) hs14 dX10_body_1 (by decide) (by decide) rfl (by decide) ?_
    refine lv_aload_n hx hb dX10_body_59 rfl (lv_at hl 0 rfl) ?_
    refine lv_iload_n hx hb dX10_body_60 rfl (lv_at hl 2 rfl) ?_
    refine lv_bipush (v := (116 : Int32)) hx hb dX10_body_61 (by decide) ?_
    refine lv_bipush (v := (111 : Int32)) hx hb dX10_body_63 (by decide) ?_
    refine x_callSl (As := [.int (116 : Int32), .int (111 : Int32)]) (rest := [.int a2, .ref (b + 0)]) C hm (c_X10_w2 l E b M Lm (116 : Int32) (111 : Int32) rfl) tc_X10_w2 tm_RX10_121 tz_X10_w2 tn_RX10 td_X10_w2 rfl rfl ⟨Nat.le_of_ble_eq_true rfl, Nat.le_of_ble_eq_true rfl⟩ rfl hl.1 rfl (Nat.le_of_ble_eq_true rfl) ⟨Nat.zero_le _, Nat.zero_le _⟩ dX10_body_65 (fun H locs hP15 hm => ?_)
    obtain ⟨v17, M18, L19, hq16, hf⟩ := xb3_e hf
    refine x_callVi (As := [.int a2, .long (f_X10_w2 (116 : Int32) (111 : Int32))]) (rest := []) C hm (c_X10_threeClause l E b M Lm a2 (f_X10_w2 (116 : Int32) (111 : Int32)) hq16) rfl cy_0 tc_X10_threeClause tm_RX10_229 ti_X10_threeClause ts_X10_threeClause tn_RX10 td_X10_threeClause rfl rfl ⟨Nat.le_of_ble_eq_true rfl, Nat.le_of_ble_eq_true rfl⟩ rfl hl.1 rfl (Nat.le_of_ble_eq_true rfl) ⟨Nat.zero_le _, Nat.zero_le _⟩ dX10_body_68 (fun H locs hP20 hm => ?_)
    cases hf
    exact x_iret C hm trivial dX10_body_71
  have hf := xif_f hs14 hf
  by_cases hs21 : a1 = (5 : Int32)
  · have hf := xif_t hs21 hf
    refine x_tabIn (tgt := 72) hx hb (5 : Int32) hs21 dX10_body_1 (by decide) (by decide) rfl (by decide) ?_
    refine lv_aload_n hx hb dX10_body_72 rfl (lv_at hl 0 rfl) ?_
    refine lv_iload_n hx hb dX10_body_73 rfl (lv_at hl 2 rfl) ?_
    refine lv_iconst (v := (1 : Int32)) hx hb dX10_body_74 (by decide) ?_
    refine lv_iadd hx hb dX10_body_75 ?_
    refine lv_iconst (v := (0 : Int32)) hx hb dX10_body_76 (by decide) ?_
    refine lv_iconst (v := (5 : Int32)) hx hb dX10_body_77 (by decide) ?_
    obtain ⟨v23, M24, L25, hq22, hf⟩ := xb3_e hf
    refine x_callVi (As := [.int (a2 + (1 : Int32)), .int (0 : Int32), .int (5 : Int32)]) (rest := []) C hm (c_X10_figure l E b M Lm (a2 + (1 : Int32)) (0 : Int32) (5 : Int32) hq22) rfl cy_0 tc_X10_figure tm_RX10_218 ti_X10_figure ts_X10_figure tn_RX10 td_X10_figure rfl rfl ⟨Nat.le_of_ble_eq_true rfl, Nat.le_of_ble_eq_true rfl⟩ rfl hl.1 rfl (Nat.le_of_ble_eq_true rfl) ⟨Nat.zero_le _, Nat.zero_le _⟩ dX10_body_78 (fun H locs hP26 hm => ?_)
    cases hf
    exact x_iret C hm trivial dX10_body_81
  have hf := xif_f hs21 hf
  by_cases hs27 : a1 = (6 : Int32)
  · have hf := xif_t hs27 hf
    refine x_tabIn (tgt := 82) hx hb (6 : Int32) hs27 dX10_body_1 (by decide) (by decide) rfl (by decide) ?_
    refine lv_aload_n hx hb dX10_body_82 rfl (lv_at hl 0 rfl) ?_
    refine lv_iload_n hx hb dX10_body_83 rfl (lv_at hl 2 rfl) ?_
    refine lv_iconst (v := (1 : Int32)) hx hb dX10_body_84 (by decide) ?_
    refine lv_iadd hx hb dX10_body_85 ?_
    refine lv_iconst (v := (1 : Int32)) hx hb dX10_body_86 (by decide) ?_
    refine lv_bipush (v := (60 : Int32)) hx hb dX10_body_87 (by decide) ?_
    obtain ⟨v29, M30, L31, hq28, hf⟩ := xb3_e hf
    refine x_callVi (As := [.int (a2 + (1 : Int32)), .int (1 : Int32), .int (60 : Int32)]) (rest := []) C hm (c_X10_figure l E b M Lm (a2 + (1 : Int32)) (1 : Int32) (60 : Int32) hq28) rfl cy_0 tc_X10_figure tm_RX10_218 ti_X10_figure ts_X10_figure tn_RX10 td_X10_figure rfl rfl ⟨Nat.le_of_ble_eq_true rfl, Nat.le_of_ble_eq_true rfl⟩ rfl hl.1 rfl (Nat.le_of_ble_eq_true rfl) ⟨Nat.zero_le _, Nat.zero_le _⟩ dX10_body_89 (fun H locs hP32 hm => ?_)
    cases hf
    exact x_iret C hm trivial dX10_body_92
  have hf := xif_f hs27 hf
  refine x_tabOut (tgt := 93) hx hb dX10_body_1 (by decide) (fun i hi => ?_) (by decide) ?_
  · match i, hi with
    | 0, _ => exact hs1
    | 1, _ => exact hs7
    | 2, _ => exact hs14
    | 3, _ => exact hs21
    | 4, _ => exact hs27
    | (i + 5), hi => exact absurd hi (by omega)
  refine lv_aload_n hx hb dX10_body_93 rfl (lv_at hl 0 rfl) ?_
  refine lv_iload_n hx hb dX10_body_94 rfl (lv_at hl 2 rfl) ?_
  obtain ⟨v34, M35, L36, hq33, hf⟩ := xb3_e hf
  refine x_callVi (As := [.int a2]) (rest := []) C hm (c_X10_lawClause l E b M Lm a2 hq33) rfl cy_0 tc_X10_lawClause tm_RX10_233 ti_X10_lawClause ts_X10_lawClause tn_RX10 td_X10_lawClause rfl rfl ⟨Nat.le_of_ble_eq_true rfl, Nat.le_of_ble_eq_true rfl⟩ rfl hl.1 rfl (Nat.le_of_ble_eq_true rfl) ⟨Nat.zero_le _, Nat.zero_le _⟩ dX10_body_95 (fun H locs hP37 hm => ?_)
  cases hf
  exact x_iret C hm trivial dX10_body_98
/-! ColouredHeapModel.lineOf(II)I -/
theorem dX10_lineOf_0 : decode cX10_lineOf 0 = .ok (.aload_n 0, 1) := by decide +kernel
theorem dX10_lineOf_1 : decode cX10_lineOf 1 = .ok (.getfield 7, 3) := by decide +kernel
theorem dX10_lineOf_4 : decode cX10_lineOf 4 = .ok (.sipush 297, 3) := by decide +kernel
theorem dX10_lineOf_7 : decode cX10_lineOf 7 = .ok (.iload_n 1, 1) := by decide +kernel
theorem dX10_lineOf_8 : decode cX10_lineOf 8 = .ok (.iadd, 1) := by decide +kernel
theorem dX10_lineOf_9 : decode cX10_lineOf 9 = .ok (.iaload, 1) := by decide +kernel
theorem dX10_lineOf_10 : decode cX10_lineOf 10 = .ok (.istore_n 3, 1) := by decide +kernel
theorem dX10_lineOf_11 : decode cX10_lineOf 11 = .ok (.iload_n 2, 1) := by decide +kernel
theorem dX10_lineOf_12 : decode cX10_lineOf 12 = .ok (.ifCond .ne 11, 3) := by decide +kernel
theorem dX10_lineOf_15 : decode cX10_lineOf 15 = .ok (.iload_n 3, 1) := by decide +kernel
theorem dX10_lineOf_16 : decode cX10_lineOf 16 = .ok (.sipush 1536, 3) := by decide +kernel
theorem dX10_lineOf_19 : decode cX10_lineOf 19 = .ok (.idiv, 1) := by decide +kernel
theorem dX10_lineOf_20 : decode cX10_lineOf 20 = .ok (.goto 24, 3) := by decide +kernel
theorem dX10_lineOf_23 : decode cX10_lineOf 23 = .ok (.iload_n 2, 1) := by decide +kernel
theorem dX10_lineOf_24 : decode cX10_lineOf 24 = .ok (.iconst 1, 1) := by decide +kernel
theorem dX10_lineOf_25 : decode cX10_lineOf 25 = .ok (.if_icmp .ne 14, 3) := by decide +kernel
theorem dX10_lineOf_28 : decode cX10_lineOf 28 = .ok (.iload_n 3, 1) := by decide +kernel
theorem dX10_lineOf_29 : decode cX10_lineOf 29 = .ok (.sipush 256, 3) := by decide +kernel
theorem dX10_lineOf_32 : decode cX10_lineOf 32 = .ok (.idiv, 1) := by decide +kernel
theorem dX10_lineOf_33 : decode cX10_lineOf 33 = .ok (.bipush 6, 2) := by decide +kernel
theorem dX10_lineOf_35 : decode cX10_lineOf 35 = .ok (.irem, 1) := by decide +kernel
theorem dX10_lineOf_36 : decode cX10_lineOf 36 = .ok (.goto 8, 3) := by decide +kernel
theorem dX10_lineOf_39 : decode cX10_lineOf 39 = .ok (.iload_n 3, 1) := by decide +kernel
theorem dX10_lineOf_40 : decode cX10_lineOf 40 = .ok (.sipush 256, 3) := by decide +kernel
theorem dX10_lineOf_43 : decode cX10_lineOf 43 = .ok (.irem, 1) := by decide +kernel
theorem dX10_lineOf_44 : decode cX10_lineOf 44 = .ok (.ireturn, 1) := by decide +kernel
def f_X10_lineOf (M : xm) (a1 : Int32) (a2 : Int32) : Option (Int32) := if xin ((297 : Int32) + a1) 9878 = true then xlet (M 1 (Int32.toNatClampNeg ((297 : Int32) + a1))) (fun v2 => (if a2 = 0 then some (v2 / (1536 : Int32)) else (if a2 = (1 : Int32) then some (xrem (v2 / (256 : Int32)) (6 : Int32)) else some (xrem v2 (256 : Int32))))) else none
set_option maxHeartbeats 4000000 in
set_option maxRecDepth 20000 in
theorem c_X10_lineOf (l : Launch) (E : xE) (b : Nat) (M : xm) (Lm : xn) (a1 : Int32) (a2 : Int32) {r : Int32} (hf : f_X10_lineOf M a1 a2 = some r) :
    xMet l E b NY yX10_lineOf cX10_lineOf 4 (some .int) (xR 1) [.ref (b + 0), .int a1, .int a2] (cY E b M Lm) (some (.int r)) True (cY E b M Lm) := by
  refine xMet.ofW (own := RX10) (by decide) rfl (Nat.le_of_ble_eq_true rfl) ?_
  intro p e s m below meth c H locs ls C hm hl
  have hx := C.1.1
  have hb := C.1.2.1
  have hl : lv_has ls 4 [(0, .ref (b + 0)), (1, .int a1), (2, .int a2)] := hl
  unfold f_X10_lineOf at hf
  refine lv_aload_n hx hb dX10_lineOf_0 rfl (lv_at hl 0 rfl) ?_
  refine x_get C hm inX10 rfl 0 (by decide) tf_RX10_7 cy_0 rfl dX10_lineOf_1 ?_
  refine lv_sipush (v := (297 : Int32)) hx hb dX10_lineOf_4 (by decide) ?_
  refine lv_iload_n hx hb dX10_lineOf_7 rfl (lv_at hl 1 rfl) ?_
  refine lv_iadd hx hb dX10_lineOf_8 ?_
  obtain ⟨hi1, hf⟩ := xif_s hf
  refine x_iald (j := (Int32.toNatClampNeg ((297 : Int32) + a1))) C hm cy_1 hi1 dX10_lineOf_9 rfl ?_
  refine lv_topi (fun v2 ev2 => ?_)
  have hf := xlet_e ev2 hf
  refine lv_istore_n (lv' := [(3, .int v2), (0, .ref (b + 0)), (1, .int a1), (2, .int a2)]) hx hb dX10_lineOf_10 rfl hl (by decide) rfl (fun ls hl => ?_)
  refine lv_iload_n hx hb dX10_lineOf_11 rfl (lv_at hl 3 rfl) ?_
  refine lv_if_ne (tgt := 23) hx hb dX10_lineOf_12 (by decide) (fun hc3 => ?_) (fun hc3 => ?_)
  rotate_left
  · have hf := xif_t hc3 hf
    refine lv_iload_n hx hb dX10_lineOf_15 rfl (lv_at hl 0 rfl) ?_
    refine lv_sipush (v := (1536 : Int32)) hx hb dX10_lineOf_16 (by decide) ?_
    refine lv_idiv hx hb dX10_lineOf_19 (by decide) ?_
    refine lv_goto (tgt := 44) hx hb dX10_lineOf_20 (by decide) ?_
    cases hf
    exact x_iret C hm trivial dX10_lineOf_44
  have hf := xif_f hc3 hf
  refine lv_iload_n hx hb dX10_lineOf_23 rfl (lv_at hl 3 rfl) ?_
  refine lv_iconst (v := (1 : Int32)) hx hb dX10_lineOf_24 (by decide) ?_
  refine lv_icmp_ne (tgt := 39) hx hb dX10_lineOf_25 (by decide) (fun hc4 => ?_) (fun hc4 => ?_)
  · have hf := xif_f hc4 hf
    refine lv_iload_n hx hb dX10_lineOf_39 rfl (lv_at hl 0 rfl) ?_
    refine lv_sipush (v := (256 : Int32)) hx hb dX10_lineOf_40 (by decide) ?_
    refine lv_irem hx hb dX10_lineOf_43 (by decide) ?_
    cases hf
    exact x_iret C hm trivial dX10_lineOf_44
  have hf := xif_t hc4 hf
  refine lv_iload_n hx hb dX10_lineOf_28 rfl (lv_at hl 0 rfl) ?_
  refine lv_sipush (v := (256 : Int32)) hx hb dX10_lineOf_29 (by decide) ?_
  refine lv_idiv hx hb dX10_lineOf_32 (by decide) ?_
  refine lv_bipush (v := (6 : Int32)) hx hb dX10_lineOf_33 (by decide) ?_
  refine lv_irem hx hb dX10_lineOf_35 (by decide) ?_
  refine lv_goto (tgt := 44) hx hb dX10_lineOf_36 (by decide) ?_
  cases hf
  exact x_iret C hm trivial dX10_lineOf_44
/-! ColouredHeapModel.book(II)I -/
theorem dX10_book_0 : decode cX10_book 0 = .ok (.iload_n 1, 1) := by decide +kernel
theorem dX10_book_1 : decode cX10_book 1 = .ok (.iconst (-1), 1) := by decide +kernel
theorem dX10_book_2 : decode cX10_book 2 = .ok (.if_icmp .ne 11, 3) := by decide +kernel
theorem dX10_book_5 : decode cX10_book 5 = .ok (.aload_n 0, 1) := by decide +kernel
theorem dX10_book_6 : decode cX10_book 6 = .ok (.getfield 7, 3) := by decide +kernel
theorem dX10_book_9 : decode cX10_book 9 = .ok (.bipush 12, 2) := by decide +kernel
theorem dX10_book_11 : decode cX10_book 11 = .ok (.iaload, 1) := by decide +kernel
theorem dX10_book_12 : decode cX10_book 12 = .ok (.ireturn, 1) := by decide +kernel
theorem dX10_book_13 : decode cX10_book 13 = .ok (.iload_n 1, 1) := by decide +kernel
theorem dX10_book_14 : decode cX10_book 14 = .ok (.iconst 0, 1) := by decide +kernel
theorem dX10_book_15 : decode cX10_book 15 = .ok (.aload_n 0, 1) := by decide +kernel
theorem dX10_book_16 : decode cX10_book 16 = .ok (.getfield 7, 3) := by decide +kernel
theorem dX10_book_19 : decode cX10_book 19 = .ok (.bipush 12, 2) := by decide +kernel
theorem dX10_book_21 : decode cX10_book 21 = .ok (.iaload, 1) := by decide +kernel
theorem dX10_book_22 : decode cX10_book 22 = .ok (.iconst 1, 1) := by decide +kernel
theorem dX10_book_23 : decode cX10_book 23 = .ok (.isub, 1) := by decide +kernel
theorem dX10_book_24 : decode cX10_book 24 = .ok (.invokestatic 59, 3) := by decide +kernel
theorem dX10_book_27 : decode cX10_book 27 = .ok (.ifCond .eq 21, 3) := by decide +kernel
theorem dX10_book_30 : decode cX10_book 30 = .ok (.iload_n 2, 1) := by decide +kernel
theorem dX10_book_31 : decode cX10_book 31 = .ok (.iconst 0, 1) := by decide +kernel
theorem dX10_book_32 : decode cX10_book 32 = .ok (.iconst 2, 1) := by decide +kernel
theorem dX10_book_33 : decode cX10_book 33 = .ok (.invokestatic 59, 3) := by decide +kernel
theorem dX10_book_36 : decode cX10_book 36 = .ok (.ifCond .eq 12, 3) := by decide +kernel
theorem dX10_book_39 : decode cX10_book 39 = .ok (.aload_n 0, 1) := by decide +kernel
theorem dX10_book_40 : decode cX10_book 40 = .ok (.iload_n 1, 1) := by decide +kernel
theorem dX10_book_41 : decode cX10_book 41 = .ok (.iload_n 2, 1) := by decide +kernel
theorem dX10_book_42 : decode cX10_book 42 = .ok (.invokevirtual 448, 3) := by decide +kernel
theorem dX10_book_45 : decode cX10_book 45 = .ok (.goto 5, 3) := by decide +kernel
theorem dX10_book_48 : decode cX10_book 48 = .ok (.bipush (-2), 2) := by decide +kernel
theorem dX10_book_50 : decode cX10_book 50 = .ok (.ireturn, 1) := by decide +kernel
def f_X10_book (M : xm) (a1 : Int32) (a2 : Int32) : Option (Int32) := (if a1 = (-1 : Int32) then some (M 1 12) else (if (f_X10_isIn a1 (0 : Int32) ((M 1 12) - (1 : Int32))) = 0 then some (-2 : Int32) else (if (f_X10_isIn a2 (0 : Int32) (2 : Int32)) = 0 then some (-2 : Int32) else xb1 (f_X10_lineOf M a1 a2) (fun v7 => some v7))))
set_option maxHeartbeats 4000000 in
set_option maxRecDepth 20000 in
theorem c_X10_book (l : Launch) (E : xE) (b : Nat) (M : xm) (Lm : xn) (a1 : Int32) (a2 : Int32) {r : Int32} (hf : f_X10_book M a1 a2 = some r) :
    xMet l E b NY yX10_book cX10_book 3 (some .int) (xR 2) [.ref (b + 0), .int a1, .int a2] (cY E b M Lm) (some (.int r)) True (cY E b M Lm) := by
  refine xMet.ofW (own := RX10) (by decide) rfl (Nat.le_of_ble_eq_true rfl) ?_
  intro p e s m below meth c H locs ls C hm hl
  have hx := C.1.1
  have hb := C.1.2.1
  have hl : lv_has ls 3 [(0, .ref (b + 0)), (1, .int a1), (2, .int a2)] := hl
  unfold f_X10_book at hf
  refine lv_iload_n hx hb dX10_book_0 rfl (lv_at hl 1 rfl) ?_
  refine lv_iconst (v := (-1 : Int32)) hx hb dX10_book_1 (by decide) ?_
  refine lv_icmp_ne (tgt := 13) hx hb dX10_book_2 (by decide) (fun hc1 => ?_) (fun hc1 => ?_)
  rotate_left
  · have hf := xif_t hc1 hf
    refine lv_aload_n hx hb dX10_book_5 rfl (lv_at hl 0 rfl) ?_
    refine x_get C hm inX10 rfl 0 (by decide) tf_RX10_7 cy_0 rfl dX10_book_6 ?_
    refine lv_bipush (v := (12 : Int32)) hx hb dX10_book_9 (by decide) ?_
    refine x_iald (j := 12) C hm cy_1 (by decide) dX10_book_11 (by decide) ?_
    cases hf
    exact x_iret C hm trivial dX10_book_12
  have hf := xif_f hc1 hf
  refine lv_iload_n hx hb dX10_book_13 rfl (lv_at hl 1 rfl) ?_
  refine lv_iconst (v := (0 : Int32)) hx hb dX10_book_14 (by decide) ?_
  refine lv_aload_n hx hb dX10_book_15 rfl (lv_at hl 0 rfl) ?_
  refine x_get C hm inX10 rfl 0 (by decide) tf_RX10_7 cy_0 rfl dX10_book_16 ?_
  refine lv_bipush (v := (12 : Int32)) hx hb dX10_book_19 (by decide) ?_
  refine x_iald (j := 12) C hm cy_1 (by decide) dX10_book_21 (by decide) ?_
  refine lv_iconst (v := (1 : Int32)) hx hb dX10_book_22 (by decide) ?_
  refine lv_isub hx hb dX10_book_23 ?_
  refine x_callSi (As := [.int a1, .int (0 : Int32), .int ((M 1 12) - (1 : Int32))]) (rest := []) C hm (c_X10_isIn l E b M Lm a1 (0 : Int32) ((M 1 12) - (1 : Int32)) rfl) tc_X10_isIn tm_RX10_59 tz_X10_isIn tn_RX10 td_X10_isIn rfl rfl ⟨Nat.le_of_ble_eq_true rfl, Nat.le_of_ble_eq_true rfl⟩ rfl hl.1 rfl (Nat.le_of_ble_eq_true rfl) ⟨Nat.zero_le _, Nat.zero_le _⟩ dX10_book_24 (fun H locs hP2 hm => ?_)
  refine lv_if_eq (tgt := 48) hx hb dX10_book_27 (by decide) (fun hc3 => ?_) (fun hc3 => ?_)
  · have hf := xif_t hc3 hf
    refine lv_bipush (v := (-2 : Int32)) hx hb dX10_book_48 (by decide) ?_
    cases hf
    exact x_iret C hm trivial dX10_book_50
  have hf := xif_f hc3 hf
  refine lv_iload_n hx hb dX10_book_30 rfl (lv_at hl 2 rfl) ?_
  refine lv_iconst (v := (0 : Int32)) hx hb dX10_book_31 (by decide) ?_
  refine lv_iconst (v := (2 : Int32)) hx hb dX10_book_32 (by decide) ?_
  refine x_callSi (As := [.int a2, .int (0 : Int32), .int (2 : Int32)]) (rest := []) C hm (c_X10_isIn l E b M Lm a2 (0 : Int32) (2 : Int32) rfl) tc_X10_isIn tm_RX10_59 tz_X10_isIn tn_RX10 td_X10_isIn rfl rfl ⟨Nat.le_of_ble_eq_true rfl, Nat.le_of_ble_eq_true rfl⟩ rfl hl.1 rfl (Nat.le_of_ble_eq_true rfl) ⟨Nat.zero_le _, Nat.zero_le _⟩ dX10_book_33 (fun H locs hP4 hm => ?_)
  refine lv_if_eq (tgt := 48) hx hb dX10_book_36 (by decide) (fun hc5 => ?_) (fun hc5 => ?_)
  · have hf := xif_t hc5 hf
    refine lv_bipush (v := (-2 : Int32)) hx hb dX10_book_48 (by decide) ?_
    cases hf
    exact x_iret C hm trivial dX10_book_50
  have hf := xif_f hc5 hf
  refine lv_aload_n hx hb dX10_book_39 rfl (lv_at hl 0 rfl) ?_
  refine lv_iload_n hx hb dX10_book_40 rfl (lv_at hl 1 rfl) ?_
  refine lv_iload_n hx hb dX10_book_41 rfl (lv_at hl 2 rfl) ?_
  obtain ⟨v7, hq6, hf⟩ := xb1_e hf
  refine x_callVi (As := [.int a1, .int a2]) (rest := []) C hm (c_X10_lineOf l E b M Lm a1 a2 hq6) rfl cy_0 tc_X10_lineOf tm_RX10_448 ti_X10_lineOf ts_X10_lineOf tn_RX10 td_X10_lineOf rfl rfl ⟨Nat.le_of_ble_eq_true rfl, Nat.le_of_ble_eq_true rfl⟩ rfl hl.1 rfl (Nat.le_of_ble_eq_true rfl) ⟨Nat.zero_le _, Nat.zero_le _⟩ dX10_book_42 (fun H locs hP8 hm => ?_)
  refine lv_goto (tgt := 50) hx hb dX10_book_45 (by decide) ?_
  cases hf
  exact x_iret C hm trivial dX10_book_50
/-! ColouredHeapModel.by(I)Z -/
theorem dX10_by_0 : decode cX10_by 0 = .ok (.iload_n 1, 1) := by decide +kernel
theorem dX10_by_1 : decode cX10_by 1 = .ok (.iconst (-1), 1) := by decide +kernel
theorem dX10_by_2 : decode cX10_by 2 = .ok (.aload_n 0, 1) := by decide +kernel
theorem dX10_by_3 : decode cX10_by 3 = .ok (.getfield 7, 3) := by decide +kernel
theorem dX10_by_6 : decode cX10_by 6 = .ok (.iconst 0, 1) := by decide +kernel
theorem dX10_by_7 : decode cX10_by 7 = .ok (.iaload, 1) := by decide +kernel
theorem dX10_by_8 : decode cX10_by 8 = .ok (.iconst 1, 1) := by decide +kernel
theorem dX10_by_9 : decode cX10_by 9 = .ok (.isub, 1) := by decide +kernel
theorem dX10_by_10 : decode cX10_by 10 = .ok (.invokestatic 59, 3) := by decide +kernel
theorem dX10_by_13 : decode cX10_by 13 = .ok (.ifCond .ne 5, 3) := by decide +kernel
theorem dX10_by_16 : decode cX10_by 16 = .ok (.iconst 0, 1) := by decide +kernel
theorem dX10_by_17 : decode cX10_by 17 = .ok (.ireturn, 1) := by decide +kernel
theorem dX10_by_18 : decode cX10_by 18 = .ok (.aload_n 0, 1) := by decide +kernel
theorem dX10_by_19 : decode cX10_by 19 = .ok (.getfield 7, 3) := by decide +kernel
theorem dX10_by_22 : decode cX10_by 22 = .ok (.iconst 1, 1) := by decide +kernel
theorem dX10_by_23 : decode cX10_by 23 = .ok (.iload_n 1, 1) := by decide +kernel
theorem dX10_by_24 : decode cX10_by 24 = .ok (.iastore, 1) := by decide +kernel
theorem dX10_by_25 : decode cX10_by 25 = .ok (.iconst 1, 1) := by decide +kernel
theorem dX10_by_26 : decode cX10_by 26 = .ok (.ireturn, 1) := by decide +kernel
def f_X10_by (M : xm) (a1 : Int32) : Option (Int32 × xm) := (if (f_X10_isIn a1 (-1 : Int32) ((M 1 0) - (1 : Int32))) = 0 then some ((0 : Int32), M) else xlet (up2 M 1 1 a1) (fun M3 => some ((1 : Int32), M3)))
set_option maxHeartbeats 4000000 in
set_option maxRecDepth 20000 in
theorem c_X10_by (l : Launch) (E : xE) (b : Nat) (M : xm) (Lm : xn) (a1 : Int32) {r : Int32} {M' : xm} (hf : f_X10_by M a1 = some (r, M')) :
    xMet l E b NY yX10_by cX10_by 2 (some .boolean) (xR 2) [.ref (b + 0), .int a1] (cY E b M Lm) (some (.int r)) (xbo r = true) (cY E b M' Lm) := by
  refine xMet.ofW (own := RX10) (by decide) rfl (Nat.le_of_ble_eq_true rfl) ?_
  intro p e s m below meth c H locs ls C hm hl
  have hx := C.1.1
  have hb := C.1.2.1
  have hl : lv_has ls 2 [(0, .ref (b + 0)), (1, .int a1)] := hl
  unfold f_X10_by at hf
  refine lv_iload_n hx hb dX10_by_0 rfl (lv_at hl 1 rfl) ?_
  refine lv_iconst (v := (-1 : Int32)) hx hb dX10_by_1 (by decide) ?_
  refine lv_aload_n hx hb dX10_by_2 rfl (lv_at hl 0 rfl) ?_
  refine x_get C hm inX10 rfl 0 (by decide) tf_RX10_7 cy_0 rfl dX10_by_3 ?_
  refine lv_iconst (v := (0 : Int32)) hx hb dX10_by_6 (by decide) ?_
  refine x_iald (j := 0) C hm cy_1 (by decide) dX10_by_7 (by decide) ?_
  refine lv_iconst (v := (1 : Int32)) hx hb dX10_by_8 (by decide) ?_
  refine lv_isub hx hb dX10_by_9 ?_
  refine x_callSi (As := [.int a1, .int (-1 : Int32), .int ((M 1 0) - (1 : Int32))]) (rest := []) C hm (c_X10_isIn l E b M Lm a1 (-1 : Int32) ((M 1 0) - (1 : Int32)) rfl) tc_X10_isIn tm_RX10_59 tz_X10_isIn tn_RX10 td_X10_isIn rfl rfl ⟨Nat.le_of_ble_eq_true rfl, Nat.le_of_ble_eq_true rfl⟩ rfl hl.1 rfl (Nat.le_of_ble_eq_true rfl) ⟨Nat.zero_le _, Nat.zero_le _⟩ dX10_by_10 (fun H locs hP1 hm => ?_)
  refine lv_if_ne (tgt := 18) hx hb dX10_by_13 (by decide) (fun hc2 => ?_) (fun hc2 => ?_)
  rotate_left
  · have hf := xif_t hc2 hf
    refine lv_iconst (v := (0 : Int32)) hx hb dX10_by_16 (by decide) ?_
    cases hf
    exact x_zret C hm (by decide) (by decide) dX10_by_17
  have hf := xif_f hc2 hf
  refine lv_aload_n hx hb dX10_by_18 rfl (lv_at hl 0 rfl) ?_
  refine x_get C hm inX10 rfl 0 (by decide) tf_RX10_7 cy_0 rfl dX10_by_19 ?_
  refine lv_iconst (v := (1 : Int32)) hx hb dX10_by_22 (by decide) ?_
  refine lv_iload_n hx hb dX10_by_23 rfl (lv_at hl 1 rfl) ?_
  obtain ⟨M3, eM3, hf⟩ := xlet_x hf
  refine x_iast (j := 1) (cf' := cY E b M3 Lm) C hm cy_1 (by decide) dX10_by_24 (by decide) (by rw [eM3]; exact cyu_1) (by rw [eM3]; exact cY_o) (fun H locs hm => ?_)
  refine lv_iconst (v := (1 : Int32)) hx hb dX10_by_25 (by decide) ?_
  cases hf
  exact x_zret C hm (by decide) (by decide) dX10_by_26
/-! ColouredHeapModel.canLoad(III)Z -/
theorem dX10_canLoad_0 : decode cX10_canLoad 0 = .ok (.aload_n 0, 1) := by decide +kernel
theorem dX10_canLoad_1 : decode cX10_canLoad 1 = .ok (.iload_n 2, 1) := by decide +kernel
theorem dX10_canLoad_2 : decode cX10_canLoad 2 = .ok (.iload_n 3, 1) := by decide +kernel
theorem dX10_canLoad_3 : decode cX10_canLoad 3 = .ok (.invokevirtual 352, 3) := by decide +kernel
theorem dX10_canLoad_6 : decode cX10_canLoad 6 = .ok (.istore 4, 2) := by decide +kernel
theorem dX10_canLoad_8 : decode cX10_canLoad 8 = .ok (.iload_n 1, 1) := by decide +kernel
theorem dX10_canLoad_9 : decode cX10_canLoad 9 = .ok (.invokestatic 349, 3) := by decide +kernel
theorem dX10_canLoad_12 : decode cX10_canLoad 12 = .ok (.ifCond .eq 30, 3) := by decide +kernel
theorem dX10_canLoad_15 : decode cX10_canLoad 15 = .ok (.iload 4, 2) := by decide +kernel
theorem dX10_canLoad_17 : decode cX10_canLoad 17 = .ok (.iconst (-1), 1) := by decide +kernel
theorem dX10_canLoad_18 : decode cX10_canLoad 18 = .ok (.if_icmp .eq 24, 3) := by decide +kernel
theorem dX10_canLoad_21 : decode cX10_canLoad 21 = .ok (.aload_n 0, 1) := by decide +kernel
theorem dX10_canLoad_22 : decode cX10_canLoad 22 = .ok (.aload_n 0, 1) := by decide +kernel
theorem dX10_canLoad_23 : decode cX10_canLoad 23 = .ok (.getfield 7, 3) := by decide +kernel
theorem dX10_canLoad_26 : decode cX10_canLoad 26 = .ok (.bipush 41, 2) := by decide +kernel
theorem dX10_canLoad_28 : decode cX10_canLoad 28 = .ok (.iload 4, 2) := by decide +kernel
theorem dX10_canLoad_30 : decode cX10_canLoad 30 = .ok (.iadd, 1) := by decide +kernel
theorem dX10_canLoad_31 : decode cX10_canLoad 31 = .ok (.iaload, 1) := by decide +kernel
theorem dX10_canLoad_32 : decode cX10_canLoad 32 = .ok (.invokevirtual 346, 3) := by decide +kernel
theorem dX10_canLoad_35 : decode cX10_canLoad 35 = .ok (.ifCond .eq 7, 3) := by decide +kernel
theorem dX10_canLoad_38 : decode cX10_canLoad 38 = .ok (.iconst 1, 1) := by decide +kernel
theorem dX10_canLoad_39 : decode cX10_canLoad 39 = .ok (.goto 4, 3) := by decide +kernel
theorem dX10_canLoad_42 : decode cX10_canLoad 42 = .ok (.iconst 0, 1) := by decide +kernel
theorem dX10_canLoad_43 : decode cX10_canLoad 43 = .ok (.ireturn, 1) := by decide +kernel
def f_X10_canLoad (M : xm) (a1 : Int32) (a2 : Int32) (a3 : Int32) : Option (Int32) := xb1 (f_X10_fieldAt M a2 a3) (fun v2 => (if (f_X10_isRoot a1) = 0 then some (0 : Int32) else (if v2 = (-1 : Int32) then some (0 : Int32) else if xin ((41 : Int32) + v2) 9878 = true then xb1 (f_X10_canMend M (M 1 (Int32.toNatClampNeg ((41 : Int32) + v2)))) (fun v9 => (if v9 = 0 then some (0 : Int32) else some (1 : Int32))) else none)))
set_option maxHeartbeats 4000000 in
set_option maxRecDepth 20000 in
theorem c_X10_canLoad (l : Launch) (E : xE) (b : Nat) (M : xm) (Lm : xn) (a1 : Int32) (a2 : Int32) (a3 : Int32) {r : Int32} (hf : f_X10_canLoad M a1 a2 a3 = some r) :
    xMet l E b NY yX10_canLoad cX10_canLoad 5 (some .boolean) (xR 5) [.ref (b + 0), .int a1, .int a2, .int a3] (cY E b M Lm) (some (.int r)) (xbo r = true) (cY E b M Lm) := by
  refine xMet.ofW (own := RX10) (by decide) rfl (Nat.le_of_ble_eq_true rfl) ?_
  intro p e s m below meth c H locs ls C hm hl
  have hx := C.1.1
  have hb := C.1.2.1
  have hl : lv_has ls 5 [(0, .ref (b + 0)), (1, .int a1), (2, .int a2), (3, .int a3)] := hl
  unfold f_X10_canLoad at hf
  refine lv_aload_n hx hb dX10_canLoad_0 rfl (lv_at hl 0 rfl) ?_
  refine lv_iload_n hx hb dX10_canLoad_1 rfl (lv_at hl 2 rfl) ?_
  refine lv_iload_n hx hb dX10_canLoad_2 rfl (lv_at hl 3 rfl) ?_
  obtain ⟨v2, hq1, hf⟩ := xb1_e hf
  refine x_callVi (As := [.int a2, .int a3]) (rest := []) C hm (c_X10_fieldAt l E b M Lm a2 a3 hq1) rfl cy_0 tc_X10_fieldAt tm_RX10_352 ti_X10_fieldAt ts_X10_fieldAt tn_RX10 td_X10_fieldAt rfl rfl ⟨Nat.le_of_ble_eq_true rfl, Nat.le_of_ble_eq_true rfl⟩ rfl hl.1 rfl (Nat.le_of_ble_eq_true rfl) ⟨Nat.zero_le _, Nat.zero_le _⟩ dX10_canLoad_3 (fun H locs hP3 hm => ?_)
  refine lv_istore (lv' := [(4, .int v2), (0, .ref (b + 0)), (1, .int a1), (2, .int a2), (3, .int a3)]) hx hb dX10_canLoad_6 hl (by decide) rfl (fun ls hl => ?_)
  refine lv_iload_n hx hb dX10_canLoad_8 rfl (lv_at hl 2 rfl) ?_
  refine x_callSi (As := [.int a1]) (rest := []) C hm (c_X10_isRoot l E b M Lm a1 rfl) tc_X10_isRoot tm_RX10_349 tz_X10_isRoot tn_RX10 td_X10_isRoot rfl rfl ⟨Nat.le_of_ble_eq_true rfl, Nat.le_of_ble_eq_true rfl⟩ rfl hl.1 rfl (Nat.le_of_ble_eq_true rfl) ⟨Nat.zero_le _, Nat.zero_le _⟩ dX10_canLoad_9 (fun H locs hP4 hm => ?_)
  refine lv_if_eq (tgt := 42) hx hb dX10_canLoad_12 (by decide) (fun hc5 => ?_) (fun hc5 => ?_)
  · have hf := xif_t hc5 hf
    refine lv_iconst (v := (0 : Int32)) hx hb dX10_canLoad_42 (by decide) ?_
    cases hf
    exact x_zret C hm (by decide) (by decide) dX10_canLoad_43
  have hf := xif_f hc5 hf
  refine lv_iload hx hb dX10_canLoad_15 (lv_at hl 0 rfl) ?_
  refine lv_iconst (v := (-1 : Int32)) hx hb dX10_canLoad_17 (by decide) ?_
  refine lv_icmp_eq (tgt := 42) hx hb dX10_canLoad_18 (by decide) (fun hc6 => ?_) (fun hc6 => ?_)
  · have hf := xif_t hc6 hf
    refine lv_iconst (v := (0 : Int32)) hx hb dX10_canLoad_42 (by decide) ?_
    cases hf
    exact x_zret C hm (by decide) (by decide) dX10_canLoad_43
  have hf := xif_f hc6 hf
  refine lv_aload_n hx hb dX10_canLoad_21 rfl (lv_at hl 1 rfl) ?_
  refine lv_aload_n hx hb dX10_canLoad_22 rfl (lv_at hl 1 rfl) ?_
  refine x_get C hm inX10 rfl 0 (by decide) tf_RX10_7 cy_0 rfl dX10_canLoad_23 ?_
  refine lv_bipush (v := (41 : Int32)) hx hb dX10_canLoad_26 (by decide) ?_
  refine lv_iload hx hb dX10_canLoad_28 (lv_at hl 0 rfl) ?_
  refine lv_iadd hx hb dX10_canLoad_30 ?_
  obtain ⟨hi7, hf⟩ := xif_s hf
  refine x_iald (j := (Int32.toNatClampNeg ((41 : Int32) + v2))) C hm cy_1 hi7 dX10_canLoad_31 rfl ?_
  obtain ⟨v9, hq8, hf⟩ := xb1_e hf
  refine x_callVi (As := [.int (M 1 (Int32.toNatClampNeg ((41 : Int32) + v2)))]) (rest := []) C hm (c_X10_canMend l E b M Lm (M 1 (Int32.toNatClampNeg ((41 : Int32) + v2))) hq8) rfl cy_0 tc_X10_canMend tm_RX10_346 ti_X10_canMend ts_X10_canMend tn_RX10 td_X10_canMend rfl rfl ⟨Nat.le_of_ble_eq_true rfl, Nat.le_of_ble_eq_true rfl⟩ rfl hl.1 rfl (Nat.le_of_ble_eq_true rfl) ⟨Nat.zero_le _, Nat.zero_le _⟩ dX10_canLoad_32 (fun H locs hP10 hm => ?_)
  refine lv_if_eq (tgt := 42) hx hb dX10_canLoad_35 (by decide) (fun hc11 => ?_) (fun hc11 => ?_)
  · have hf := xif_t hc11 hf
    refine lv_iconst (v := (0 : Int32)) hx hb dX10_canLoad_42 (by decide) ?_
    cases hf
    exact x_zret C hm (by decide) (by decide) dX10_canLoad_43
  have hf := xif_f hc11 hf
  refine lv_iconst (v := (1 : Int32)) hx hb dX10_canLoad_38 (by decide) ?_
  refine lv_goto (tgt := 43) hx hb dX10_canLoad_39 (by decide) ?_
  cases hf
  exact x_zret C hm (by decide) (by decide) dX10_canLoad_43
/-! ColouredHeapModel.comeTo(III)V -/
theorem dX10_comeTo_0 : decode cX10_comeTo 0 = .ok (.iload_n 1, 1) := by decide +kernel
theorem dX10_comeTo_1 : decode cX10_comeTo 1 = .ok (.ifCond .ge 4, 3) := by decide +kernel
theorem dX10_comeTo_4 : decode cX10_comeTo 4 = .ok (.return_, 1) := by decide +kernel
theorem dX10_comeTo_5 : decode cX10_comeTo 5 = .ok (.aload_n 0, 1) := by decide +kernel
theorem dX10_comeTo_6 : decode cX10_comeTo 6 = .ok (.iload_n 1, 1) := by decide +kernel
theorem dX10_comeTo_7 : decode cX10_comeTo 7 = .ok (.invokevirtual 331, 3) := by decide +kernel
theorem dX10_comeTo_10 : decode cX10_comeTo 10 = .ok (.istore 4, 2) := by decide +kernel
theorem dX10_comeTo_12 : decode cX10_comeTo 12 = .ok (.aload_n 0, 1) := by decide +kernel
theorem dX10_comeTo_13 : decode cX10_comeTo 13 = .ok (.iload 4, 2) := by decide +kernel
theorem dX10_comeTo_15 : decode cX10_comeTo 15 = .ok (.invokevirtual 74, 3) := by decide +kernel
theorem dX10_comeTo_18 : decode cX10_comeTo 18 = .ok (.ifCond .eq 28, 3) := by decide +kernel
theorem dX10_comeTo_21 : decode cX10_comeTo 21 = .ok (.iload 4, 2) := by decide +kernel
theorem dX10_comeTo_23 : decode cX10_comeTo 23 = .ok (.iload_n 3, 1) := by decide +kernel
theorem dX10_comeTo_24 : decode cX10_comeTo 24 = .ok (.if_icmp .eq 22, 3) := by decide +kernel
theorem dX10_comeTo_27 : decode cX10_comeTo 27 = .ok (.aload_n 0, 1) := by decide +kernel
theorem dX10_comeTo_28 : decode cX10_comeTo 28 = .ok (.getfield 46, 3) := by decide +kernel
theorem dX10_comeTo_31 : decode cX10_comeTo 31 = .ok (.iload 4, 2) := by decide +kernel
theorem dX10_comeTo_33 : decode cX10_comeTo 33 = .ok (.iaload, 1) := by decide +kernel
theorem dX10_comeTo_34 : decode cX10_comeTo 34 = .ok (.iconst (-1), 1) := by decide +kernel
theorem dX10_comeTo_35 : decode cX10_comeTo 35 = .ok (.if_icmp .ne 11, 3) := by decide +kernel
theorem dX10_comeTo_38 : decode cX10_comeTo 38 = .ok (.aload_n 0, 1) := by decide +kernel
theorem dX10_comeTo_39 : decode cX10_comeTo 39 = .ok (.getfield 46, 3) := by decide +kernel
theorem dX10_comeTo_42 : decode cX10_comeTo 42 = .ok (.iload 4, 2) := by decide +kernel
theorem dX10_comeTo_44 : decode cX10_comeTo 44 = .ok (.iload_n 2, 1) := by decide +kernel
theorem dX10_comeTo_45 : decode cX10_comeTo 45 = .ok (.iastore, 1) := by decide +kernel
theorem dX10_comeTo_46 : decode cX10_comeTo 46 = .ok (.return_, 1) := by decide +kernel
def f_X10_comeTo (M : xm) (a1 : Int32) (a2 : Int32) (a3 : Int32) : Option (xm) := (if 0 ≤ a1 then xb1 (f_X10_whereOf M a1) (fun v3 => xb1 (f_X10_isHead M v3) (fun v6 => (if v6 = 0 then some M else (if v3 = a3 then some M else if xin v3 64 = true then (if (M 10 (Int32.toNatClampNeg v3)) = (-1 : Int32) then xlet (up2 M 10 (Int32.toNatClampNeg v3) a2) (fun M12 => some M12) else some M) else none)))) else some M)
set_option maxHeartbeats 4000000 in
set_option maxRecDepth 20000 in
theorem c_X10_comeTo (l : Launch) (E : xE) (b : Nat) (M : xm) (Lm : xn) (a1 : Int32) (a2 : Int32) (a3 : Int32) {M' : xm} (hf : f_X10_comeTo M a1 a2 a3 = some M') :
    xMet l E b NY yX10_comeTo cX10_comeTo 5 none (xR 4) [.ref (b + 0), .int a1, .int a2, .int a3] (cY E b M Lm) none True (cY E b M' Lm) := by
  refine xMet.ofW (own := RX10) (by decide) rfl (Nat.le_of_ble_eq_true rfl) ?_
  intro p e s m below meth c H locs ls C hm hl
  have hx := C.1.1
  have hb := C.1.2.1
  have hl : lv_has ls 5 [(0, .ref (b + 0)), (1, .int a1), (2, .int a2), (3, .int a3)] := hl
  unfold f_X10_comeTo at hf
  refine lv_iload_n hx hb dX10_comeTo_0 rfl (lv_at hl 1 rfl) ?_
  refine lv_if_ge (tgt := 5) hx hb dX10_comeTo_1 (by decide) (fun hc1 => ?_) (fun hc1 => ?_)
  rotate_left
  · have hf := xif_f hc1 hf
    cases hf
    exact x_vret C hm trivial dX10_comeTo_4
  have hf := xif_t hc1 hf
  refine lv_aload_n hx hb dX10_comeTo_5 rfl (lv_at hl 0 rfl) ?_
  refine lv_iload_n hx hb dX10_comeTo_6 rfl (lv_at hl 1 rfl) ?_
  obtain ⟨v3, hq2, hf⟩ := xb1_e hf
  refine x_callVi (As := [.int a1]) (rest := []) C hm (c_X10_whereOf l E b M Lm a1 hq2) rfl cy_0 tc_X10_whereOf tm_RX10_331 ti_X10_whereOf ts_X10_whereOf tn_RX10 td_X10_whereOf rfl rfl ⟨Nat.le_of_ble_eq_true rfl, Nat.le_of_ble_eq_true rfl⟩ rfl hl.1 rfl (Nat.le_of_ble_eq_true rfl) ⟨Nat.zero_le _, Nat.zero_le _⟩ dX10_comeTo_7 (fun H locs hP4 hm => ?_)
  refine lv_istore (lv' := [(4, .int v3), (0, .ref (b + 0)), (1, .int a1), (2, .int a2), (3, .int a3)]) hx hb dX10_comeTo_10 hl (by decide) rfl (fun ls hl => ?_)
  refine lv_aload_n hx hb dX10_comeTo_12 rfl (lv_at hl 1 rfl) ?_
  refine lv_iload hx hb dX10_comeTo_13 (lv_at hl 0 rfl) ?_
  obtain ⟨v6, hq5, hf⟩ := xb1_e hf
  refine x_callVi (As := [.int v3]) (rest := []) C hm (c_X10_isHead l E b M Lm v3 hq5) rfl cy_0 tc_X10_isHead tm_RX10_74 ti_X10_isHead ts_X10_isHead tn_RX10 td_X10_isHead rfl rfl ⟨Nat.le_of_ble_eq_true rfl, Nat.le_of_ble_eq_true rfl⟩ rfl hl.1 rfl (Nat.le_of_ble_eq_true rfl) ⟨Nat.zero_le _, Nat.zero_le _⟩ dX10_comeTo_15 (fun H locs hP7 hm => ?_)
  refine lv_if_eq (tgt := 46) hx hb dX10_comeTo_18 (by decide) (fun hc8 => ?_) (fun hc8 => ?_)
  · have hf := xif_t hc8 hf
    cases hf
    exact x_vret C hm trivial dX10_comeTo_46
  have hf := xif_f hc8 hf
  refine lv_iload hx hb dX10_comeTo_21 (lv_at hl 0 rfl) ?_
  refine lv_iload_n hx hb dX10_comeTo_23 rfl (lv_at hl 4 rfl) ?_
  refine lv_icmp_eq (tgt := 46) hx hb dX10_comeTo_24 (by decide) (fun hc9 => ?_) (fun hc9 => ?_)
  · have hf := xif_t hc9 hf
    cases hf
    exact x_vret C hm trivial dX10_comeTo_46
  have hf := xif_f hc9 hf
  refine lv_aload_n hx hb dX10_comeTo_27 rfl (lv_at hl 1 rfl) ?_
  refine x_get C hm inX10 rfl 24 (by decide) tf_RX10_46 cy_0 rfl dX10_comeTo_28 ?_
  refine lv_iload hx hb dX10_comeTo_31 (lv_at hl 0 rfl) ?_
  obtain ⟨hi10, hf⟩ := xif_s hf
  refine x_iald (j := (Int32.toNatClampNeg v3)) C hm cy_10 hi10 dX10_comeTo_33 rfl ?_
  refine lv_iconst (v := (-1 : Int32)) hx hb dX10_comeTo_34 (by decide) ?_
  refine lv_icmp_ne (tgt := 46) hx hb dX10_comeTo_35 (by decide) (fun hc11 => ?_) (fun hc11 => ?_)
  · have hf := xif_f hc11 hf
    cases hf
    exact x_vret C hm trivial dX10_comeTo_46
  have hf := xif_t hc11 hf
  refine lv_aload_n hx hb dX10_comeTo_38 rfl (lv_at hl 1 rfl) ?_
  refine x_get C hm inX10 rfl 24 (by decide) tf_RX10_46 cy_0 rfl dX10_comeTo_39 ?_
  refine lv_iload hx hb dX10_comeTo_42 (lv_at hl 0 rfl) ?_
  refine lv_iload_n hx hb dX10_comeTo_44 rfl (lv_at hl 3 rfl) ?_
  obtain ⟨M12, eM12, hf⟩ := xlet_x hf
  refine x_iast (j := (Int32.toNatClampNeg v3)) (cf' := cY E b M12 Lm) C hm cy_10 hi10 dX10_comeTo_45 rfl (by rw [eM12]; exact cyu_10) (by rw [eM12]; exact cY_o) (fun H locs hm => ?_)
  cases hf
  exact x_vret C hm trivial dX10_comeTo_46
/-! ColouredHeapModel.layLoads(I)V -/
theorem dX10_layLoads_0 : decode cX10_layLoads 0 = .ok (.iconst 0, 1) := by decide +kernel
theorem dX10_layLoads_1 : decode cX10_layLoads 1 = .ok (.istore_n 2, 1) := by decide +kernel
theorem dX10_layLoads_2 : decode cX10_layLoads 2 = .ok (.iload_n 2, 1) := by decide +kernel
theorem dX10_layLoads_3 : decode cX10_layLoads 3 = .ok (.bipush 64, 2) := by decide +kernel
theorem dX10_layLoads_5 : decode cX10_layLoads 5 = .ok (.if_icmp .ge 16, 3) := by decide +kernel
theorem dX10_layLoads_8 : decode cX10_layLoads 8 = .ok (.aload_n 0, 1) := by decide +kernel
theorem dX10_layLoads_9 : decode cX10_layLoads 9 = .ok (.getfield 46, 3) := by decide +kernel
theorem dX10_layLoads_12 : decode cX10_layLoads 12 = .ok (.iload_n 2, 1) := by decide +kernel
theorem dX10_layLoads_13 : decode cX10_layLoads 13 = .ok (.iconst (-1), 1) := by decide +kernel
theorem dX10_layLoads_14 : decode cX10_layLoads 14 = .ok (.iastore, 1) := by decide +kernel
theorem dX10_layLoads_15 : decode cX10_layLoads 15 = .ok (.iinc 2 1, 3) := by decide +kernel
theorem dX10_layLoads_18 : decode cX10_layLoads 18 = .ok (.goto (-16), 3) := by decide +kernel
theorem dX10_layLoads_21 : decode cX10_layLoads 21 = .ok (.iconst 0, 1) := by decide +kernel
theorem dX10_layLoads_22 : decode cX10_layLoads 22 = .ok (.istore_n 2, 1) := by decide +kernel
theorem dX10_layLoads_23 : decode cX10_layLoads 23 = .ok (.iload_n 2, 1) := by decide +kernel
theorem dX10_layLoads_24 : decode cX10_layLoads 24 = .ok (.bipush 6, 2) := by decide +kernel
theorem dX10_layLoads_26 : decode cX10_layLoads 26 = .ok (.if_icmp .ge 24, 3) := by decide +kernel
theorem dX10_layLoads_29 : decode cX10_layLoads 29 = .ok (.aload_n 0, 1) := by decide +kernel
theorem dX10_layLoads_30 : decode cX10_layLoads 30 = .ok (.aload_n 0, 1) := by decide +kernel
theorem dX10_layLoads_31 : decode cX10_layLoads 31 = .ok (.getfield 7, 3) := by decide +kernel
theorem dX10_layLoads_34 : decode cX10_layLoads 34 = .ok (.bipush 29, 2) := by decide +kernel
theorem dX10_layLoads_36 : decode cX10_layLoads 36 = .ok (.iload_n 2, 1) := by decide +kernel
theorem dX10_layLoads_37 : decode cX10_layLoads 37 = .ok (.iadd, 1) := by decide +kernel
theorem dX10_layLoads_38 : decode cX10_layLoads 38 = .ok (.iaload, 1) := by decide +kernel
theorem dX10_layLoads_39 : decode cX10_layLoads 39 = .ok (.iconst 0, 1) := by decide +kernel
theorem dX10_layLoads_40 : decode cX10_layLoads 40 = .ok (.iload_n 1, 1) := by decide +kernel
theorem dX10_layLoads_41 : decode cX10_layLoads 41 = .ok (.invokevirtual 457, 3) := by decide +kernel
theorem dX10_layLoads_44 : decode cX10_layLoads 44 = .ok (.iinc 2 1, 3) := by decide +kernel
theorem dX10_layLoads_47 : decode cX10_layLoads 47 = .ok (.goto (-24), 3) := by decide +kernel
theorem dX10_layLoads_50 : decode cX10_layLoads 50 = .ok (.iconst 0, 1) := by decide +kernel
theorem dX10_layLoads_51 : decode cX10_layLoads 51 = .ok (.istore_n 2, 1) := by decide +kernel
theorem dX10_layLoads_52 : decode cX10_layLoads 52 = .ok (.iload_n 2, 1) := by decide +kernel
theorem dX10_layLoads_53 : decode cX10_layLoads 53 = .ok (.bipush 64, 2) := by decide +kernel
theorem dX10_layLoads_55 : decode cX10_layLoads 55 = .ok (.if_icmp .ge 72, 3) := by decide +kernel
theorem dX10_layLoads_58 : decode cX10_layLoads 58 = .ok (.iconst 0, 1) := by decide +kernel
theorem dX10_layLoads_59 : decode cX10_layLoads 59 = .ok (.istore_n 3, 1) := by decide +kernel
theorem dX10_layLoads_60 : decode cX10_layLoads 60 = .ok (.iload_n 3, 1) := by decide +kernel
theorem dX10_layLoads_61 : decode cX10_layLoads 61 = .ok (.bipush 64, 2) := by decide +kernel
theorem dX10_layLoads_63 : decode cX10_layLoads 63 = .ok (.if_icmp .ge 58, 3) := by decide +kernel
theorem dX10_layLoads_66 : decode cX10_layLoads 66 = .ok (.iconst 1, 1) := by decide +kernel
theorem dX10_layLoads_67 : decode cX10_layLoads 67 = .ok (.istore 4, 2) := by decide +kernel
theorem dX10_layLoads_69 : decode cX10_layLoads 69 = .ok (.aload_n 0, 1) := by decide +kernel
theorem dX10_layLoads_70 : decode cX10_layLoads 70 = .ok (.getfield 46, 3) := by decide +kernel
theorem dX10_layLoads_73 : decode cX10_layLoads 73 = .ok (.iload_n 3, 1) := by decide +kernel
theorem dX10_layLoads_74 : decode cX10_layLoads 74 = .ok (.iaload, 1) := by decide +kernel
theorem dX10_layLoads_75 : decode cX10_layLoads 75 = .ok (.iload_n 2, 1) := by decide +kernel
theorem dX10_layLoads_76 : decode cX10_layLoads 76 = .ok (.if_icmp .ne 39, 3) := by decide +kernel
theorem dX10_layLoads_79 : decode cX10_layLoads 79 = .ok (.iload 4, 2) := by decide +kernel
theorem dX10_layLoads_81 : decode cX10_layLoads 81 = .ok (.aload_n 0, 1) := by decide +kernel
theorem dX10_layLoads_82 : decode cX10_layLoads 82 = .ok (.iload_n 3, 1) := by decide +kernel
theorem dX10_layLoads_83 : decode cX10_layLoads 83 = .ok (.invokevirtual 67, 3) := by decide +kernel
theorem dX10_layLoads_86 : decode cX10_layLoads 86 = .ok (.if_icmp .gt 29, 3) := by decide +kernel
theorem dX10_layLoads_89 : decode cX10_layLoads 89 = .ok (.aload_n 0, 1) := by decide +kernel
theorem dX10_layLoads_90 : decode cX10_layLoads 90 = .ok (.aload_n 0, 1) := by decide +kernel
theorem dX10_layLoads_91 : decode cX10_layLoads 91 = .ok (.getfield 7, 3) := by decide +kernel
theorem dX10_layLoads_94 : decode cX10_layLoads 94 = .ok (.bipush 41, 2) := by decide +kernel
theorem dX10_layLoads_96 : decode cX10_layLoads 96 = .ok (.iload_n 3, 1) := by decide +kernel
theorem dX10_layLoads_97 : decode cX10_layLoads 97 = .ok (.iadd, 1) := by decide +kernel
theorem dX10_layLoads_98 : decode cX10_layLoads 98 = .ok (.iload 4, 2) := by decide +kernel
theorem dX10_layLoads_100 : decode cX10_layLoads 100 = .ok (.iadd, 1) := by decide +kernel
theorem dX10_layLoads_101 : decode cX10_layLoads 101 = .ok (.iaload, 1) := by decide +kernel
theorem dX10_layLoads_102 : decode cX10_layLoads 102 = .ok (.iload_n 2, 1) := by decide +kernel
theorem dX10_layLoads_103 : decode cX10_layLoads 103 = .ok (.iconst 1, 1) := by decide +kernel
theorem dX10_layLoads_104 : decode cX10_layLoads 104 = .ok (.iadd, 1) := by decide +kernel
theorem dX10_layLoads_105 : decode cX10_layLoads 105 = .ok (.iload_n 1, 1) := by decide +kernel
theorem dX10_layLoads_106 : decode cX10_layLoads 106 = .ok (.invokevirtual 457, 3) := by decide +kernel
theorem dX10_layLoads_109 : decode cX10_layLoads 109 = .ok (.iinc 4 1, 3) := by decide +kernel
theorem dX10_layLoads_112 : decode cX10_layLoads 112 = .ok (.goto (-43), 3) := by decide +kernel
theorem dX10_layLoads_115 : decode cX10_layLoads 115 = .ok (.iinc 3 1, 3) := by decide +kernel
theorem dX10_layLoads_118 : decode cX10_layLoads 118 = .ok (.goto (-58), 3) := by decide +kernel
theorem dX10_layLoads_121 : decode cX10_layLoads 121 = .ok (.iinc 2 1, 3) := by decide +kernel
theorem dX10_layLoads_124 : decode cX10_layLoads 124 = .ok (.goto (-72), 3) := by decide +kernel
theorem dX10_layLoads_127 : decode cX10_layLoads 127 = .ok (.return_, 1) := by decide +kernel
def g_X10_layLoads_2 (x1 : Int32) : Nat → xm → Int32 → Option ((xm))
  | 0, _, _ => none
  | n + 1, M3, x2 => (if (64 : Int32) ≤ x2 then some (M3) else if xin x2 64 = true then xlet (up2 M3 10 (Int32.toNatClampNeg x2) (-1 : Int32)) (fun M7 => xlet (x2 + (1 : Int32)) (fun v8 => g_X10_layLoads_2 x1 n M7 v8)) else none)
def g_X10_layLoads_23 (x10 : Int32) : Nat → xm → Int32 → Option ((xm))
  | 0, _, _ => none
  | n + 1, M12, x11 => (if (6 : Int32) ≤ x11 then some (M12) else if xin ((29 : Int32) + x11) 9878 = true then xb1 (f_X10_comeTo M12 (M12 1 (Int32.toNatClampNeg ((29 : Int32) + x11))) (0 : Int32) x10) (fun M17 => xlet (x11 + (1 : Int32)) (fun v19 => g_X10_layLoads_23 x10 n M17 v19)) else none)
def g_X10_layLoads_69 (x32 : Int32) (x33 : Int32) (x34 : Int32) : Nat → xm → Int32 → Option ((xm))
  | 0, _, _ => none
  | n + 1, M36, x35 => if xin x34 64 = true then (if (M36 10 (Int32.toNatClampNeg x34)) = x33 then xb1 (f_X10_fieldsOf M36 x34) (fun v41 => (if v41 < x35 then some (M36) else if xin (((41 : Int32) + x34) + x35) 9878 = true then xb1 (f_X10_comeTo M36 (M36 1 (Int32.toNatClampNeg (((41 : Int32) + x34) + x35))) (x33 + (1 : Int32)) x32) (fun M46 => xlet (x35 + (1 : Int32)) (fun v48 => g_X10_layLoads_69 x32 x33 x34 n M46 v48)) else none)) else some (M36)) else none
def g_X10_layLoads_60 (x26 : Int32) (x27 : Int32) : Nat → xm → Int32 → Option ((xm))
  | 0, _, _ => none
  | n + 1, M29, x28 => (if (64 : Int32) ≤ x28 then some (M29) else xb1 (g_X10_layLoads_69 x26 x27 x28 xfuel M29 (1 : Int32)) (fun M49 => xlet (x28 + (1 : Int32)) (fun v50 => g_X10_layLoads_60 x26 x27 n M49 v50)))
def g_X10_layLoads_52 (x21 : Int32) : Nat → xm → Int32 → Option ((xm))
  | 0, _, _ => none
  | n + 1, M23, x22 => (if (64 : Int32) ≤ x22 then some (M23) else xb1 (g_X10_layLoads_60 x21 x22 xfuel M23 (0 : Int32)) (fun M51 => xlet (x22 + (1 : Int32)) (fun v52 => g_X10_layLoads_52 x21 n M51 v52)))
def f_X10_layLoads (M : xm) (a1 : Int32) : Option (xm) := xb1 (g_X10_layLoads_2 a1 xfuel M (0 : Int32)) (fun M9 => xb1 (g_X10_layLoads_23 a1 xfuel M9 (0 : Int32)) (fun M20 => xb1 (g_X10_layLoads_52 a1 xfuel M20 (0 : Int32)) (fun M53 => some M53)))
set_option maxHeartbeats 4000000 in
set_option maxRecDepth 20000 in
theorem j_X10_layLoads_2 {p : Program} {l : Launch} {e : Env} {s : State} {m : MethodId} {args : Array Value} {below : List Frame} {meth : Method} {c : Code} {Q : State → Prop} {E : xE} {b : Nat} (C : xC p s m args meth c cX10_layLoads 5 RX10 none E b) {Lm : xn} (x1 : Int32) {y4 : xm}
    (kx0 : ∀ (H : Heap) (locs : List Loc) (ls : Array Slot), xM E b NY (cY E b y4 Lm) s.heap H locs → lv_has ls 5 [(0, .ref (b + 0)), (1, .int x1)] → W p l e (xR 5) s m args below meth c H locs 0 0 Q (F0 m 21 ls [])) :
    ∀ (n : Nat) (M3 : xm) (x2 : Int32) (H : Heap) (locs : List Loc) (ls : Array Slot), g_X10_layLoads_2 x1 n M3 x2 = some y4 → xM E b NY (cY E b M3 Lm) s.heap H locs → lv_has ls 5 [(0, .ref (b + 0)), (1, .int x1), (2, .int x2)] → W p l e (xR 5) s m args below meth c H locs 0 0 Q (F0 m 2 ls []) := by
  have hx := C.1.1
  have hb := C.1.2.1
  intro n
  induction n with
  | zero =>
    intro M3 x2 H locs ls hf hm hl
    rw [g_X10_layLoads_2] at hf
    cases hf
  | succ n ih =>
    intro M3 x2 H locs ls hf hm hl
    rw [g_X10_layLoads_2] at hf
    refine lv_iload_n hx hb dX10_layLoads_2 rfl (lv_at hl 2 rfl) ?_
    refine lv_bipush (v := (64 : Int32)) hx hb dX10_layLoads_3 (by decide) ?_
    refine lv_icmp_ge (tgt := 21) hx hb dX10_layLoads_5 (by decide) (fun hc5 => ?_) (fun hc5 => ?_)
    · have hf := xif_t hc5 hf
      cases hf
      exact kx0 H locs ls hm (lv_sub hl [0, 1] rfl)
    have hf := xif_f hc5 hf
    refine lv_aload_n hx hb dX10_layLoads_8 rfl (lv_at hl 0 rfl) ?_
    refine x_get C hm inX10 rfl 24 (by decide) tf_RX10_46 cy_0 rfl dX10_layLoads_9 ?_
    refine lv_iload_n hx hb dX10_layLoads_12 rfl (lv_at hl 2 rfl) ?_
    refine lv_iconst (v := (-1 : Int32)) hx hb dX10_layLoads_13 (by decide) ?_
    obtain ⟨hi6, hf⟩ := xif_s hf
    obtain ⟨M7, eM7, hf⟩ := xlet_x hf
    refine x_iast (j := (Int32.toNatClampNeg x2)) (cf' := cY E b M7 Lm) C hm cy_10 hi6 dX10_layLoads_14 rfl (by rw [eM7]; exact cyu_10) (by rw [eM7]; exact cY_o) (fun H locs hm => ?_)
    obtain ⟨v8, ev8, hf⟩ := xlet_x hf
    refine lv_iinc (v := v8) (lv' := [(2, .int v8), (0, .ref (b + 0)), (1, .int x1)]) hx hb dX10_layLoads_15 hl (k := 2) rfl (by rw [ev8]; rfl) (by decide) rfl (fun ls hl => ?_)
    refine lv_goto (tgt := 2) hx hb dX10_layLoads_18 (by decide) ?_
    exact ih M7 v8 H locs ls hf hm (lv_sub hl [1, 2, 0] rfl)
set_option maxHeartbeats 4000000 in
set_option maxRecDepth 20000 in
theorem j_X10_layLoads_23 {p : Program} {l : Launch} {e : Env} {s : State} {m : MethodId} {args : Array Value} {below : List Frame} {meth : Method} {c : Code} {Q : State → Prop} {E : xE} {b : Nat} (C : xC p s m args meth c cX10_layLoads 5 RX10 none E b) {Lm : xn} (x10 : Int32) {y13 : xm}
    (kx0 : ∀ (H : Heap) (locs : List Loc) (ls : Array Slot), xM E b NY (cY E b y13 Lm) s.heap H locs → lv_has ls 5 [(0, .ref (b + 0)), (1, .int x10)] → W p l e (xR 5) s m args below meth c H locs 0 0 Q (F0 m 50 ls [])) :
    ∀ (n : Nat) (M12 : xm) (x11 : Int32) (H : Heap) (locs : List Loc) (ls : Array Slot), g_X10_layLoads_23 x10 n M12 x11 = some y13 → xM E b NY (cY E b M12 Lm) s.heap H locs → lv_has ls 5 [(0, .ref (b + 0)), (1, .int x10), (2, .int x11)] → W p l e (xR 5) s m args below meth c H locs 0 0 Q (F0 m 23 ls []) := by
  have hx := C.1.1
  have hb := C.1.2.1
  intro n
  induction n with
  | zero =>
    intro M12 x11 H locs ls hf hm hl
    rw [g_X10_layLoads_23] at hf
    cases hf
  | succ n ih =>
    intro M12 x11 H locs ls hf hm hl
    rw [g_X10_layLoads_23] at hf
    refine lv_iload_n hx hb dX10_layLoads_23 rfl (lv_at hl 2 rfl) ?_
    refine lv_bipush (v := (6 : Int32)) hx hb dX10_layLoads_24 (by decide) ?_
    refine lv_icmp_ge (tgt := 50) hx hb dX10_layLoads_26 (by decide) (fun hc14 => ?_) (fun hc14 => ?_)
    · have hf := xif_t hc14 hf
      cases hf
      exact kx0 H locs ls hm (lv_sub hl [0, 1] rfl)
    have hf := xif_f hc14 hf
    refine lv_aload_n hx hb dX10_layLoads_29 rfl (lv_at hl 0 rfl) ?_
    refine lv_aload_n hx hb dX10_layLoads_30 rfl (lv_at hl 0 rfl) ?_
    refine x_get C hm inX10 rfl 0 (by decide) tf_RX10_7 cy_0 rfl dX10_layLoads_31 ?_
    refine lv_bipush (v := (29 : Int32)) hx hb dX10_layLoads_34 (by decide) ?_
    refine lv_iload_n hx hb dX10_layLoads_36 rfl (lv_at hl 2 rfl) ?_
    refine lv_iadd hx hb dX10_layLoads_37 ?_
    obtain ⟨hi15, hf⟩ := xif_s hf
    refine x_iald (j := (Int32.toNatClampNeg ((29 : Int32) + x11))) C hm cy_1 hi15 dX10_layLoads_38 rfl ?_
    refine lv_iconst (v := (0 : Int32)) hx hb dX10_layLoads_39 (by decide) ?_
    refine lv_iload_n hx hb dX10_layLoads_40 rfl (lv_at hl 1 rfl) ?_
    obtain ⟨M17, hq16, hf⟩ := xb1_e hf
    refine x_callVv (As := [.int (M12 1 (Int32.toNatClampNeg ((29 : Int32) + x11))), .int (0 : Int32), .int x10]) (rest := []) C hm (c_X10_comeTo l E b M12 Lm (M12 1 (Int32.toNatClampNeg ((29 : Int32) + x11))) (0 : Int32) x10 hq16) rfl cy_0 tc_X10_comeTo tm_RX10_457 ti_X10_comeTo ts_X10_comeTo tn_RX10 td_X10_comeTo rfl rfl ⟨Nat.le_of_ble_eq_true rfl, Nat.le_of_ble_eq_true rfl⟩ rfl hl.1 rfl (Nat.le_of_ble_eq_true rfl) ⟨Nat.zero_le _, Nat.zero_le _⟩ dX10_layLoads_41 (fun H locs hP18 hm => ?_)
    obtain ⟨v19, ev19, hf⟩ := xlet_x hf
    refine lv_iinc (v := v19) (lv' := [(2, .int v19), (0, .ref (b + 0)), (1, .int x10)]) hx hb dX10_layLoads_44 hl (k := 2) rfl (by rw [ev19]; rfl) (by decide) rfl (fun ls hl => ?_)
    refine lv_goto (tgt := 23) hx hb dX10_layLoads_47 (by decide) ?_
    exact ih M17 v19 H locs ls hf hm (lv_sub hl [1, 2, 0] rfl)
set_option maxHeartbeats 4000000 in
set_option maxRecDepth 20000 in
theorem j_X10_layLoads_69 {p : Program} {l : Launch} {e : Env} {s : State} {m : MethodId} {args : Array Value} {below : List Frame} {meth : Method} {c : Code} {Q : State → Prop} {E : xE} {b : Nat} (C : xC p s m args meth c cX10_layLoads 5 RX10 none E b) {Lm : xn} (x32 : Int32) (x33 : Int32) (x34 : Int32) {y37 : xm}
    (kx0 : ∀ (H : Heap) (locs : List Loc) (ls : Array Slot), xM E b NY (cY E b y37 Lm) s.heap H locs → lv_has ls 5 [(0, .ref (b + 0)), (1, .int x32), (2, .int x33), (3, .int x34)] → W p l e (xR 5) s m args below meth c H locs 0 0 Q (F0 m 115 ls [])) :
    ∀ (n : Nat) (M36 : xm) (x35 : Int32) (H : Heap) (locs : List Loc) (ls : Array Slot), g_X10_layLoads_69 x32 x33 x34 n M36 x35 = some y37 → xM E b NY (cY E b M36 Lm) s.heap H locs → lv_has ls 5 [(0, .ref (b + 0)), (1, .int x32), (2, .int x33), (3, .int x34), (4, .int x35)] → W p l e (xR 5) s m args below meth c H locs 0 0 Q (F0 m 69 ls []) := by
  have hx := C.1.1
  have hb := C.1.2.1
  intro n
  induction n with
  | zero =>
    intro M36 x35 H locs ls hf hm hl
    rw [g_X10_layLoads_69] at hf
    cases hf
  | succ n ih =>
    intro M36 x35 H locs ls hf hm hl
    rw [g_X10_layLoads_69] at hf
    refine lv_aload_n hx hb dX10_layLoads_69 rfl (lv_at hl 0 rfl) ?_
    refine x_get C hm inX10 rfl 24 (by decide) tf_RX10_46 cy_0 rfl dX10_layLoads_70 ?_
    refine lv_iload_n hx hb dX10_layLoads_73 rfl (lv_at hl 3 rfl) ?_
    obtain ⟨hi38, hf⟩ := xif_s hf
    refine x_iald (j := (Int32.toNatClampNeg x34)) C hm cy_10 hi38 dX10_layLoads_74 rfl ?_
    refine lv_iload_n hx hb dX10_layLoads_75 rfl (lv_at hl 2 rfl) ?_
    refine lv_icmp_ne (tgt := 115) hx hb dX10_layLoads_76 (by decide) (fun hc39 => ?_) (fun hc39 => ?_)
    · have hf := xif_f hc39 hf
      cases hf
      exact kx0 H locs ls hm (lv_sub hl [0, 1, 2, 3] rfl)
    have hf := xif_t hc39 hf
    refine lv_iload hx hb dX10_layLoads_79 (lv_at hl 4 rfl) ?_
    refine lv_aload_n hx hb dX10_layLoads_81 rfl (lv_at hl 0 rfl) ?_
    refine lv_iload_n hx hb dX10_layLoads_82 rfl (lv_at hl 3 rfl) ?_
    obtain ⟨v41, hq40, hf⟩ := xb1_e hf
    refine x_callVi (As := [.int x34]) (rest := [.int x35]) C hm (c_X10_fieldsOf l E b M36 Lm x34 hq40) rfl cy_0 tc_X10_fieldsOf tm_RX10_67 ti_X10_fieldsOf ts_X10_fieldsOf tn_RX10 td_X10_fieldsOf rfl rfl ⟨Nat.le_of_ble_eq_true rfl, Nat.le_of_ble_eq_true rfl⟩ rfl hl.1 rfl (Nat.le_of_ble_eq_true rfl) ⟨Nat.zero_le _, Nat.zero_le _⟩ dX10_layLoads_83 (fun H locs hP42 hm => ?_)
    refine lv_icmp_gt (tgt := 115) hx hb dX10_layLoads_86 (by decide) (fun hc43 => ?_) (fun hc43 => ?_)
    · have hf := xif_t hc43 hf
      cases hf
      exact kx0 H locs ls hm (lv_sub hl [0, 1, 2, 3] rfl)
    have hf := xif_f hc43 hf
    refine lv_aload_n hx hb dX10_layLoads_89 rfl (lv_at hl 0 rfl) ?_
    refine lv_aload_n hx hb dX10_layLoads_90 rfl (lv_at hl 0 rfl) ?_
    refine x_get C hm inX10 rfl 0 (by decide) tf_RX10_7 cy_0 rfl dX10_layLoads_91 ?_
    refine lv_bipush (v := (41 : Int32)) hx hb dX10_layLoads_94 (by decide) ?_
    refine lv_iload_n hx hb dX10_layLoads_96 rfl (lv_at hl 3 rfl) ?_
    refine lv_iadd hx hb dX10_layLoads_97 ?_
    refine lv_iload hx hb dX10_layLoads_98 (lv_at hl 4 rfl) ?_
    refine lv_iadd hx hb dX10_layLoads_100 ?_
    obtain ⟨hi44, hf⟩ := xif_s hf
    refine x_iald (j := (Int32.toNatClampNeg (((41 : Int32) + x34) + x35))) C hm cy_1 hi44 dX10_layLoads_101 rfl ?_
    refine lv_iload_n hx hb dX10_layLoads_102 rfl (lv_at hl 2 rfl) ?_
    refine lv_iconst (v := (1 : Int32)) hx hb dX10_layLoads_103 (by decide) ?_
    refine lv_iadd hx hb dX10_layLoads_104 ?_
    refine lv_iload_n hx hb dX10_layLoads_105 rfl (lv_at hl 1 rfl) ?_
    obtain ⟨M46, hq45, hf⟩ := xb1_e hf
    refine x_callVv (As := [.int (M36 1 (Int32.toNatClampNeg (((41 : Int32) + x34) + x35))), .int (x33 + (1 : Int32)), .int x32]) (rest := []) C hm (c_X10_comeTo l E b M36 Lm (M36 1 (Int32.toNatClampNeg (((41 : Int32) + x34) + x35))) (x33 + (1 : Int32)) x32 hq45) rfl cy_0 tc_X10_comeTo tm_RX10_457 ti_X10_comeTo ts_X10_comeTo tn_RX10 td_X10_comeTo rfl rfl ⟨Nat.le_of_ble_eq_true rfl, Nat.le_of_ble_eq_true rfl⟩ rfl hl.1 rfl (Nat.le_of_ble_eq_true rfl) ⟨Nat.zero_le _, Nat.zero_le _⟩ dX10_layLoads_106 (fun H locs hP47 hm => ?_)
    obtain ⟨v48, ev48, hf⟩ := xlet_x hf
    refine lv_iinc (v := v48) (lv' := [(4, .int v48), (0, .ref (b + 0)), (1, .int x32), (2, .int x33), (3, .int x34)]) hx hb dX10_layLoads_109 hl (k := 4) rfl (by rw [ev48]; rfl) (by decide) rfl (fun ls hl => ?_)
    refine lv_goto (tgt := 69) hx hb dX10_layLoads_112 (by decide) ?_
    exact ih M46 v48 H locs ls hf hm (lv_sub hl [1, 2, 3, 4, 0] rfl)
set_option maxHeartbeats 4000000 in
set_option maxRecDepth 20000 in
theorem j_X10_layLoads_60 {p : Program} {l : Launch} {e : Env} {s : State} {m : MethodId} {args : Array Value} {below : List Frame} {meth : Method} {c : Code} {Q : State → Prop} {E : xE} {b : Nat} (C : xC p s m args meth c cX10_layLoads 5 RX10 none E b) {Lm : xn} (x26 : Int32) (x27 : Int32) {y30 : xm}
    (kx0 : ∀ (H : Heap) (locs : List Loc) (ls : Array Slot), xM E b NY (cY E b y30 Lm) s.heap H locs → lv_has ls 5 [(0, .ref (b + 0)), (1, .int x26), (2, .int x27)] → W p l e (xR 5) s m args below meth c H locs 0 0 Q (F0 m 121 ls [])) :
    ∀ (n : Nat) (M29 : xm) (x28 : Int32) (H : Heap) (locs : List Loc) (ls : Array Slot), g_X10_layLoads_60 x26 x27 n M29 x28 = some y30 → xM E b NY (cY E b M29 Lm) s.heap H locs → lv_has ls 5 [(0, .ref (b + 0)), (1, .int x26), (2, .int x27), (3, .int x28)] → W p l e (xR 5) s m args below meth c H locs 0 0 Q (F0 m 60 ls []) := by
  have hx := C.1.1
  have hb := C.1.2.1
  intro n
  induction n with
  | zero =>
    intro M29 x28 H locs ls hf hm hl
    rw [g_X10_layLoads_60] at hf
    cases hf
  | succ n ih =>
    intro M29 x28 H locs ls hf hm hl
    rw [g_X10_layLoads_60] at hf
    refine lv_iload_n hx hb dX10_layLoads_60 rfl (lv_at hl 3 rfl) ?_
    refine lv_bipush (v := (64 : Int32)) hx hb dX10_layLoads_61 (by decide) ?_
    refine lv_icmp_ge (tgt := 121) hx hb dX10_layLoads_63 (by decide) (fun hc31 => ?_) (fun hc31 => ?_)
    · have hf := xif_t hc31 hf
      cases hf
      exact kx0 H locs ls hm (lv_sub hl [0, 1, 2] rfl)
    have hf := xif_f hc31 hf
    refine lv_iconst (v := (1 : Int32)) hx hb dX10_layLoads_66 (by decide) ?_
    refine lv_istore (lv' := [(4, .int (1 : Int32)), (0, .ref (b + 0)), (1, .int x26), (2, .int x27), (3, .int x28)]) hx hb dX10_layLoads_67 hl (by decide) rfl (fun ls hl => ?_)
    obtain ⟨M49, hq, hf⟩ := xb1_e hf
    refine j_X10_layLoads_69 C x26 x27 x28 (fun H locs ls hm hl => ?_) xfuel M29 (1 : Int32) H locs ls hq hm (lv_sub hl [1, 2, 3, 4, 0] rfl)
    obtain ⟨v50, ev50, hf⟩ := xlet_x hf
    refine lv_iinc (v := v50) (lv' := [(3, .int v50), (0, .ref (b + 0)), (1, .int x26), (2, .int x27)]) hx hb dX10_layLoads_115 hl (k := 3) rfl (by rw [ev50]; rfl) (by decide) rfl (fun ls hl => ?_)
    refine lv_goto (tgt := 60) hx hb dX10_layLoads_118 (by decide) ?_
    exact ih M49 v50 H locs ls hf hm (lv_sub hl [1, 2, 3, 0] rfl)
set_option maxHeartbeats 4000000 in
set_option maxRecDepth 20000 in
theorem j_X10_layLoads_52 {p : Program} {l : Launch} {e : Env} {s : State} {m : MethodId} {args : Array Value} {below : List Frame} {meth : Method} {c : Code} {Q : State → Prop} {E : xE} {b : Nat} (C : xC p s m args meth c cX10_layLoads 5 RX10 none E b) {Lm : xn} (x21 : Int32) {y24 : xm}
    (kx0 : ∀ (H : Heap) (locs : List Loc) (ls : Array Slot), xM E b NY (cY E b y24 Lm) s.heap H locs → lv_has ls 5 [] → W p l e (xR 5) s m args below meth c H locs 0 0 Q (F0 m 127 ls [])) :
    ∀ (n : Nat) (M23 : xm) (x22 : Int32) (H : Heap) (locs : List Loc) (ls : Array Slot), g_X10_layLoads_52 x21 n M23 x22 = some y24 → xM E b NY (cY E b M23 Lm) s.heap H locs → lv_has ls 5 [(0, .ref (b + 0)), (1, .int x21), (2, .int x22)] → W p l e (xR 5) s m args below meth c H locs 0 0 Q (F0 m 52 ls []) := by
  have hx := C.1.1
  have hb := C.1.2.1
  intro n
  induction n with
  | zero =>
    intro M23 x22 H locs ls hf hm hl
    rw [g_X10_layLoads_52] at hf
    cases hf
  | succ n ih =>
    intro M23 x22 H locs ls hf hm hl
    rw [g_X10_layLoads_52] at hf
    refine lv_iload_n hx hb dX10_layLoads_52 rfl (lv_at hl 2 rfl) ?_
    refine lv_bipush (v := (64 : Int32)) hx hb dX10_layLoads_53 (by decide) ?_
    refine lv_icmp_ge (tgt := 127) hx hb dX10_layLoads_55 (by decide) (fun hc25 => ?_) (fun hc25 => ?_)
    · have hf := xif_t hc25 hf
      cases hf
      exact kx0 H locs ls hm (lv_sub hl [] rfl)
    have hf := xif_f hc25 hf
    refine lv_iconst (v := (0 : Int32)) hx hb dX10_layLoads_58 (by decide) ?_
    refine lv_istore_n (lv' := [(3, .int (0 : Int32)), (0, .ref (b + 0)), (1, .int x21), (2, .int x22)]) hx hb dX10_layLoads_59 rfl hl (by decide) rfl (fun ls hl => ?_)
    obtain ⟨M51, hq, hf⟩ := xb1_e hf
    refine j_X10_layLoads_60 C x21 x22 (fun H locs ls hm hl => ?_) xfuel M23 (0 : Int32) H locs ls hq hm (lv_sub hl [1, 2, 3, 0] rfl)
    obtain ⟨v52, ev52, hf⟩ := xlet_x hf
    refine lv_iinc (v := v52) (lv' := [(2, .int v52), (0, .ref (b + 0)), (1, .int x21)]) hx hb dX10_layLoads_121 hl (k := 2) rfl (by rw [ev52]; rfl) (by decide) rfl (fun ls hl => ?_)
    refine lv_goto (tgt := 52) hx hb dX10_layLoads_124 (by decide) ?_
    exact ih M51 v52 H locs ls hf hm (lv_sub hl [1, 2, 0] rfl)
set_option maxHeartbeats 4000000 in
set_option maxRecDepth 20000 in
theorem c_X10_layLoads (l : Launch) (E : xE) (b : Nat) (M : xm) (Lm : xn) (a1 : Int32) {M' : xm} (hf : f_X10_layLoads M a1 = some M') :
    xMet l E b NY yX10_layLoads cX10_layLoads 5 none (xR 5) [.ref (b + 0), .int a1] (cY E b M Lm) none True (cY E b M' Lm) := by
  refine xMet.ofW (own := RX10) (by decide) rfl (Nat.le_of_ble_eq_true rfl) ?_
  intro p e s m below meth c H locs ls C hm hl
  have hx := C.1.1
  have hb := C.1.2.1
  have hl : lv_has ls 5 [(0, .ref (b + 0)), (1, .int a1)] := hl
  unfold f_X10_layLoads at hf
  refine lv_iconst (v := (0 : Int32)) hx hb dX10_layLoads_0 (by decide) ?_
  refine lv_istore_n (lv' := [(2, .int (0 : Int32)), (0, .ref (b + 0)), (1, .int a1)]) hx hb dX10_layLoads_1 rfl hl (by decide) rfl (fun ls hl => ?_)
  obtain ⟨M9, hq, hf⟩ := xb1_e hf
  refine j_X10_layLoads_2 C a1 (fun H locs ls hm hl => ?_) xfuel M (0 : Int32) H locs ls hq hm (lv_sub hl [1, 2, 0] rfl)
  refine lv_iconst (v := (0 : Int32)) hx hb dX10_layLoads_21 (by decide) ?_
  refine lv_istore_n (lv' := [(2, .int (0 : Int32)), (0, .ref (b + 0)), (1, .int a1)]) hx hb dX10_layLoads_22 rfl hl (by decide) rfl (fun ls hl => ?_)
  obtain ⟨M20, hq, hf⟩ := xb1_e hf
  refine j_X10_layLoads_23 C a1 (fun H locs ls hm hl => ?_) xfuel M9 (0 : Int32) H locs ls hq hm (lv_sub hl [1, 2, 0] rfl)
  refine lv_iconst (v := (0 : Int32)) hx hb dX10_layLoads_50 (by decide) ?_
  refine lv_istore_n (lv' := [(2, .int (0 : Int32)), (0, .ref (b + 0)), (1, .int a1)]) hx hb dX10_layLoads_51 rfl hl (by decide) rfl (fun ls hl => ?_)
  obtain ⟨M53, hq, hf⟩ := xb1_e hf
  refine j_X10_layLoads_52 C a1 (fun H locs ls hm hl => ?_) xfuel M20 (0 : Int32) H locs ls hq hm (lv_sub hl [1, 2, 0] rfl)
  cases hf
  exact x_vret C hm trivial dX10_layLoads_127
/-! ColouredHeapModel.isReached(I)Z -/
theorem dX10_isReached_0 : decode cX10_isReached 0 = .ok (.aload_n 0, 1) := by decide +kernel
theorem dX10_isReached_1 : decode cX10_isReached 1 = .ok (.iconst (-1), 1) := by decide +kernel
theorem dX10_isReached_2 : decode cX10_isReached 2 = .ok (.invokevirtual 461, 3) := by decide +kernel
theorem dX10_isReached_5 : decode cX10_isReached 5 = .ok (.aload_n 0, 1) := by decide +kernel
theorem dX10_isReached_6 : decode cX10_isReached 6 = .ok (.iload_n 1, 1) := by decide +kernel
theorem dX10_isReached_7 : decode cX10_isReached 7 = .ok (.invokevirtual 74, 3) := by decide +kernel
theorem dX10_isReached_10 : decode cX10_isReached 10 = .ok (.ifCond .eq 17, 3) := by decide +kernel
theorem dX10_isReached_13 : decode cX10_isReached 13 = .ok (.aload_n 0, 1) := by decide +kernel
theorem dX10_isReached_14 : decode cX10_isReached 14 = .ok (.getfield 46, 3) := by decide +kernel
theorem dX10_isReached_17 : decode cX10_isReached 17 = .ok (.iload_n 1, 1) := by decide +kernel
theorem dX10_isReached_18 : decode cX10_isReached 18 = .ok (.iaload, 1) := by decide +kernel
theorem dX10_isReached_19 : decode cX10_isReached 19 = .ok (.iconst (-1), 1) := by decide +kernel
theorem dX10_isReached_20 : decode cX10_isReached 20 = .ok (.if_icmp .eq 7, 3) := by decide +kernel
theorem dX10_isReached_23 : decode cX10_isReached 23 = .ok (.iconst 1, 1) := by decide +kernel
theorem dX10_isReached_24 : decode cX10_isReached 24 = .ok (.goto 4, 3) := by decide +kernel
theorem dX10_isReached_27 : decode cX10_isReached 27 = .ok (.iconst 0, 1) := by decide +kernel
theorem dX10_isReached_28 : decode cX10_isReached 28 = .ok (.ireturn, 1) := by decide +kernel
def f_X10_isReached (M : xm) (a1 : Int32) : Option (Int32 × xm) := xb1 (f_X10_layLoads M (-1 : Int32)) (fun M2 => xb1 (f_X10_isHead M2 a1) (fun v5 => (if v5 = 0 then some ((0 : Int32), M2) else if xin a1 64 = true then (if (M2 10 (Int32.toNatClampNeg a1)) = (-1 : Int32) then some ((0 : Int32), M2) else some ((1 : Int32), M2)) else none)))
set_option maxHeartbeats 4000000 in
set_option maxRecDepth 20000 in
theorem c_X10_isReached (l : Launch) (E : xE) (b : Nat) (M : xm) (Lm : xn) (a1 : Int32) {r : Int32} {M' : xm} (hf : f_X10_isReached M a1 = some (r, M')) :
    xMet l E b NY yX10_isReached cX10_isReached 2 (some .boolean) (xR 6) [.ref (b + 0), .int a1] (cY E b M Lm) (some (.int r)) (xbo r = true) (cY E b M' Lm) := by
  refine xMet.ofW (own := RX10) (by decide) rfl (Nat.le_of_ble_eq_true rfl) ?_
  intro p e s m below meth c H locs ls C hm hl
  have hx := C.1.1
  have hb := C.1.2.1
  have hl : lv_has ls 2 [(0, .ref (b + 0)), (1, .int a1)] := hl
  unfold f_X10_isReached at hf
  refine lv_aload_n hx hb dX10_isReached_0 rfl (lv_at hl 0 rfl) ?_
  refine lv_iconst (v := (-1 : Int32)) hx hb dX10_isReached_1 (by decide) ?_
  obtain ⟨M2, hq1, hf⟩ := xb1_e hf
  refine x_callVv (As := [.int (-1 : Int32)]) (rest := []) C hm (c_X10_layLoads l E b M Lm (-1 : Int32) hq1) rfl cy_0 tc_X10_layLoads tm_RX10_461 ti_X10_layLoads ts_X10_layLoads tn_RX10 td_X10_layLoads rfl rfl ⟨Nat.le_of_ble_eq_true rfl, Nat.le_of_ble_eq_true rfl⟩ rfl hl.1 rfl (Nat.le_of_ble_eq_true rfl) ⟨Nat.zero_le _, Nat.zero_le _⟩ dX10_isReached_2 (fun H locs hP3 hm => ?_)
  refine lv_aload_n hx hb dX10_isReached_5 rfl (lv_at hl 0 rfl) ?_
  refine lv_iload_n hx hb dX10_isReached_6 rfl (lv_at hl 1 rfl) ?_
  obtain ⟨v5, hq4, hf⟩ := xb1_e hf
  refine x_callVi (As := [.int a1]) (rest := []) C hm (c_X10_isHead l E b M2 Lm a1 hq4) rfl cy_0 tc_X10_isHead tm_RX10_74 ti_X10_isHead ts_X10_isHead tn_RX10 td_X10_isHead rfl rfl ⟨Nat.le_of_ble_eq_true rfl, Nat.le_of_ble_eq_true rfl⟩ rfl hl.1 rfl (Nat.le_of_ble_eq_true rfl) ⟨Nat.zero_le _, Nat.zero_le _⟩ dX10_isReached_7 (fun H locs hP6 hm => ?_)
  refine lv_if_eq (tgt := 27) hx hb dX10_isReached_10 (by decide) (fun hc7 => ?_) (fun hc7 => ?_)
  · have hf := xif_t hc7 hf
    refine lv_iconst (v := (0 : Int32)) hx hb dX10_isReached_27 (by decide) ?_
    cases hf
    exact x_zret C hm (by decide) (by decide) dX10_isReached_28
  have hf := xif_f hc7 hf
  refine lv_aload_n hx hb dX10_isReached_13 rfl (lv_at hl 0 rfl) ?_
  refine x_get C hm inX10 rfl 24 (by decide) tf_RX10_46 cy_0 rfl dX10_isReached_14 ?_
  refine lv_iload_n hx hb dX10_isReached_17 rfl (lv_at hl 1 rfl) ?_
  obtain ⟨hi8, hf⟩ := xif_s hf
  refine x_iald (j := (Int32.toNatClampNeg a1)) C hm cy_10 hi8 dX10_isReached_18 rfl ?_
  refine lv_iconst (v := (-1 : Int32)) hx hb dX10_isReached_19 (by decide) ?_
  refine lv_icmp_eq (tgt := 27) hx hb dX10_isReached_20 (by decide) (fun hc9 => ?_) (fun hc9 => ?_)
  · have hf := xif_t hc9 hf
    refine lv_iconst (v := (0 : Int32)) hx hb dX10_isReached_27 (by decide) ?_
    cases hf
    exact x_zret C hm (by decide) (by decide) dX10_isReached_28
  have hf := xif_f hc9 hf
  refine lv_iconst (v := (1 : Int32)) hx hb dX10_isReached_23 (by decide) ?_
  refine lv_goto (tgt := 28) hx hb dX10_isReached_24 (by decide) ?_
  cases hf
  exact x_zret C hm (by decide) (by decide) dX10_isReached_28
/-! ColouredHeapModel.leadsTo(II)I -/
theorem dX10_leadsTo_0 : decode cX10_leadsTo 0 = .ok (.aload_n 0, 1) := by decide +kernel
theorem dX10_leadsTo_1 : decode cX10_leadsTo 1 = .ok (.getfield 7, 3) := by decide +kernel
theorem dX10_leadsTo_4 : decode cX10_leadsTo 4 = .ok (.bipush 41, 2) := by decide +kernel
theorem dX10_leadsTo_6 : decode cX10_leadsTo 6 = .ok (.iload_n 1, 1) := by decide +kernel
theorem dX10_leadsTo_7 : decode cX10_leadsTo 7 = .ok (.iadd, 1) := by decide +kernel
theorem dX10_leadsTo_8 : decode cX10_leadsTo 8 = .ok (.iconst 1, 1) := by decide +kernel
theorem dX10_leadsTo_9 : decode cX10_leadsTo 9 = .ok (.iadd, 1) := by decide +kernel
theorem dX10_leadsTo_10 : decode cX10_leadsTo 10 = .ok (.iload_n 2, 1) := by decide +kernel
theorem dX10_leadsTo_11 : decode cX10_leadsTo 11 = .ok (.iadd, 1) := by decide +kernel
theorem dX10_leadsTo_12 : decode cX10_leadsTo 12 = .ok (.iaload, 1) := by decide +kernel
theorem dX10_leadsTo_13 : decode cX10_leadsTo 13 = .ok (.iconst (-1), 1) := by decide +kernel
theorem dX10_leadsTo_14 : decode cX10_leadsTo 14 = .ok (.if_icmp .ne 7, 3) := by decide +kernel
theorem dX10_leadsTo_17 : decode cX10_leadsTo 17 = .ok (.iconst (-1), 1) := by decide +kernel
theorem dX10_leadsTo_18 : decode cX10_leadsTo 18 = .ok (.goto 20, 3) := by decide +kernel
theorem dX10_leadsTo_21 : decode cX10_leadsTo 21 = .ok (.aload_n 0, 1) := by decide +kernel
theorem dX10_leadsTo_22 : decode cX10_leadsTo 22 = .ok (.aload_n 0, 1) := by decide +kernel
theorem dX10_leadsTo_23 : decode cX10_leadsTo 23 = .ok (.getfield 7, 3) := by decide +kernel
theorem dX10_leadsTo_26 : decode cX10_leadsTo 26 = .ok (.bipush 41, 2) := by decide +kernel
theorem dX10_leadsTo_28 : decode cX10_leadsTo 28 = .ok (.iload_n 1, 1) := by decide +kernel
theorem dX10_leadsTo_29 : decode cX10_leadsTo 29 = .ok (.iadd, 1) := by decide +kernel
theorem dX10_leadsTo_30 : decode cX10_leadsTo 30 = .ok (.iconst 1, 1) := by decide +kernel
theorem dX10_leadsTo_31 : decode cX10_leadsTo 31 = .ok (.iadd, 1) := by decide +kernel
theorem dX10_leadsTo_32 : decode cX10_leadsTo 32 = .ok (.iload_n 2, 1) := by decide +kernel
theorem dX10_leadsTo_33 : decode cX10_leadsTo 33 = .ok (.iadd, 1) := by decide +kernel
theorem dX10_leadsTo_34 : decode cX10_leadsTo 34 = .ok (.iaload, 1) := by decide +kernel
theorem dX10_leadsTo_35 : decode cX10_leadsTo 35 = .ok (.invokevirtual 331, 3) := by decide +kernel
theorem dX10_leadsTo_38 : decode cX10_leadsTo 38 = .ok (.ireturn, 1) := by decide +kernel
def f_X10_leadsTo (M : xm) (a1 : Int32) (a2 : Int32) : Option (Int32) := if xin ((((41 : Int32) + a1) + (1 : Int32)) + a2) 9878 = true then (if (M 1 (Int32.toNatClampNeg ((((41 : Int32) + a1) + (1 : Int32)) + a2))) = (-1 : Int32) then some (-1 : Int32) else xb1 (f_X10_whereOf M (M 1 (Int32.toNatClampNeg ((((41 : Int32) + a1) + (1 : Int32)) + a2)))) (fun v4 => some v4)) else none
set_option maxHeartbeats 4000000 in
set_option maxRecDepth 20000 in
theorem c_X10_leadsTo (l : Launch) (E : xE) (b : Nat) (M : xm) (Lm : xn) (a1 : Int32) (a2 : Int32) {r : Int32} (hf : f_X10_leadsTo M a1 a2 = some r) :
    xMet l E b NY yX10_leadsTo cX10_leadsTo 3 (some .int) (xR 3) [.ref (b + 0), .int a1, .int a2] (cY E b M Lm) (some (.int r)) True (cY E b M Lm) := by
  refine xMet.ofW (own := RX10) (by decide) rfl (Nat.le_of_ble_eq_true rfl) ?_
  intro p e s m below meth c H locs ls C hm hl
  have hx := C.1.1
  have hb := C.1.2.1
  have hl : lv_has ls 3 [(0, .ref (b + 0)), (1, .int a1), (2, .int a2)] := hl
  unfold f_X10_leadsTo at hf
  refine lv_aload_n hx hb dX10_leadsTo_0 rfl (lv_at hl 0 rfl) ?_
  refine x_get C hm inX10 rfl 0 (by decide) tf_RX10_7 cy_0 rfl dX10_leadsTo_1 ?_
  refine lv_bipush (v := (41 : Int32)) hx hb dX10_leadsTo_4 (by decide) ?_
  refine lv_iload_n hx hb dX10_leadsTo_6 rfl (lv_at hl 1 rfl) ?_
  refine lv_iadd hx hb dX10_leadsTo_7 ?_
  refine lv_iconst (v := (1 : Int32)) hx hb dX10_leadsTo_8 (by decide) ?_
  refine lv_iadd hx hb dX10_leadsTo_9 ?_
  refine lv_iload_n hx hb dX10_leadsTo_10 rfl (lv_at hl 2 rfl) ?_
  refine lv_iadd hx hb dX10_leadsTo_11 ?_
  obtain ⟨hi1, hf⟩ := xif_s hf
  refine x_iald (j := (Int32.toNatClampNeg ((((41 : Int32) + a1) + (1 : Int32)) + a2))) C hm cy_1 hi1 dX10_leadsTo_12 rfl ?_
  refine lv_iconst (v := (-1 : Int32)) hx hb dX10_leadsTo_13 (by decide) ?_
  refine lv_icmp_ne (tgt := 21) hx hb dX10_leadsTo_14 (by decide) (fun hc2 => ?_) (fun hc2 => ?_)
  rotate_left
  · have hf := xif_t hc2 hf
    refine lv_iconst (v := (-1 : Int32)) hx hb dX10_leadsTo_17 (by decide) ?_
    refine lv_goto (tgt := 38) hx hb dX10_leadsTo_18 (by decide) ?_
    cases hf
    exact x_iret C hm trivial dX10_leadsTo_38
  have hf := xif_f hc2 hf
  refine lv_aload_n hx hb dX10_leadsTo_21 rfl (lv_at hl 0 rfl) ?_
  refine lv_aload_n hx hb dX10_leadsTo_22 rfl (lv_at hl 0 rfl) ?_
  refine x_get C hm inX10 rfl 0 (by decide) tf_RX10_7 cy_0 rfl dX10_leadsTo_23 ?_
  refine lv_bipush (v := (41 : Int32)) hx hb dX10_leadsTo_26 (by decide) ?_
  refine lv_iload_n hx hb dX10_leadsTo_28 rfl (lv_at hl 1 rfl) ?_
  refine lv_iadd hx hb dX10_leadsTo_29 ?_
  refine lv_iconst (v := (1 : Int32)) hx hb dX10_leadsTo_30 (by decide) ?_
  refine lv_iadd hx hb dX10_leadsTo_31 ?_
  refine lv_iload_n hx hb dX10_leadsTo_32 rfl (lv_at hl 2 rfl) ?_
  refine lv_iadd hx hb dX10_leadsTo_33 ?_
  refine x_iald (j := (Int32.toNatClampNeg ((((41 : Int32) + a1) + (1 : Int32)) + a2))) C hm cy_1 hi1 dX10_leadsTo_34 rfl ?_
  obtain ⟨v4, hq3, hf⟩ := xb1_e hf
  refine x_callVi (As := [.int (M 1 (Int32.toNatClampNeg ((((41 : Int32) + a1) + (1 : Int32)) + a2)))]) (rest := []) C hm (c_X10_whereOf l E b M Lm (M 1 (Int32.toNatClampNeg ((((41 : Int32) + a1) + (1 : Int32)) + a2))) hq3) rfl cy_0 tc_X10_whereOf tm_RX10_331 ti_X10_whereOf ts_X10_whereOf tn_RX10 td_X10_whereOf rfl rfl ⟨Nat.le_of_ble_eq_true rfl, Nat.le_of_ble_eq_true rfl⟩ rfl hl.1 rfl (Nat.le_of_ble_eq_true rfl) ⟨Nat.zero_le _, Nat.zero_le _⟩ dX10_leadsTo_35 (fun H locs hP5 hm => ?_)
  cases hf
  exact x_iret C hm trivial dX10_leadsTo_38
/-! ColouredHeapModel.chain(I)I -/
theorem dX10_chain_0 : decode cX10_chain 0 = .ok (.aload_n 0, 1) := by decide +kernel
theorem dX10_chain_1 : decode cX10_chain 1 = .ok (.iload_n 1, 1) := by decide +kernel
theorem dX10_chain_2 : decode cX10_chain 2 = .ok (.invokevirtual 464, 3) := by decide +kernel
theorem dX10_chain_5 : decode cX10_chain 5 = .ok (.ifCond .ne 5, 3) := by decide +kernel
theorem dX10_chain_8 : decode cX10_chain 8 = .ok (.iconst (-1), 1) := by decide +kernel
theorem dX10_chain_9 : decode cX10_chain 9 = .ok (.ireturn, 1) := by decide +kernel
theorem dX10_chain_10 : decode cX10_chain 10 = .ok (.iconst 0, 1) := by decide +kernel
theorem dX10_chain_11 : decode cX10_chain 11 = .ok (.istore_n 2, 1) := by decide +kernel
theorem dX10_chain_12 : decode cX10_chain 12 = .ok (.iload_n 2, 1) := by decide +kernel
theorem dX10_chain_13 : decode cX10_chain 13 = .ok (.bipush 64, 2) := by decide +kernel
theorem dX10_chain_15 : decode cX10_chain 15 = .ok (.if_icmp .ge 16, 3) := by decide +kernel
theorem dX10_chain_18 : decode cX10_chain 18 = .ok (.aload_n 0, 1) := by decide +kernel
theorem dX10_chain_19 : decode cX10_chain 19 = .ok (.getfield 52, 3) := by decide +kernel
theorem dX10_chain_22 : decode cX10_chain 22 = .ok (.iload_n 2, 1) := by decide +kernel
theorem dX10_chain_23 : decode cX10_chain 23 = .ok (.iconst 0, 1) := by decide +kernel
theorem dX10_chain_24 : decode cX10_chain 24 = .ok (.bastore, 1) := by decide +kernel
theorem dX10_chain_25 : decode cX10_chain 25 = .ok (.iinc 2 1, 3) := by decide +kernel
theorem dX10_chain_28 : decode cX10_chain 28 = .ok (.goto (-16), 3) := by decide +kernel
theorem dX10_chain_31 : decode cX10_chain 31 = .ok (.iconst 0, 1) := by decide +kernel
theorem dX10_chain_32 : decode cX10_chain 32 = .ok (.istore_n 2, 1) := by decide +kernel
theorem dX10_chain_33 : decode cX10_chain 33 = .ok (.iload_n 1, 1) := by decide +kernel
theorem dX10_chain_34 : decode cX10_chain 34 = .ok (.istore_n 3, 1) := by decide +kernel
theorem dX10_chain_35 : decode cX10_chain 35 = .ok (.aload_n 0, 1) := by decide +kernel
theorem dX10_chain_36 : decode cX10_chain 36 = .ok (.iload_n 3, 1) := by decide +kernel
theorem dX10_chain_37 : decode cX10_chain 37 = .ok (.invokevirtual 74, 3) := by decide +kernel
theorem dX10_chain_40 : decode cX10_chain 40 = .ok (.ifCond .eq 44, 3) := by decide +kernel
theorem dX10_chain_43 : decode cX10_chain 43 = .ok (.aload_n 0, 1) := by decide +kernel
theorem dX10_chain_44 : decode cX10_chain 44 = .ok (.getfield 52, 3) := by decide +kernel
theorem dX10_chain_47 : decode cX10_chain 47 = .ok (.iload_n 3, 1) := by decide +kernel
theorem dX10_chain_48 : decode cX10_chain 48 = .ok (.baload, 1) := by decide +kernel
theorem dX10_chain_49 : decode cX10_chain 49 = .ok (.ifCond .ne 35, 3) := by decide +kernel
theorem dX10_chain_52 : decode cX10_chain 52 = .ok (.aload_n 0, 1) := by decide +kernel
theorem dX10_chain_53 : decode cX10_chain 53 = .ok (.getfield 52, 3) := by decide +kernel
theorem dX10_chain_56 : decode cX10_chain 56 = .ok (.iload_n 3, 1) := by decide +kernel
theorem dX10_chain_57 : decode cX10_chain 57 = .ok (.iconst 1, 1) := by decide +kernel
theorem dX10_chain_58 : decode cX10_chain 58 = .ok (.bastore, 1) := by decide +kernel
theorem dX10_chain_59 : decode cX10_chain 59 = .ok (.iinc 2 1, 3) := by decide +kernel
theorem dX10_chain_62 : decode cX10_chain 62 = .ok (.aload_n 0, 1) := by decide +kernel
theorem dX10_chain_63 : decode cX10_chain 63 = .ok (.iload_n 3, 1) := by decide +kernel
theorem dX10_chain_64 : decode cX10_chain 64 = .ok (.invokevirtual 67, 3) := by decide +kernel
theorem dX10_chain_67 : decode cX10_chain 67 = .ok (.ifCond .ne 7, 3) := by decide +kernel
theorem dX10_chain_70 : decode cX10_chain 70 = .ok (.iconst (-1), 1) := by decide +kernel
theorem dX10_chain_71 : decode cX10_chain 71 = .ok (.goto 9, 3) := by decide +kernel
theorem dX10_chain_74 : decode cX10_chain 74 = .ok (.aload_n 0, 1) := by decide +kernel
theorem dX10_chain_75 : decode cX10_chain 75 = .ok (.iload_n 3, 1) := by decide +kernel
theorem dX10_chain_76 : decode cX10_chain 76 = .ok (.iconst 0, 1) := by decide +kernel
theorem dX10_chain_77 : decode cX10_chain 77 = .ok (.invokevirtual 486, 3) := by decide +kernel
theorem dX10_chain_80 : decode cX10_chain 80 = .ok (.istore_n 3, 1) := by decide +kernel
theorem dX10_chain_81 : decode cX10_chain 81 = .ok (.goto (-46), 3) := by decide +kernel
theorem dX10_chain_84 : decode cX10_chain 84 = .ok (.iload_n 2, 1) := by decide +kernel
theorem dX10_chain_85 : decode cX10_chain 85 = .ok (.ireturn, 1) := by decide +kernel
def g_X10_chain_12 (x6 : Int32) : Nat → xm → Int32 → Option ((xm))
  | 0, _, _ => none
  | n + 1, M8, x7 => (if (64 : Int32) ≤ x7 then some (M8) else if xin x7 64 = true then xlet (up2 M8 12 (Int32.toNatClampNeg x7) (0 : Int32)) (fun M12 => xlet (x7 + (1 : Int32)) (fun v13 => g_X10_chain_12 x6 n M12 v13)) else none)
def g_X10_chain_35  : Nat → xm → Int32 → Int32 → Option ((Int32 × xm))
  | 0, _, _, _ => none
  | n + 1, M17, x15, x16 => xb1 (f_X10_isHead M17 x16) (fun v21 => (if v21 = 0 then some ((x15, M17)) else if xin x16 64 = true then (if (M17 12 (Int32.toNatClampNeg x16)) = 0 then xlet (up2 M17 12 (Int32.toNatClampNeg x16) (1 : Int32)) (fun M26 => xlet (x15 + (1 : Int32)) (fun v27 => xb1 (f_X10_fieldsOf M26 x16) (fun v29 => (if v29 = 0 then g_X10_chain_35 n M26 v27 (-1 : Int32) else xb1 (f_X10_leadsTo M26 x16 (0 : Int32)) (fun v33 => g_X10_chain_35 n M26 v27 v33))))) else some ((x15, M17))) else none))
def f_X10_chain (M : xm) (a1 : Int32) : Option (Int32 × xm) := xb2 (f_X10_isReached M a1) (fun v2 M3 => (if v2 = 0 then some ((-1 : Int32), M3) else xb1 (g_X10_chain_12 a1 xfuel M3 (0 : Int32)) (fun M14 => xb2 (g_X10_chain_35 xfuel M14 (0 : Int32) a1) (fun v35 M36 => some (v35, M36)))))
set_option maxHeartbeats 4000000 in
set_option maxRecDepth 20000 in
theorem j_X10_chain_12 {p : Program} {l : Launch} {e : Env} {s : State} {m : MethodId} {args : Array Value} {below : List Frame} {meth : Method} {c : Code} {Q : State → Prop} {E : xE} {b : Nat} (C : xC p s m args meth c cX10_chain 4 RX10 (some .int) E b) {Lm : xn} (x6 : Int32) {y9 : xm}
    (kx0 : ∀ (H : Heap) (locs : List Loc) (ls : Array Slot), xM E b NY (cY E b y9 Lm) s.heap H locs → lv_has ls 4 [(0, .ref (b + 0)), (1, .int x6)] → W p l e (xR 7) s m args below meth c H locs 0 0 Q (F0 m 31 ls [])) :
    ∀ (n : Nat) (M8 : xm) (x7 : Int32) (H : Heap) (locs : List Loc) (ls : Array Slot), g_X10_chain_12 x6 n M8 x7 = some y9 → xM E b NY (cY E b M8 Lm) s.heap H locs → lv_has ls 4 [(0, .ref (b + 0)), (1, .int x6), (2, .int x7)] → W p l e (xR 7) s m args below meth c H locs 0 0 Q (F0 m 12 ls []) := by
  have hx := C.1.1
  have hb := C.1.2.1
  intro n
  induction n with
  | zero =>
    intro M8 x7 H locs ls hf hm hl
    rw [g_X10_chain_12] at hf
    cases hf
  | succ n ih =>
    intro M8 x7 H locs ls hf hm hl
    rw [g_X10_chain_12] at hf
    refine lv_iload_n hx hb dX10_chain_12 rfl (lv_at hl 2 rfl) ?_
    refine lv_bipush (v := (64 : Int32)) hx hb dX10_chain_13 (by decide) ?_
    refine lv_icmp_ge (tgt := 31) hx hb dX10_chain_15 (by decide) (fun hc10 => ?_) (fun hc10 => ?_)
    · have hf := xif_t hc10 hf
      cases hf
      exact kx0 H locs ls hm (lv_sub hl [0, 1] rfl)
    have hf := xif_f hc10 hf
    refine lv_aload_n hx hb dX10_chain_18 rfl (lv_at hl 0 rfl) ?_
    refine x_get C hm inX10 rfl 26 (by decide) tf_RX10_52 cy_0 rfl dX10_chain_19 ?_
    refine lv_iload_n hx hb dX10_chain_22 rfl (lv_at hl 2 rfl) ?_
    refine lv_iconst (v := (0 : Int32)) hx hb dX10_chain_23 (by decide) ?_
    obtain ⟨hi11, hf⟩ := xif_s hf
    obtain ⟨M12, eM12, hf⟩ := xlet_x hf
    refine x_zast (j := (Int32.toNatClampNeg x7)) (cf' := cY E b M12 Lm) C hm cy_12 hi11 (by decide) dX10_chain_24 rfl (by rw [eM12]; exact cyu_12) (by rw [eM12]; exact cY_o) (fun H locs hm => ?_)
    obtain ⟨v13, ev13, hf⟩ := xlet_x hf
    refine lv_iinc (v := v13) (lv' := [(2, .int v13), (0, .ref (b + 0)), (1, .int x6)]) hx hb dX10_chain_25 hl (k := 2) rfl (by rw [ev13]; rfl) (by decide) rfl (fun ls hl => ?_)
    refine lv_goto (tgt := 12) hx hb dX10_chain_28 (by decide) ?_
    exact ih M12 v13 H locs ls hf hm (lv_sub hl [1, 2, 0] rfl)
set_option maxHeartbeats 4000000 in
set_option maxRecDepth 20000 in
theorem j_X10_chain_35 {p : Program} {l : Launch} {e : Env} {s : State} {m : MethodId} {args : Array Value} {below : List Frame} {meth : Method} {c : Code} {Q : State → Prop} {E : xE} {b : Nat} (C : xC p s m args meth c cX10_chain 4 RX10 (some .int) E b) {Lm : xn} {y18 : Int32} {y19 : xm}
    (kx0 : ∀ (H : Heap) (locs : List Loc) (ls : Array Slot), xM E b NY (cY E b y19 Lm) s.heap H locs → lv_has ls 4 [(2, .int y18)] → W p l e (xR 7) s m args below meth c H locs 0 0 Q (F0 m 84 ls [])) :
    ∀ (n : Nat) (M17 : xm) (x15 : Int32) (x16 : Int32) (H : Heap) (locs : List Loc) (ls : Array Slot), g_X10_chain_35 n M17 x15 x16 = some (y18, y19) → xM E b NY (cY E b M17 Lm) s.heap H locs → lv_has ls 4 [(0, .ref (b + 0)), (2, .int x15), (3, .int x16)] → W p l e (xR 7) s m args below meth c H locs 0 0 Q (F0 m 35 ls []) := by
  have hx := C.1.1
  have hb := C.1.2.1
  intro n
  induction n with
  | zero =>
    intro M17 x15 x16 H locs ls hf hm hl
    rw [g_X10_chain_35] at hf
    cases hf
  | succ n ih =>
    intro M17 x15 x16 H locs ls hf hm hl
    rw [g_X10_chain_35] at hf
    refine lv_aload_n hx hb dX10_chain_35 rfl (lv_at hl 0 rfl) ?_
    refine lv_iload_n hx hb dX10_chain_36 rfl (lv_at hl 2 rfl) ?_
    obtain ⟨v21, hq20, hf⟩ := xb1_e hf
    refine x_callVi (As := [.int x16]) (rest := []) C hm (c_X10_isHead l E b M17 Lm x16 hq20) rfl cy_0 tc_X10_isHead tm_RX10_74 ti_X10_isHead ts_X10_isHead tn_RX10 td_X10_isHead rfl rfl ⟨Nat.le_of_ble_eq_true rfl, Nat.le_of_ble_eq_true rfl⟩ rfl hl.1 rfl (Nat.le_of_ble_eq_true rfl) ⟨Nat.zero_le _, Nat.zero_le _⟩ dX10_chain_37 (fun H locs hP22 hm => ?_)
    refine lv_if_eq (tgt := 84) hx hb dX10_chain_40 (by decide) (fun hc23 => ?_) (fun hc23 => ?_)
    · have hf := xif_t hc23 hf
      cases hf
      exact kx0 H locs ls hm (lv_sub hl [1] rfl)
    have hf := xif_f hc23 hf
    refine lv_aload_n hx hb dX10_chain_43 rfl (lv_at hl 0 rfl) ?_
    refine x_get C hm inX10 rfl 26 (by decide) tf_RX10_52 cy_0 rfl dX10_chain_44 ?_
    refine lv_iload_n hx hb dX10_chain_47 rfl (lv_at hl 2 rfl) ?_
    obtain ⟨hi24, hf⟩ := xif_s hf
    refine x_zald (j := (Int32.toNatClampNeg x16)) C hm cy_12 hi24 dX10_chain_48 rfl ?_
    refine lv_if_ne (tgt := 84) hx hb dX10_chain_49 (by decide) (fun hc25 => ?_) (fun hc25 => ?_)
    · have hf := xif_f hc25 hf
      cases hf
      exact kx0 H locs ls hm (lv_sub hl [1] rfl)
    have hf := xif_t hc25 hf
    refine lv_aload_n hx hb dX10_chain_52 rfl (lv_at hl 0 rfl) ?_
    refine x_get C hm inX10 rfl 26 (by decide) tf_RX10_52 cy_0 rfl dX10_chain_53 ?_
    refine lv_iload_n hx hb dX10_chain_56 rfl (lv_at hl 2 rfl) ?_
    refine lv_iconst (v := (1 : Int32)) hx hb dX10_chain_57 (by decide) ?_
    obtain ⟨M26, eM26, hf⟩ := xlet_x hf
    refine x_zast (j := (Int32.toNatClampNeg x16)) (cf' := cY E b M26 Lm) C hm cy_12 hi24 (by decide) dX10_chain_58 rfl (by rw [eM26]; exact cyu_12) (by rw [eM26]; exact cY_o) (fun H locs hm => ?_)
    obtain ⟨v27, ev27, hf⟩ := xlet_x hf
    refine lv_iinc (v := v27) (lv' := [(2, .int v27), (0, .ref (b + 0)), (3, .int x16)]) hx hb dX10_chain_59 hl (k := 1) rfl (by rw [ev27]; rfl) (by decide) rfl (fun ls hl => ?_)
    refine lv_aload_n hx hb dX10_chain_62 rfl (lv_at hl 1 rfl) ?_
    refine lv_iload_n hx hb dX10_chain_63 rfl (lv_at hl 2 rfl) ?_
    obtain ⟨v29, hq28, hf⟩ := xb1_e hf
    refine x_callVi (As := [.int x16]) (rest := []) C hm (c_X10_fieldsOf l E b M26 Lm x16 hq28) rfl cy_0 tc_X10_fieldsOf tm_RX10_67 ti_X10_fieldsOf ts_X10_fieldsOf tn_RX10 td_X10_fieldsOf rfl rfl ⟨Nat.le_of_ble_eq_true rfl, Nat.le_of_ble_eq_true rfl⟩ rfl hl.1 rfl (Nat.le_of_ble_eq_true rfl) ⟨Nat.zero_le _, Nat.zero_le _⟩ dX10_chain_64 (fun H locs hP30 hm => ?_)
    refine lv_if_ne (tgt := 74) hx hb dX10_chain_67 (by decide) (fun hc31 => ?_) (fun hc31 => ?_)
    rotate_left
    · have hf := xif_t hc31 hf
      refine lv_iconst (v := (-1 : Int32)) hx hb dX10_chain_70 (by decide) ?_
      refine lv_goto (tgt := 80) hx hb dX10_chain_71 (by decide) ?_
      refine lv_istore_n (lv' := [(3, .int (-1 : Int32)), (2, .int v27), (0, .ref (b + 0))]) hx hb dX10_chain_80 rfl hl (by decide) rfl (fun ls hl => ?_)
      refine lv_goto (tgt := 35) hx hb dX10_chain_81 (by decide) ?_
      exact ih M26 v27 (-1 : Int32) H locs ls hf hm (lv_sub hl [2, 1, 0] rfl)
    have hf := xif_f hc31 hf
    refine lv_aload_n hx hb dX10_chain_74 rfl (lv_at hl 1 rfl) ?_
    refine lv_iload_n hx hb dX10_chain_75 rfl (lv_at hl 2 rfl) ?_
    refine lv_iconst (v := (0 : Int32)) hx hb dX10_chain_76 (by decide) ?_
    obtain ⟨v33, hq32, hf⟩ := xb1_e hf
    refine x_callVi (As := [.int x16, .int (0 : Int32)]) (rest := []) C hm (c_X10_leadsTo l E b M26 Lm x16 (0 : Int32) hq32) rfl cy_0 tc_X10_leadsTo tm_RX10_486 ti_X10_leadsTo ts_X10_leadsTo tn_RX10 td_X10_leadsTo rfl rfl ⟨Nat.le_of_ble_eq_true rfl, Nat.le_of_ble_eq_true rfl⟩ rfl hl.1 rfl (Nat.le_of_ble_eq_true rfl) ⟨Nat.zero_le _, Nat.zero_le _⟩ dX10_chain_77 (fun H locs hP34 hm => ?_)
    refine lv_istore_n (lv' := [(3, .int v33), (2, .int v27), (0, .ref (b + 0))]) hx hb dX10_chain_80 rfl hl (by decide) rfl (fun ls hl => ?_)
    refine lv_goto (tgt := 35) hx hb dX10_chain_81 (by decide) ?_
    exact ih M26 v27 v33 H locs ls hf hm (lv_sub hl [2, 1, 0] rfl)
set_option maxHeartbeats 4000000 in
set_option maxRecDepth 20000 in
theorem c_X10_chain (l : Launch) (E : xE) (b : Nat) (M : xm) (Lm : xn) (a1 : Int32) {r : Int32} {M' : xm} (hf : f_X10_chain M a1 = some (r, M')) :
    xMet l E b NY yX10_chain cX10_chain 4 (some .int) (xR 7) [.ref (b + 0), .int a1] (cY E b M Lm) (some (.int r)) True (cY E b M' Lm) := by
  refine xMet.ofW (own := RX10) (by decide) rfl (Nat.le_of_ble_eq_true rfl) ?_
  intro p e s m below meth c H locs ls C hm hl
  have hx := C.1.1
  have hb := C.1.2.1
  have hl : lv_has ls 4 [(0, .ref (b + 0)), (1, .int a1)] := hl
  unfold f_X10_chain at hf
  refine lv_aload_n hx hb dX10_chain_0 rfl (lv_at hl 0 rfl) ?_
  refine lv_iload_n hx hb dX10_chain_1 rfl (lv_at hl 1 rfl) ?_
  obtain ⟨v2, M3, hq1, hf⟩ := xb2_e hf
  refine x_callVi (As := [.int a1]) (rest := []) C hm (c_X10_isReached l E b M Lm a1 hq1) rfl cy_0 tc_X10_isReached tm_RX10_464 ti_X10_isReached ts_X10_isReached tn_RX10 td_X10_isReached rfl rfl ⟨Nat.le_of_ble_eq_true rfl, Nat.le_of_ble_eq_true rfl⟩ rfl hl.1 rfl (Nat.le_of_ble_eq_true rfl) ⟨Nat.zero_le _, Nat.zero_le _⟩ dX10_chain_2 (fun H locs hP4 hm => ?_)
  refine lv_if_ne (tgt := 10) hx hb dX10_chain_5 (by decide) (fun hc5 => ?_) (fun hc5 => ?_)
  rotate_left
  · have hf := xif_t hc5 hf
    refine lv_iconst (v := (-1 : Int32)) hx hb dX10_chain_8 (by decide) ?_
    cases hf
    exact x_iret C hm trivial dX10_chain_9
  have hf := xif_f hc5 hf
  refine lv_iconst (v := (0 : Int32)) hx hb dX10_chain_10 (by decide) ?_
  refine lv_istore_n (lv' := [(2, .int (0 : Int32)), (0, .ref (b + 0)), (1, .int a1)]) hx hb dX10_chain_11 rfl hl (by decide) rfl (fun ls hl => ?_)
  obtain ⟨M14, hq, hf⟩ := xb1_e hf
  refine j_X10_chain_12 C a1 (fun H locs ls hm hl => ?_) xfuel M3 (0 : Int32) H locs ls hq hm (lv_sub hl [1, 2, 0] rfl)
  refine lv_iconst (v := (0 : Int32)) hx hb dX10_chain_31 (by decide) ?_
  refine lv_istore_n (lv' := [(2, .int (0 : Int32)), (0, .ref (b + 0)), (1, .int a1)]) hx hb dX10_chain_32 rfl hl (by decide) rfl (fun ls hl => ?_)
  refine lv_iload_n hx hb dX10_chain_33 rfl (lv_at hl 2 rfl) ?_
  refine lv_istore_n (lv' := [(3, .int a1), (2, .int (0 : Int32)), (0, .ref (b + 0)), (1, .int a1)]) hx hb dX10_chain_34 rfl hl (by decide) rfl (fun ls hl => ?_)
  obtain ⟨v35, M36, hq, hf⟩ := xb2_e hf
  refine j_X10_chain_35 C (fun H locs ls hm hl => ?_) xfuel M14 (0 : Int32) a1 H locs ls hq hm (lv_sub hl [2, 1, 0] rfl)
  refine lv_iload_n hx hb dX10_chain_84 rfl (lv_at hl 0 rfl) ?_
  cases hf
  exact x_iret C hm trivial dX10_chain_85
/-! ColouredHeapModel.choose()I -/
theorem dX10_choose_0 : decode cX10_choose 0 = .ok (.aload_n 0, 1) := by decide +kernel
theorem dX10_choose_1 : decode cX10_choose 1 = .ok (.invokevirtual 382, 3) := by decide +kernel
theorem dX10_choose_4 : decode cX10_choose 4 = .ok (.ifCond .ne 5, 3) := by decide +kernel
theorem dX10_choose_7 : decode cX10_choose 7 = .ok (.iconst (-1), 1) := by decide +kernel
theorem dX10_choose_8 : decode cX10_choose 8 = .ok (.ireturn, 1) := by decide +kernel
theorem dX10_choose_9 : decode cX10_choose 9 = .ok (.aload_n 0, 1) := by decide +kernel
theorem dX10_choose_10 : decode cX10_choose 10 = .ok (.invokevirtual 397, 3) := by decide +kernel
theorem dX10_choose_13 : decode cX10_choose 13 = .ok (.aload_n 0, 1) := by decide +kernel
theorem dX10_choose_14 : decode cX10_choose 14 = .ok (.invokevirtual 385, 3) := by decide +kernel
theorem dX10_choose_17 : decode cX10_choose 17 = .ok (.ireturn, 1) := by decide +kernel
def f_X10_choose (M : xm) (Lm : xn) : Option (Int32 × xm × xn) := xb1 (f_X10_canChoose M) (fun v2 => (if v2 = 0 then some ((-1 : Int32), M, Lm) else xb1 (f_X10_keep M) (fun M6 => xb3 (f_X10_chooseNow M6 Lm) (fun v9 M10 L11 => some (v9, M10, L11)))))
set_option maxHeartbeats 4000000 in
set_option maxRecDepth 20000 in
theorem c_X10_choose (l : Launch) (E : xE) (b : Nat) (M : xm) (Lm : xn) {r : Int32} {M' : xm} {L' : xn} (hf : f_X10_choose M Lm = some (r, M', L')) :
    xMet l E b NY yX10_choose cX10_choose 1 (some .int) (xR 9) [.ref (b + 0)] (cY E b M Lm) (some (.int r)) True (cY E b M' L') := by
  refine xMet.ofW (own := RX10) (by decide) rfl (Nat.le_of_ble_eq_true rfl) ?_
  intro p e s m below meth c H locs ls C hm hl
  have hx := C.1.1
  have hb := C.1.2.1
  have hl : lv_has ls 1 [(0, .ref (b + 0))] := hl
  unfold f_X10_choose at hf
  refine lv_aload_n hx hb dX10_choose_0 rfl (lv_at hl 0 rfl) ?_
  obtain ⟨v2, hq1, hf⟩ := xb1_e hf
  refine x_callVi (As := []) (rest := []) C hm (c_X10_canChoose l E b M Lm hq1) rfl cy_0 tc_X10_canChoose tm_RX10_382 ti_X10_canChoose ts_X10_canChoose tn_RX10 td_X10_canChoose rfl rfl ⟨Nat.le_of_ble_eq_true rfl, Nat.le_of_ble_eq_true rfl⟩ rfl hl.1 rfl (Nat.le_of_ble_eq_true rfl) ⟨Nat.zero_le _, Nat.zero_le _⟩ dX10_choose_1 (fun H locs hP3 hm => ?_)
  refine lv_if_ne (tgt := 9) hx hb dX10_choose_4 (by decide) (fun hc4 => ?_) (fun hc4 => ?_)
  rotate_left
  · have hf := xif_t hc4 hf
    refine lv_iconst (v := (-1 : Int32)) hx hb dX10_choose_7 (by decide) ?_
    cases hf
    exact x_iret C hm trivial dX10_choose_8
  have hf := xif_f hc4 hf
  refine lv_aload_n hx hb dX10_choose_9 rfl (lv_at hl 0 rfl) ?_
  obtain ⟨M6, hq5, hf⟩ := xb1_e hf
  refine x_callVv (As := []) (rest := []) C hm (c_X10_keep l E b M Lm hq5) rfl cy_0 tc_X10_keep tm_RX10_397 ti_X10_keep ts_X10_keep tn_RX10 td_X10_keep rfl rfl ⟨Nat.le_of_ble_eq_true rfl, Nat.le_of_ble_eq_true rfl⟩ rfl hl.1 rfl (Nat.le_of_ble_eq_true rfl) ⟨Nat.zero_le _, Nat.zero_le _⟩ dX10_choose_10 (fun H locs hP7 hm => ?_)
  refine lv_aload_n hx hb dX10_choose_13 rfl (lv_at hl 0 rfl) ?_
  obtain ⟨v9, M10, L11, hq8, hf⟩ := xb3_e hf
  refine x_callVi (As := []) (rest := []) C hm (c_X10_chooseNow l E b M6 Lm hq8) rfl cy_0 tc_X10_chooseNow tm_RX10_385 ti_X10_chooseNow ts_X10_chooseNow tn_RX10 td_X10_chooseNow rfl rfl ⟨Nat.le_of_ble_eq_true rfl, Nat.le_of_ble_eq_true rfl⟩ rfl hl.1 rfl (Nat.le_of_ble_eq_true rfl) ⟨Nat.zero_le _, Nat.zero_le _⟩ dX10_choose_14 (fun H locs hP12 hm => ?_)
  cases hf
  exact x_iret C hm trivial dX10_choose_17
/-! ColouredHeapModel.sortOf()I -/
theorem dX10_sortOf_0 : decode cX10_sortOf 0 = .ok (.aload_n 0, 1) := by decide +kernel
theorem dX10_sortOf_1 : decode cX10_sortOf 1 = .ok (.bipush 112, 2) := by decide +kernel
theorem dX10_sortOf_3 : decode cX10_sortOf 3 = .ok (.bipush 105, 2) := by decide +kernel
theorem dX10_sortOf_5 : decode cX10_sortOf 5 = .ok (.bipush 99, 2) := by decide +kernel
theorem dX10_sortOf_7 : decode cX10_sortOf 7 = .ok (.bipush 107, 2) := by decide +kernel
theorem dX10_sortOf_9 : decode cX10_sortOf 9 = .ok (.bipush 115, 2) := by decide +kernel
theorem dX10_sortOf_11 : decode cX10_sortOf 11 = .ok (.invokestatic 133, 3) := by decide +kernel
theorem dX10_sortOf_14 : decode cX10_sortOf 14 = .ok (.invokevirtual 189, 3) := by decide +kernel
theorem dX10_sortOf_17 : decode cX10_sortOf 17 = .ok (.ifCond .eq 5, 3) := by decide +kernel
theorem dX10_sortOf_20 : decode cX10_sortOf 20 = .ok (.iconst 0, 1) := by decide +kernel
theorem dX10_sortOf_21 : decode cX10_sortOf 21 = .ok (.ireturn, 1) := by decide +kernel
theorem dX10_sortOf_22 : decode cX10_sortOf 22 = .ok (.aload_n 0, 1) := by decide +kernel
theorem dX10_sortOf_23 : decode cX10_sortOf 23 = .ok (.bipush 112, 2) := by decide +kernel
theorem dX10_sortOf_25 : decode cX10_sortOf 25 = .ok (.bipush 97, 2) := by decide +kernel
theorem dX10_sortOf_27 : decode cX10_sortOf 27 = .ok (.bipush 99, 2) := by decide +kernel
theorem dX10_sortOf_29 : decode cX10_sortOf 29 = .ok (.bipush 101, 2) := by decide +kernel
theorem dX10_sortOf_31 : decode cX10_sortOf 31 = .ok (.bipush 115, 2) := by decide +kernel
theorem dX10_sortOf_33 : decode cX10_sortOf 33 = .ok (.invokestatic 133, 3) := by decide +kernel
theorem dX10_sortOf_36 : decode cX10_sortOf 36 = .ok (.invokevirtual 189, 3) := by decide +kernel
theorem dX10_sortOf_39 : decode cX10_sortOf 39 = .ok (.ifCond .eq 5, 3) := by decide +kernel
theorem dX10_sortOf_42 : decode cX10_sortOf 42 = .ok (.iconst 1, 1) := by decide +kernel
theorem dX10_sortOf_43 : decode cX10_sortOf 43 = .ok (.ireturn, 1) := by decide +kernel
theorem dX10_sortOf_44 : decode cX10_sortOf 44 = .ok (.aload_n 0, 1) := by decide +kernel
theorem dX10_sortOf_45 : decode cX10_sortOf 45 = .ok (.bipush 109, 2) := by decide +kernel
theorem dX10_sortOf_47 : decode cX10_sortOf 47 = .ok (.bipush 97, 2) := by decide +kernel
theorem dX10_sortOf_49 : decode cX10_sortOf 49 = .ok (.bipush 107, 2) := by decide +kernel
theorem dX10_sortOf_51 : decode cX10_sortOf 51 = .ok (.bipush 101, 2) := by decide +kernel
theorem dX10_sortOf_53 : decode cX10_sortOf 53 = .ok (.invokestatic 129, 3) := by decide +kernel
theorem dX10_sortOf_56 : decode cX10_sortOf 56 = .ok (.invokevirtual 189, 3) := by decide +kernel
theorem dX10_sortOf_59 : decode cX10_sortOf 59 = .ok (.ifCond .eq 5, 3) := by decide +kernel
theorem dX10_sortOf_62 : decode cX10_sortOf 62 = .ok (.iconst 2, 1) := by decide +kernel
theorem dX10_sortOf_63 : decode cX10_sortOf 63 = .ok (.ireturn, 1) := by decide +kernel
theorem dX10_sortOf_64 : decode cX10_sortOf 64 = .ok (.aload_n 0, 1) := by decide +kernel
theorem dX10_sortOf_65 : decode cX10_sortOf 65 = .ok (.bipush 108, 2) := by decide +kernel
theorem dX10_sortOf_67 : decode cX10_sortOf 67 = .ok (.bipush 111, 2) := by decide +kernel
theorem dX10_sortOf_69 : decode cX10_sortOf 69 = .ok (.bipush 97, 2) := by decide +kernel
theorem dX10_sortOf_71 : decode cX10_sortOf 71 = .ok (.bipush 100, 2) := by decide +kernel
theorem dX10_sortOf_73 : decode cX10_sortOf 73 = .ok (.invokestatic 129, 3) := by decide +kernel
theorem dX10_sortOf_76 : decode cX10_sortOf 76 = .ok (.invokevirtual 189, 3) := by decide +kernel
theorem dX10_sortOf_79 : decode cX10_sortOf 79 = .ok (.ifCond .eq 5, 3) := by decide +kernel
theorem dX10_sortOf_82 : decode cX10_sortOf 82 = .ok (.iconst 3, 1) := by decide +kernel
theorem dX10_sortOf_83 : decode cX10_sortOf 83 = .ok (.ireturn, 1) := by decide +kernel
theorem dX10_sortOf_84 : decode cX10_sortOf 84 = .ok (.aload_n 0, 1) := by decide +kernel
theorem dX10_sortOf_85 : decode cX10_sortOf 85 = .ok (.bipush 115, 2) := by decide +kernel
theorem dX10_sortOf_87 : decode cX10_sortOf 87 = .ok (.bipush 116, 2) := by decide +kernel
theorem dX10_sortOf_89 : decode cX10_sortOf 89 = .ok (.bipush 111, 2) := by decide +kernel
theorem dX10_sortOf_91 : decode cX10_sortOf 91 = .ok (.bipush 114, 2) := by decide +kernel
theorem dX10_sortOf_93 : decode cX10_sortOf 93 = .ok (.bipush 101, 2) := by decide +kernel
theorem dX10_sortOf_95 : decode cX10_sortOf 95 = .ok (.invokestatic 133, 3) := by decide +kernel
theorem dX10_sortOf_98 : decode cX10_sortOf 98 = .ok (.invokevirtual 189, 3) := by decide +kernel
theorem dX10_sortOf_101 : decode cX10_sortOf 101 = .ok (.ifCond .eq 5, 3) := by decide +kernel
theorem dX10_sortOf_104 : decode cX10_sortOf 104 = .ok (.iconst 4, 1) := by decide +kernel
theorem dX10_sortOf_105 : decode cX10_sortOf 105 = .ok (.ireturn, 1) := by decide +kernel
theorem dX10_sortOf_106 : decode cX10_sortOf 106 = .ok (.aload_n 0, 1) := by decide +kernel
theorem dX10_sortOf_107 : decode cX10_sortOf 107 = .ok (.bipush 100, 2) := by decide +kernel
theorem dX10_sortOf_109 : decode cX10_sortOf 109 = .ok (.bipush 114, 2) := by decide +kernel
theorem dX10_sortOf_111 : decode cX10_sortOf 111 = .ok (.bipush 111, 2) := by decide +kernel
theorem dX10_sortOf_113 : decode cX10_sortOf 113 = .ok (.bipush 112, 2) := by decide +kernel
theorem dX10_sortOf_115 : decode cX10_sortOf 115 = .ok (.invokestatic 129, 3) := by decide +kernel
theorem dX10_sortOf_118 : decode cX10_sortOf 118 = .ok (.invokevirtual 189, 3) := by decide +kernel
theorem dX10_sortOf_121 : decode cX10_sortOf 121 = .ok (.ifCond .eq 7, 3) := by decide +kernel
theorem dX10_sortOf_124 : decode cX10_sortOf 124 = .ok (.iconst 5, 1) := by decide +kernel
theorem dX10_sortOf_125 : decode cX10_sortOf 125 = .ok (.goto 25, 3) := by decide +kernel
theorem dX10_sortOf_128 : decode cX10_sortOf 128 = .ok (.aload_n 0, 1) := by decide +kernel
theorem dX10_sortOf_129 : decode cX10_sortOf 129 = .ok (.bipush 100, 2) := by decide +kernel
theorem dX10_sortOf_131 : decode cX10_sortOf 131 = .ok (.bipush 97, 2) := by decide +kernel
theorem dX10_sortOf_133 : decode cX10_sortOf 133 = .ok (.bipush 121, 2) := by decide +kernel
theorem dX10_sortOf_135 : decode cX10_sortOf 135 = .ok (.invokestatic 125, 3) := by decide +kernel
theorem dX10_sortOf_138 : decode cX10_sortOf 138 = .ok (.invokevirtual 189, 3) := by decide +kernel
theorem dX10_sortOf_141 : decode cX10_sortOf 141 = .ok (.ifCond .eq 8, 3) := by decide +kernel
theorem dX10_sortOf_144 : decode cX10_sortOf 144 = .ok (.bipush 6, 2) := by decide +kernel
theorem dX10_sortOf_146 : decode cX10_sortOf 146 = .ok (.goto 4, 3) := by decide +kernel
theorem dX10_sortOf_149 : decode cX10_sortOf 149 = .ok (.iconst (-1), 1) := by decide +kernel
theorem dX10_sortOf_150 : decode cX10_sortOf 150 = .ok (.ireturn, 1) := by decide +kernel
def f_X10_sortOf (M : xm) (Lm : xn) : Int32 := (if (f_X10_isWord M Lm (f_X10_w5 (112 : Int32) (105 : Int32) (99 : Int32) (107 : Int32) (115 : Int32))) = 0 then (if (f_X10_isWord M Lm (f_X10_w5 (112 : Int32) (97 : Int32) (99 : Int32) (101 : Int32) (115 : Int32))) = 0 then (if (f_X10_isWord M Lm (f_X10_w4 (109 : Int32) (97 : Int32) (107 : Int32) (101 : Int32))) = 0 then (if (f_X10_isWord M Lm (f_X10_w4 (108 : Int32) (111 : Int32) (97 : Int32) (100 : Int32))) = 0 then (if (f_X10_isWord M Lm (f_X10_w5 (115 : Int32) (116 : Int32) (111 : Int32) (114 : Int32) (101 : Int32))) = 0 then (if (f_X10_isWord M Lm (f_X10_w4 (100 : Int32) (114 : Int32) (111 : Int32) (112 : Int32))) = 0 then (if (f_X10_isWord M Lm (f_X10_w3 (100 : Int32) (97 : Int32) (121 : Int32))) = 0 then (-1 : Int32) else (6 : Int32)) else (5 : Int32)) else (4 : Int32)) else (3 : Int32)) else (2 : Int32)) else (1 : Int32)) else (0 : Int32))
set_option maxHeartbeats 4000000 in
set_option maxRecDepth 20000 in
theorem c_X10_sortOf (l : Launch) (E : xE) (b : Nat) (M : xm) (Lm : xn) {r : Int32} (hf : f_X10_sortOf M Lm = r) :
    xMet l E b NY yX10_sortOf cX10_sortOf 1 (some .int) (xR 5) [.ref (b + 0)] (cY E b M Lm) (some (.int r)) True (cY E b M Lm) := by
  refine xMet.ofW (own := RX10) (by decide) rfl (Nat.le_of_ble_eq_true rfl) ?_
  intro p e s m below meth c H locs ls C hm hl
  have hx := C.1.1
  have hb := C.1.2.1
  have hl : lv_has ls 1 [(0, .ref (b + 0))] := hl
  unfold f_X10_sortOf at hf
  refine lv_aload_n hx hb dX10_sortOf_0 rfl (lv_at hl 0 rfl) ?_
  refine lv_bipush (v := (112 : Int32)) hx hb dX10_sortOf_1 (by decide) ?_
  refine lv_bipush (v := (105 : Int32)) hx hb dX10_sortOf_3 (by decide) ?_
  refine lv_bipush (v := (99 : Int32)) hx hb dX10_sortOf_5 (by decide) ?_
  refine lv_bipush (v := (107 : Int32)) hx hb dX10_sortOf_7 (by decide) ?_
  refine lv_bipush (v := (115 : Int32)) hx hb dX10_sortOf_9 (by decide) ?_
  refine x_callSl (As := [.int (112 : Int32), .int (105 : Int32), .int (99 : Int32), .int (107 : Int32), .int (115 : Int32)]) (rest := [.ref (b + 0)]) C hm (c_X10_w5 l E b M Lm (112 : Int32) (105 : Int32) (99 : Int32) (107 : Int32) (115 : Int32) rfl) tc_X10_w5 tm_RX10_133 tz_X10_w5 tn_RX10 td_X10_w5 rfl rfl ⟨Nat.le_of_ble_eq_true rfl, Nat.le_of_ble_eq_true rfl⟩ rfl hl.1 rfl (Nat.le_of_ble_eq_true rfl) ⟨Nat.zero_le _, Nat.zero_le _⟩ dX10_sortOf_11 (fun H locs hP1 hm => ?_)
  refine x_callVi (As := [.long (f_X10_w5 (112 : Int32) (105 : Int32) (99 : Int32) (107 : Int32) (115 : Int32))]) (rest := []) C hm (c_X10_isWord l E b M Lm (f_X10_w5 (112 : Int32) (105 : Int32) (99 : Int32) (107 : Int32) (115 : Int32)) rfl) rfl cy_0 tc_X10_isWord tm_RX10_189 ti_X10_isWord ts_X10_isWord tn_RX10 td_X10_isWord rfl rfl ⟨Nat.le_of_ble_eq_true rfl, Nat.le_of_ble_eq_true rfl⟩ rfl hl.1 rfl (Nat.le_of_ble_eq_true rfl) ⟨Nat.zero_le _, Nat.zero_le _⟩ dX10_sortOf_14 (fun H locs hP2 hm => ?_)
  refine lv_if_eq (tgt := 22) hx hb dX10_sortOf_17 (by decide) (fun hc3 => ?_) (fun hc3 => ?_)
  rotate_left
  · have hf := xif_f hc3 hf
    refine lv_iconst (v := (0 : Int32)) hx hb dX10_sortOf_20 (by decide) ?_
    cases hf
    exact x_iret C hm trivial dX10_sortOf_21
  have hf := xif_t hc3 hf
  refine lv_aload_n hx hb dX10_sortOf_22 rfl (lv_at hl 0 rfl) ?_
  refine lv_bipush (v := (112 : Int32)) hx hb dX10_sortOf_23 (by decide) ?_
  refine lv_bipush (v := (97 : Int32)) hx hb dX10_sortOf_25 (by decide) ?_
  refine lv_bipush (v := (99 : Int32)) hx hb dX10_sortOf_27 (by decide) ?_
  refine lv_bipush (v := (101 : Int32)) hx hb dX10_sortOf_29 (by decide) ?_
  refine lv_bipush (v := (115 : Int32)) hx hb dX10_sortOf_31 (by decide) ?_
  refine x_callSl (As := [.int (112 : Int32), .int (97 : Int32), .int (99 : Int32), .int (101 : Int32), .int (115 : Int32)]) (rest := [.ref (b + 0)]) C hm (c_X10_w5 l E b M Lm (112 : Int32) (97 : Int32) (99 : Int32) (101 : Int32) (115 : Int32) rfl) tc_X10_w5 tm_RX10_133 tz_X10_w5 tn_RX10 td_X10_w5 rfl rfl ⟨Nat.le_of_ble_eq_true rfl, Nat.le_of_ble_eq_true rfl⟩ rfl hl.1 rfl (Nat.le_of_ble_eq_true rfl) ⟨Nat.zero_le _, Nat.zero_le _⟩ dX10_sortOf_33 (fun H locs hP4 hm => ?_)
  refine x_callVi (As := [.long (f_X10_w5 (112 : Int32) (97 : Int32) (99 : Int32) (101 : Int32) (115 : Int32))]) (rest := []) C hm (c_X10_isWord l E b M Lm (f_X10_w5 (112 : Int32) (97 : Int32) (99 : Int32) (101 : Int32) (115 : Int32)) rfl) rfl cy_0 tc_X10_isWord tm_RX10_189 ti_X10_isWord ts_X10_isWord tn_RX10 td_X10_isWord rfl rfl ⟨Nat.le_of_ble_eq_true rfl, Nat.le_of_ble_eq_true rfl⟩ rfl hl.1 rfl (Nat.le_of_ble_eq_true rfl) ⟨Nat.zero_le _, Nat.zero_le _⟩ dX10_sortOf_36 (fun H locs hP5 hm => ?_)
  refine lv_if_eq (tgt := 44) hx hb dX10_sortOf_39 (by decide) (fun hc6 => ?_) (fun hc6 => ?_)
  rotate_left
  · have hf := xif_f hc6 hf
    refine lv_iconst (v := (1 : Int32)) hx hb dX10_sortOf_42 (by decide) ?_
    cases hf
    exact x_iret C hm trivial dX10_sortOf_43
  have hf := xif_t hc6 hf
  refine lv_aload_n hx hb dX10_sortOf_44 rfl (lv_at hl 0 rfl) ?_
  refine lv_bipush (v := (109 : Int32)) hx hb dX10_sortOf_45 (by decide) ?_
  refine lv_bipush (v := (97 : Int32)) hx hb dX10_sortOf_47 (by decide) ?_
  refine lv_bipush (v := (107 : Int32)) hx hb dX10_sortOf_49 (by decide) ?_
  refine lv_bipush (v := (101 : Int32)) hx hb dX10_sortOf_51 (by decide) ?_
  refine x_callSl (As := [.int (109 : Int32), .int (97 : Int32), .int (107 : Int32), .int (101 : Int32)]) (rest := [.ref (b + 0)]) C hm (c_X10_w4 l E b M Lm (109 : Int32) (97 : Int32) (107 : Int32) (101 : Int32) rfl) tc_X10_w4 tm_RX10_129 tz_X10_w4 tn_RX10 td_X10_w4 rfl rfl ⟨Nat.le_of_ble_eq_true rfl, Nat.le_of_ble_eq_true rfl⟩ rfl hl.1 rfl (Nat.le_of_ble_eq_true rfl) ⟨Nat.zero_le _, Nat.zero_le _⟩ dX10_sortOf_53 (fun H locs hP7 hm => ?_)
  refine x_callVi (As := [.long (f_X10_w4 (109 : Int32) (97 : Int32) (107 : Int32) (101 : Int32))]) (rest := []) C hm (c_X10_isWord l E b M Lm (f_X10_w4 (109 : Int32) (97 : Int32) (107 : Int32) (101 : Int32)) rfl) rfl cy_0 tc_X10_isWord tm_RX10_189 ti_X10_isWord ts_X10_isWord tn_RX10 td_X10_isWord rfl rfl ⟨Nat.le_of_ble_eq_true rfl, Nat.le_of_ble_eq_true rfl⟩ rfl hl.1 rfl (Nat.le_of_ble_eq_true rfl) ⟨Nat.zero_le _, Nat.zero_le _⟩ dX10_sortOf_56 (fun H locs hP8 hm => ?_)
  refine lv_if_eq (tgt := 64) hx hb dX10_sortOf_59 (by decide) (fun hc9 => ?_) (fun hc9 => ?_)
  rotate_left
  · have hf := xif_f hc9 hf
    refine lv_iconst (v := (2 : Int32)) hx hb dX10_sortOf_62 (by decide) ?_
    cases hf
    exact x_iret C hm trivial dX10_sortOf_63
  have hf := xif_t hc9 hf
  refine lv_aload_n hx hb dX10_sortOf_64 rfl (lv_at hl 0 rfl) ?_
  refine lv_bipush (v := (108 : Int32)) hx hb dX10_sortOf_65 (by decide) ?_
  refine lv_bipush (v := (111 : Int32)) hx hb dX10_sortOf_67 (by decide) ?_
  refine lv_bipush (v := (97 : Int32)) hx hb dX10_sortOf_69 (by decide) ?_
  refine lv_bipush (v := (100 : Int32)) hx hb dX10_sortOf_71 (by decide) ?_
  refine x_callSl (As := [.int (108 : Int32), .int (111 : Int32), .int (97 : Int32), .int (100 : Int32)]) (rest := [.ref (b + 0)]) C hm (c_X10_w4 l E b M Lm (108 : Int32) (111 : Int32) (97 : Int32) (100 : Int32) rfl) tc_X10_w4 tm_RX10_129 tz_X10_w4 tn_RX10 td_X10_w4 rfl rfl ⟨Nat.le_of_ble_eq_true rfl, Nat.le_of_ble_eq_true rfl⟩ rfl hl.1 rfl (Nat.le_of_ble_eq_true rfl) ⟨Nat.zero_le _, Nat.zero_le _⟩ dX10_sortOf_73 (fun H locs hP10 hm => ?_)
  refine x_callVi (As := [.long (f_X10_w4 (108 : Int32) (111 : Int32) (97 : Int32) (100 : Int32))]) (rest := []) C hm (c_X10_isWord l E b M Lm (f_X10_w4 (108 : Int32) (111 : Int32) (97 : Int32) (100 : Int32)) rfl) rfl cy_0 tc_X10_isWord tm_RX10_189 ti_X10_isWord ts_X10_isWord tn_RX10 td_X10_isWord rfl rfl ⟨Nat.le_of_ble_eq_true rfl, Nat.le_of_ble_eq_true rfl⟩ rfl hl.1 rfl (Nat.le_of_ble_eq_true rfl) ⟨Nat.zero_le _, Nat.zero_le _⟩ dX10_sortOf_76 (fun H locs hP11 hm => ?_)
  refine lv_if_eq (tgt := 84) hx hb dX10_sortOf_79 (by decide) (fun hc12 => ?_) (fun hc12 => ?_)
  rotate_left
  · have hf := xif_f hc12 hf
    refine lv_iconst (v := (3 : Int32)) hx hb dX10_sortOf_82 (by decide) ?_
    cases hf
    exact x_iret C hm trivial dX10_sortOf_83
  have hf := xif_t hc12 hf
  refine lv_aload_n hx hb dX10_sortOf_84 rfl (lv_at hl 0 rfl) ?_
  refine lv_bipush (v := (115 : Int32)) hx hb dX10_sortOf_85 (by decide) ?_
  refine lv_bipush (v := (116 : Int32)) hx hb dX10_sortOf_87 (by decide) ?_
  refine lv_bipush (v := (111 : Int32)) hx hb dX10_sortOf_89 (by decide) ?_
  refine lv_bipush (v := (114 : Int32)) hx hb dX10_sortOf_91 (by decide) ?_
  refine lv_bipush (v := (101 : Int32)) hx hb dX10_sortOf_93 (by decide) ?_
  refine x_callSl (As := [.int (115 : Int32), .int (116 : Int32), .int (111 : Int32), .int (114 : Int32), .int (101 : Int32)]) (rest := [.ref (b + 0)]) C hm (c_X10_w5 l E b M Lm (115 : Int32) (116 : Int32) (111 : Int32) (114 : Int32) (101 : Int32) rfl) tc_X10_w5 tm_RX10_133 tz_X10_w5 tn_RX10 td_X10_w5 rfl rfl ⟨Nat.le_of_ble_eq_true rfl, Nat.le_of_ble_eq_true rfl⟩ rfl hl.1 rfl (Nat.le_of_ble_eq_true rfl) ⟨Nat.zero_le _, Nat.zero_le _⟩ dX10_sortOf_95 (fun H locs hP13 hm => ?_)
  refine x_callVi (As := [.long (f_X10_w5 (115 : Int32) (116 : Int32) (111 : Int32) (114 : Int32) (101 : Int32))]) (rest := []) C hm (c_X10_isWord l E b M Lm (f_X10_w5 (115 : Int32) (116 : Int32) (111 : Int32) (114 : Int32) (101 : Int32)) rfl) rfl cy_0 tc_X10_isWord tm_RX10_189 ti_X10_isWord ts_X10_isWord tn_RX10 td_X10_isWord rfl rfl ⟨Nat.le_of_ble_eq_true rfl, Nat.le_of_ble_eq_true rfl⟩ rfl hl.1 rfl (Nat.le_of_ble_eq_true rfl) ⟨Nat.zero_le _, Nat.zero_le _⟩ dX10_sortOf_98 (fun H locs hP14 hm => ?_)
  refine lv_if_eq (tgt := 106) hx hb dX10_sortOf_101 (by decide) (fun hc15 => ?_) (fun hc15 => ?_)
  rotate_left
  · have hf := xif_f hc15 hf
    refine lv_iconst (v := (4 : Int32)) hx hb dX10_sortOf_104 (by decide) ?_
    cases hf
    exact x_iret C hm trivial dX10_sortOf_105
  have hf := xif_t hc15 hf
  refine lv_aload_n hx hb dX10_sortOf_106 rfl (lv_at hl 0 rfl) ?_
  refine lv_bipush (v := (100 : Int32)) hx hb dX10_sortOf_107 (by decide) ?_
  refine lv_bipush (v := (114 : Int32)) hx hb dX10_sortOf_109 (by decide) ?_
  refine lv_bipush (v := (111 : Int32)) hx hb dX10_sortOf_111 (by decide) ?_
  refine lv_bipush (v := (112 : Int32)) hx hb dX10_sortOf_113 (by decide) ?_
  refine x_callSl (As := [.int (100 : Int32), .int (114 : Int32), .int (111 : Int32), .int (112 : Int32)]) (rest := [.ref (b + 0)]) C hm (c_X10_w4 l E b M Lm (100 : Int32) (114 : Int32) (111 : Int32) (112 : Int32) rfl) tc_X10_w4 tm_RX10_129 tz_X10_w4 tn_RX10 td_X10_w4 rfl rfl ⟨Nat.le_of_ble_eq_true rfl, Nat.le_of_ble_eq_true rfl⟩ rfl hl.1 rfl (Nat.le_of_ble_eq_true rfl) ⟨Nat.zero_le _, Nat.zero_le _⟩ dX10_sortOf_115 (fun H locs hP16 hm => ?_)
  refine x_callVi (As := [.long (f_X10_w4 (100 : Int32) (114 : Int32) (111 : Int32) (112 : Int32))]) (rest := []) C hm (c_X10_isWord l E b M Lm (f_X10_w4 (100 : Int32) (114 : Int32) (111 : Int32) (112 : Int32)) rfl) rfl cy_0 tc_X10_isWord tm_RX10_189 ti_X10_isWord ts_X10_isWord tn_RX10 td_X10_isWord rfl rfl ⟨Nat.le_of_ble_eq_true rfl, Nat.le_of_ble_eq_true rfl⟩ rfl hl.1 rfl (Nat.le_of_ble_eq_true rfl) ⟨Nat.zero_le _, Nat.zero_le _⟩ dX10_sortOf_118 (fun H locs hP17 hm => ?_)
  refine lv_if_eq (tgt := 128) hx hb dX10_sortOf_121 (by decide) (fun hc18 => ?_) (fun hc18 => ?_)
  rotate_left
  · have hf := xif_f hc18 hf
    refine lv_iconst (v := (5 : Int32)) hx hb dX10_sortOf_124 (by decide) ?_
    refine lv_goto (tgt := 150) hx hb dX10_sortOf_125 (by decide) ?_
    cases hf
    exact x_iret C hm trivial dX10_sortOf_150
  have hf := xif_t hc18 hf
  refine lv_aload_n hx hb dX10_sortOf_128 rfl (lv_at hl 0 rfl) ?_
  refine lv_bipush (v := (100 : Int32)) hx hb dX10_sortOf_129 (by decide) ?_
  refine lv_bipush (v := (97 : Int32)) hx hb dX10_sortOf_131 (by decide) ?_
  refine lv_bipush (v := (121 : Int32)) hx hb dX10_sortOf_133 (by decide) ?_
  refine x_callSl (As := [.int (100 : Int32), .int (97 : Int32), .int (121 : Int32)]) (rest := [.ref (b + 0)]) C hm (c_X10_w3 l E b M Lm (100 : Int32) (97 : Int32) (121 : Int32) rfl) tc_X10_w3 tm_RX10_125 tz_X10_w3 tn_RX10 td_X10_w3 rfl rfl ⟨Nat.le_of_ble_eq_true rfl, Nat.le_of_ble_eq_true rfl⟩ rfl hl.1 rfl (Nat.le_of_ble_eq_true rfl) ⟨Nat.zero_le _, Nat.zero_le _⟩ dX10_sortOf_135 (fun H locs hP19 hm => ?_)
  refine x_callVi (As := [.long (f_X10_w3 (100 : Int32) (97 : Int32) (121 : Int32))]) (rest := []) C hm (c_X10_isWord l E b M Lm (f_X10_w3 (100 : Int32) (97 : Int32) (121 : Int32)) rfl) rfl cy_0 tc_X10_isWord tm_RX10_189 ti_X10_isWord ts_X10_isWord tn_RX10 td_X10_isWord rfl rfl ⟨Nat.le_of_ble_eq_true rfl, Nat.le_of_ble_eq_true rfl⟩ rfl hl.1 rfl (Nat.le_of_ble_eq_true rfl) ⟨Nat.zero_le _, Nat.zero_le _⟩ dX10_sortOf_138 (fun H locs hP20 hm => ?_)
  refine lv_if_eq (tgt := 149) hx hb dX10_sortOf_141 (by decide) (fun hc21 => ?_) (fun hc21 => ?_)
  · have hf := xif_t hc21 hf
    refine lv_iconst (v := (-1 : Int32)) hx hb dX10_sortOf_149 (by decide) ?_
    cases hf
    exact x_iret C hm trivial dX10_sortOf_150
  have hf := xif_f hc21 hf
  refine lv_bipush (v := (6 : Int32)) hx hb dX10_sortOf_144 (by decide) ?_
  refine lv_goto (tgt := 150) hx hb dX10_sortOf_146 (by decide) ?_
  cases hf
  exact x_iret C hm trivial dX10_sortOf_150
/-! ColouredHeapModel.clause()I -/
theorem dX10_clause_0 : decode cX10_clause 0 = .ok (.aload_n 0, 1) := by decide +kernel
theorem dX10_clause_1 : decode cX10_clause 1 = .ok (.invokevirtual 236, 3) := by decide +kernel
theorem dX10_clause_4 : decode cX10_clause 4 = .ok (.istore_n 1, 1) := by decide +kernel
theorem dX10_clause_5 : decode cX10_clause 5 = .ok (.iload_n 1, 1) := by decide +kernel
theorem dX10_clause_6 : decode cX10_clause 6 = .ok (.ifCond .ge 5, 3) := by decide +kernel
theorem dX10_clause_9 : decode cX10_clause 9 = .ok (.iconst 1, 1) := by decide +kernel
theorem dX10_clause_10 : decode cX10_clause 10 = .ok (.ireturn, 1) := by decide +kernel
theorem dX10_clause_11 : decode cX10_clause 11 = .ok (.iload_n 1, 1) := by decide +kernel
theorem dX10_clause_12 : decode cX10_clause 12 = .ok (.iconst 1, 1) := by decide +kernel
theorem dX10_clause_13 : decode cX10_clause 13 = .ok (.if_icmp .gt 16, 3) := by decide +kernel
theorem dX10_clause_16 : decode cX10_clause 16 = .ok (.aload_n 0, 1) := by decide +kernel
theorem dX10_clause_17 : decode cX10_clause 17 = .ok (.getfield 239, 3) := by decide +kernel
theorem dX10_clause_20 : decode cX10_clause 20 = .ok (.iload_n 1, 1) := by decide +kernel
theorem dX10_clause_21 : decode cX10_clause 21 = .ok (.invokestatic 242, 3) := by decide +kernel
theorem dX10_clause_24 : decode cX10_clause 24 = .ok (.ifCond .eq 5, 3) := by decide +kernel
theorem dX10_clause_27 : decode cX10_clause 27 = .ok (.iconst 4, 1) := by decide +kernel
theorem dX10_clause_28 : decode cX10_clause 28 = .ok (.ireturn, 1) := by decide +kernel
theorem dX10_clause_29 : decode cX10_clause 29 = .ok (.aload_n 0, 1) := by decide +kernel
theorem dX10_clause_30 : decode cX10_clause 30 = .ok (.getfield 16, 3) := by decide +kernel
theorem dX10_clause_33 : decode cX10_clause 33 = .ok (.aload_n 0, 1) := by decide +kernel
theorem dX10_clause_34 : decode cX10_clause 34 = .ok (.getfield 137, 3) := by decide +kernel
theorem dX10_clause_37 : decode cX10_clause 37 = .ok (.iaload, 1) := by decide +kernel
theorem dX10_clause_38 : decode cX10_clause 38 = .ok (.istore_n 2, 1) := by decide +kernel
theorem dX10_clause_39 : decode cX10_clause 39 = .ok (.iload_n 2, 1) := by decide +kernel
theorem dX10_clause_40 : decode cX10_clause 40 = .ok (.bipush 24, 2) := by decide +kernel
theorem dX10_clause_42 : decode cX10_clause 42 = .ok (.if_icmp .ne 6, 3) := by decide +kernel
theorem dX10_clause_45 : decode cX10_clause 45 = .ok (.bipush 6, 2) := by decide +kernel
theorem dX10_clause_47 : decode cX10_clause 47 = .ok (.ireturn, 1) := by decide +kernel
theorem dX10_clause_48 : decode cX10_clause 48 = .ok (.iload_n 1, 1) := by decide +kernel
theorem dX10_clause_49 : decode cX10_clause 49 = .ok (.iconst 1, 1) := by decide +kernel
theorem dX10_clause_50 : decode cX10_clause 50 = .ok (.if_icmp .gt 15, 3) := by decide +kernel
theorem dX10_clause_53 : decode cX10_clause 53 = .ok (.aload_n 0, 1) := by decide +kernel
theorem dX10_clause_54 : decode cX10_clause 54 = .ok (.dup, 1) := by decide +kernel
theorem dX10_clause_55 : decode cX10_clause 55 = .ok (.getfield 239, 3) := by decide +kernel
theorem dX10_clause_58 : decode cX10_clause 58 = .ok (.iconst 1, 1) := by decide +kernel
theorem dX10_clause_59 : decode cX10_clause 59 = .ok (.iload_n 1, 1) := by decide +kernel
theorem dX10_clause_60 : decode cX10_clause 60 = .ok (.ishl, 1) := by decide +kernel
theorem dX10_clause_61 : decode cX10_clause 61 = .ok (.ior, 1) := by decide +kernel
theorem dX10_clause_62 : decode cX10_clause 62 = .ok (.putfield 239, 3) := by decide +kernel
theorem dX10_clause_65 : decode cX10_clause 65 = .ok (.aload_n 0, 1) := by decide +kernel
theorem dX10_clause_66 : decode cX10_clause 66 = .ok (.iload_n 1, 1) := by decide +kernel
theorem dX10_clause_67 : decode cX10_clause 67 = .ok (.putfield 147, 3) := by decide +kernel
theorem dX10_clause_70 : decode cX10_clause 70 = .ok (.aload_n 0, 1) := by decide +kernel
theorem dX10_clause_71 : decode cX10_clause 71 = .ok (.invokevirtual 170, 3) := by decide +kernel
theorem dX10_clause_74 : decode cX10_clause 74 = .ok (.aload_n 0, 1) := by decide +kernel
theorem dX10_clause_75 : decode cX10_clause 75 = .ok (.getfield 137, 3) := by decide +kernel
theorem dX10_clause_78 : decode cX10_clause 78 = .ok (.iconst 1, 1) := by decide +kernel
theorem dX10_clause_79 : decode cX10_clause 79 = .ok (.iadd, 1) := by decide +kernel
theorem dX10_clause_80 : decode cX10_clause 80 = .ok (.iconst 4, 1) := by decide +kernel
theorem dX10_clause_81 : decode cX10_clause 81 = .ok (.iload_n 2, 1) := by decide +kernel
theorem dX10_clause_82 : decode cX10_clause 82 = .ok (.imul, 1) := by decide +kernel
theorem dX10_clause_83 : decode cX10_clause 83 = .ok (.iadd, 1) := by decide +kernel
theorem dX10_clause_84 : decode cX10_clause 84 = .ok (.istore_n 3, 1) := by decide +kernel
theorem dX10_clause_85 : decode cX10_clause 85 = .ok (.aload_n 0, 1) := by decide +kernel
theorem dX10_clause_86 : decode cX10_clause 86 = .ok (.getfield 16, 3) := by decide +kernel
theorem dX10_clause_89 : decode cX10_clause 89 = .ok (.iload_n 3, 1) := by decide +kernel
theorem dX10_clause_90 : decode cX10_clause 90 = .ok (.iload_n 1, 1) := by decide +kernel
theorem dX10_clause_91 : decode cX10_clause 91 = .ok (.iastore, 1) := by decide +kernel
theorem dX10_clause_92 : decode cX10_clause 92 = .ok (.aload_n 0, 1) := by decide +kernel
theorem dX10_clause_93 : decode cX10_clause 93 = .ok (.iload_n 1, 1) := by decide +kernel
theorem dX10_clause_94 : decode cX10_clause 94 = .ok (.iload_n 3, 1) := by decide +kernel
theorem dX10_clause_95 : decode cX10_clause 95 = .ok (.invokevirtual 246, 3) := by decide +kernel
theorem dX10_clause_98 : decode cX10_clause 98 = .ok (.istore 4, 2) := by decide +kernel
theorem dX10_clause_100 : decode cX10_clause 100 = .ok (.iload 4, 2) := by decide +kernel
theorem dX10_clause_102 : decode cX10_clause 102 = .ok (.ifCond .eq 6, 3) := by decide +kernel
theorem dX10_clause_105 : decode cX10_clause 105 = .ok (.iload 4, 2) := by decide +kernel
theorem dX10_clause_107 : decode cX10_clause 107 = .ok (.ireturn, 1) := by decide +kernel
theorem dX10_clause_108 : decode cX10_clause 108 = .ok (.aload_n 0, 1) := by decide +kernel
theorem dX10_clause_109 : decode cX10_clause 109 = .ok (.getfield 16, 3) := by decide +kernel
theorem dX10_clause_112 : decode cX10_clause 112 = .ok (.aload_n 0, 1) := by decide +kernel
theorem dX10_clause_113 : decode cX10_clause 113 = .ok (.getfield 137, 3) := by decide +kernel
theorem dX10_clause_116 : decode cX10_clause 116 = .ok (.dup2, 1) := by decide +kernel
theorem dX10_clause_117 : decode cX10_clause 117 = .ok (.iaload, 1) := by decide +kernel
theorem dX10_clause_118 : decode cX10_clause 118 = .ok (.iconst 1, 1) := by decide +kernel
theorem dX10_clause_119 : decode cX10_clause 119 = .ok (.iadd, 1) := by decide +kernel
theorem dX10_clause_120 : decode cX10_clause 120 = .ok (.iastore, 1) := by decide +kernel
theorem dX10_clause_121 : decode cX10_clause 121 = .ok (.aload_n 0, 1) := by decide +kernel
theorem dX10_clause_122 : decode cX10_clause 122 = .ok (.getfield 99, 3) := by decide +kernel
theorem dX10_clause_125 : decode cX10_clause 125 = .ok (.bipush 59, 2) := by decide +kernel
theorem dX10_clause_127 : decode cX10_clause 127 = .ok (.if_icmp .eq 5, 3) := by decide +kernel
theorem dX10_clause_130 : decode cX10_clause 130 = .ok (.iconst 1, 1) := by decide +kernel
theorem dX10_clause_131 : decode cX10_clause 131 = .ok (.ireturn, 1) := by decide +kernel
theorem dX10_clause_132 : decode cX10_clause 132 = .ok (.aload_n 0, 1) := by decide +kernel
theorem dX10_clause_133 : decode cX10_clause 133 = .ok (.invokevirtual 170, 3) := by decide +kernel
theorem dX10_clause_136 : decode cX10_clause 136 = .ok (.iconst 0, 1) := by decide +kernel
theorem dX10_clause_137 : decode cX10_clause 137 = .ok (.ireturn, 1) := by decide +kernel
def f_X10_clause (M : xm) (Lm : xn) : Option (Int32 × xm × xn) := xlet (f_X10_sortOf M Lm) (fun v2 => (if 0 ≤ v2 then xlet (if xin (M 0 12) 2820 = true then xlet (M 3 (Int32.toNatClampNeg (M 0 12))) (fun v6 => (if v6 = (24 : Int32) then some ((6 : Int32), M, Lm) else xlet (fun (M8 : xm) => xlet (up2 M8 0 14 v2) (fun M10 => xb2 (f_X10_nextToken M10 Lm) (fun M12 L13 => xlet (((M12 0 12) + (1 : Int32)) + ((4 : Int32) * v6)) (fun v15 => if xin v15 2820 = true then xlet (up2 M12 3 (Int32.toNatClampNeg v15) v2) (fun M17 => xb3 (f_X10_body M17 L13 v2 v15) (fun v19 M20 L21 => (if v19 = 0 then if xin (M20 0 12) 2820 = true then xlet (up2 M20 3 (Int32.toNatClampNeg (M20 0 12)) ((M20 3 (Int32.toNatClampNeg (M20 0 12))) + (1 : Int32))) (fun M25 => (if (M25 0 9) = (59 : Int32) then xb2 (f_X10_nextToken M25 L21) (fun M28 L29 => some ((0 : Int32), M28, L29)) else some ((1 : Int32), M25, L21))) else none else some (v19, M20, L21)))) else none)))) (fun k9 => (if (1 : Int32) < v2 then (k9 M) else xlet (up2 M 0 19 ((M 0 19) ||| ((1 : Int32) <<< (v2 &&& 31)))) (fun M32 => (k9 M32)))))) else none) (fun k4 => (if (1 : Int32) < v2 then k4 else (if (f_X10_has (M 0 19) v2) = 0 then k4 else some ((4 : Int32), M, Lm)))) else some ((1 : Int32), M, Lm)))
set_option maxHeartbeats 4000000 in
set_option maxRecDepth 20000 in
theorem c_X10_clause (l : Launch) (E : xE) (b : Nat) (M : xm) (Lm : xn) {r : Int32} {M' : xm} {L' : xn} (hf : f_X10_clause M Lm = some (r, M', L')) :
    xMet l E b NY yX10_clause cX10_clause 5 (some .int) (xR 11) [.ref (b + 0)] (cY E b M Lm) (some (.int r)) True (cY E b M' L') := by
  refine xMet.ofW (own := RX10) (by decide) rfl (Nat.le_of_ble_eq_true rfl) ?_
  intro p e s m below meth c H locs ls C hm hl
  have hx := C.1.1
  have hb := C.1.2.1
  have hl : lv_has ls 5 [(0, .ref (b + 0))] := hl
  unfold f_X10_clause at hf
  refine lv_aload_n hx hb dX10_clause_0 rfl (lv_at hl 0 rfl) ?_
  refine x_callVi (As := []) (rest := []) C hm (c_X10_sortOf l E b M Lm rfl) rfl cy_0 tc_X10_sortOf tm_RX10_236 ti_X10_sortOf ts_X10_sortOf tn_RX10 td_X10_sortOf rfl rfl ⟨Nat.le_of_ble_eq_true rfl, Nat.le_of_ble_eq_true rfl⟩ rfl hl.1 rfl (Nat.le_of_ble_eq_true rfl) ⟨Nat.zero_le _, Nat.zero_le _⟩ dX10_clause_1 (fun H locs hP1 hm => ?_)
  refine lv_topi (fun v2 ev2 => ?_)
  have hf := xlet_e ev2 hf
  refine lv_istore_n (lv' := [(1, .int v2), (0, .ref (b + 0))]) hx hb dX10_clause_4 rfl hl (by decide) rfl (fun ls hl => ?_)
  refine lv_iload_n hx hb dX10_clause_5 rfl (lv_at hl 0 rfl) ?_
  refine lv_if_ge (tgt := 11) hx hb dX10_clause_6 (by decide) (fun hc3 => ?_) (fun hc3 => ?_)
  rotate_left
  · have hf := xif_f hc3 hf
    refine lv_iconst (v := (1 : Int32)) hx hb dX10_clause_9 (by decide) ?_
    cases hf
    exact x_iret C hm trivial dX10_clause_10
  have hf := xif_t hc3 hf
  refine lv_iload_n hx hb dX10_clause_11 rfl (lv_at hl 0 rfl) ?_
  refine lv_iconst (v := (1 : Int32)) hx hb dX10_clause_12 (by decide) ?_
  obtain ⟨k4, ek4, hf⟩ := xlet_x hf
  have jk4 : ∀  (H : Heap) (locs : List Loc) (ls : Array Slot), k4 = some (r, M', L') → xM E b NY (cY E b M Lm) s.heap H locs → lv_has ls 5 [(0, .ref (b + 0)), (1, .int v2)] → W p l e (xR 11) s m ([.ref (b + 0)] : List Value).toArray below meth c H locs 0 0 (MQ below (xQ E b NY (some (.int r)) True (cY E b M' L')) ([.ref (b + 0)] : List Value).toArray s 0 0 (xA b NY)) (F0 m 29 ls []) := by
    intro  H locs ls hf hm hl
    have hf := xap0 ek4 hf
    refine lv_aload_n hx hb dX10_clause_29 rfl (lv_at hl 0 rfl) ?_
    refine x_get C hm inX10 rfl 2 (by decide) tf_RX10_16 cy_0 rfl dX10_clause_30 ?_
    refine lv_aload_n hx hb dX10_clause_33 rfl (lv_at hl 0 rfl) ?_
    refine x_get C hm inX10 rfl 12 (by decide) tf_RX10_137 cy_0 rfl dX10_clause_34 ?_
    obtain ⟨hi5, hf⟩ := xif_s hf
    refine x_iald (j := (Int32.toNatClampNeg (M 0 12))) C hm cy_3 hi5 dX10_clause_37 rfl ?_
    refine lv_topi (fun v6 ev6 => ?_)
    have hf := xlet_e ev6 hf
    refine lv_istore_n (lv' := [(2, .int v6), (0, .ref (b + 0)), (1, .int v2)]) hx hb dX10_clause_38 rfl hl (by decide) rfl (fun ls hl => ?_)
    refine lv_iload_n hx hb dX10_clause_39 rfl (lv_at hl 0 rfl) ?_
    refine lv_bipush (v := (24 : Int32)) hx hb dX10_clause_40 (by decide) ?_
    refine lv_icmp_ne (tgt := 48) hx hb dX10_clause_42 (by decide) (fun hc7 => ?_) (fun hc7 => ?_)
    rotate_left
    · have hf := xif_t hc7 hf
      refine lv_bipush (v := (6 : Int32)) hx hb dX10_clause_45 (by decide) ?_
      cases hf
      exact x_iret C hm trivial dX10_clause_47
    have hf := xif_f hc7 hf
    refine lv_iload_n hx hb dX10_clause_48 rfl (lv_at hl 2 rfl) ?_
    refine lv_iconst (v := (1 : Int32)) hx hb dX10_clause_49 (by decide) ?_
    obtain ⟨k9, ek9, hf⟩ := xlet_x hf
    have jk9 : ∀ (M8 : xm) (H : Heap) (locs : List Loc) (ls : Array Slot), k9 M8 = some (r, M', L') → xM E b NY (cY E b M8 Lm) s.heap H locs → lv_has ls 5 [(0, .ref (b + 0)), (1, .int v2), (2, .int v6)] → W p l e (xR 11) s m ([.ref (b + 0)] : List Value).toArray below meth c H locs 0 0 (MQ below (xQ E b NY (some (.int r)) True (cY E b M' L')) ([.ref (b + 0)] : List Value).toArray s 0 0 (xA b NY)) (F0 m 65 ls []) := by
      intro M8 H locs ls hf hm hl
      have hf := xap1 ek9 hf
      refine lv_aload_n hx hb dX10_clause_65 rfl (lv_at hl 0 rfl) ?_
      refine lv_iload_n hx hb dX10_clause_66 rfl (lv_at hl 1 rfl) ?_
      obtain ⟨M10, eM10, hf⟩ := xlet_x hf
      refine x_put (cf' := cY E b M10 Lm) C hm inX10 tyX10 tyX10_ok nmX10 rfl 14 (by decide) tf_RX10_147 rfl rfl rfl cy_0 (Nat.le_of_ble_eq_true rfl) (by rw [eM10]; exact cyf_14) (by rw [eM10]; exact cY_o) dX10_clause_67 (fun H locs hm => ?_)
      refine lv_aload_n hx hb dX10_clause_70 rfl (lv_at hl 0 rfl) ?_
      obtain ⟨M12, L13, hq11, hf⟩ := xb2_e hf
      refine x_callVv (As := []) (rest := []) C hm (c_X10_nextToken l E b M10 Lm hq11) rfl cy_0 tc_X10_nextToken tm_RX10_170 ti_X10_nextToken ts_X10_nextToken tn_RX10 td_X10_nextToken rfl rfl ⟨Nat.le_of_ble_eq_true rfl, Nat.le_of_ble_eq_true rfl⟩ rfl hl.1 rfl (Nat.le_of_ble_eq_true rfl) ⟨Nat.zero_le _, Nat.zero_le _⟩ dX10_clause_71 (fun H locs hP14 hm => ?_)
      refine lv_aload_n hx hb dX10_clause_74 rfl (lv_at hl 0 rfl) ?_
      refine x_get C hm inX10 rfl 12 (by decide) tf_RX10_137 cy_0 rfl dX10_clause_75 ?_
      refine lv_iconst (v := (1 : Int32)) hx hb dX10_clause_78 (by decide) ?_
      refine lv_iadd hx hb dX10_clause_79 ?_
      refine lv_iconst (v := (4 : Int32)) hx hb dX10_clause_80 (by decide) ?_
      refine lv_iload_n hx hb dX10_clause_81 rfl (lv_at hl 2 rfl) ?_
      refine lv_imul hx hb dX10_clause_82 ?_
      refine lv_iadd hx hb dX10_clause_83 ?_
      refine lv_topi (fun v15 ev15 => ?_)
      have hf := xlet_e ev15 hf
      refine lv_istore_n (lv' := [(3, .int v15), (0, .ref (b + 0)), (1, .int v2), (2, .int v6)]) hx hb dX10_clause_84 rfl hl (by decide) rfl (fun ls hl => ?_)
      refine lv_aload_n hx hb dX10_clause_85 rfl (lv_at hl 1 rfl) ?_
      refine x_get C hm inX10 rfl 2 (by decide) tf_RX10_16 cy_0 rfl dX10_clause_86 ?_
      refine lv_iload_n hx hb dX10_clause_89 rfl (lv_at hl 0 rfl) ?_
      refine lv_iload_n hx hb dX10_clause_90 rfl (lv_at hl 2 rfl) ?_
      obtain ⟨hi16, hf⟩ := xif_s hf
      obtain ⟨M17, eM17, hf⟩ := xlet_x hf
      refine x_iast (j := (Int32.toNatClampNeg v15)) (cf' := cY E b M17 L13) C hm cy_3 hi16 dX10_clause_91 rfl (by rw [eM17]; exact cyu_3) (by rw [eM17]; exact cY_o) (fun H locs hm => ?_)
      refine lv_aload_n hx hb dX10_clause_92 rfl (lv_at hl 1 rfl) ?_
      refine lv_iload_n hx hb dX10_clause_93 rfl (lv_at hl 2 rfl) ?_
      refine lv_iload_n hx hb dX10_clause_94 rfl (lv_at hl 0 rfl) ?_
      obtain ⟨v19, M20, L21, hq18, hf⟩ := xb3_e hf
      refine x_callVi (As := [.int v2, .int v15]) (rest := []) C hm (c_X10_body l E b M17 L13 v2 v15 hq18) rfl cy_0 tc_X10_body tm_RX10_246 ti_X10_body ts_X10_body tn_RX10 td_X10_body rfl rfl ⟨Nat.le_of_ble_eq_true rfl, Nat.le_of_ble_eq_true rfl⟩ rfl hl.1 rfl (Nat.le_of_ble_eq_true rfl) ⟨Nat.zero_le _, Nat.zero_le _⟩ dX10_clause_95 (fun H locs hP22 hm => ?_)
      refine lv_istore (lv' := [(4, .int v19), (3, .int v15), (0, .ref (b + 0)), (1, .int v2), (2, .int v6)]) hx hb dX10_clause_98 hl (by decide) rfl (fun ls hl => ?_)
      refine lv_iload hx hb dX10_clause_100 (lv_at hl 0 rfl) ?_
      refine lv_if_eq (tgt := 108) hx hb dX10_clause_102 (by decide) (fun hc23 => ?_) (fun hc23 => ?_)
      rotate_left
      · have hf := xif_f hc23 hf
        refine lv_iload hx hb dX10_clause_105 (lv_at hl 0 rfl) ?_
        cases hf
        exact x_iret C hm trivial dX10_clause_107
      have hf := xif_t hc23 hf
      refine lv_aload_n hx hb dX10_clause_108 rfl (lv_at hl 2 rfl) ?_
      refine x_get C hm inX10 rfl 2 (by decide) tf_RX10_16 cy_0 rfl dX10_clause_109 ?_
      refine lv_aload_n hx hb dX10_clause_112 rfl (lv_at hl 2 rfl) ?_
      refine x_get C hm inX10 rfl 12 (by decide) tf_RX10_137 cy_0 rfl dX10_clause_113 ?_
      refine lv_dup2_11 hx hb dX10_clause_116 rfl rfl ?_
      obtain ⟨hi24, hf⟩ := xif_s hf
      refine x_iald (j := (Int32.toNatClampNeg (M20 0 12))) C hm cy_3 hi24 dX10_clause_117 rfl ?_
      refine lv_iconst (v := (1 : Int32)) hx hb dX10_clause_118 (by decide) ?_
      refine lv_iadd hx hb dX10_clause_119 ?_
      obtain ⟨M25, eM25, hf⟩ := xlet_x hf
      refine x_iast (j := (Int32.toNatClampNeg (M20 0 12))) (cf' := cY E b M25 L21) C hm cy_3 hi24 dX10_clause_120 rfl (by rw [eM25]; exact cyu_3) (by rw [eM25]; exact cY_o) (fun H locs hm => ?_)
      refine lv_aload_n hx hb dX10_clause_121 rfl (lv_at hl 2 rfl) ?_
      refine x_get C hm inX10 rfl 9 (by decide) tf_RX10_99 cy_0 rfl dX10_clause_122 ?_
      refine lv_bipush (v := (59 : Int32)) hx hb dX10_clause_125 (by decide) ?_
      refine lv_icmp_eq (tgt := 132) hx hb dX10_clause_127 (by decide) (fun hc26 => ?_) (fun hc26 => ?_)
      rotate_left
      · have hf := xif_f hc26 hf
        refine lv_iconst (v := (1 : Int32)) hx hb dX10_clause_130 (by decide) ?_
        cases hf
        exact x_iret C hm trivial dX10_clause_131
      have hf := xif_t hc26 hf
      refine lv_aload_n hx hb dX10_clause_132 rfl (lv_at hl 2 rfl) ?_
      obtain ⟨M28, L29, hq27, hf⟩ := xb2_e hf
      refine x_callVv (As := []) (rest := []) C hm (c_X10_nextToken l E b M25 L21 hq27) rfl cy_0 tc_X10_nextToken tm_RX10_170 ti_X10_nextToken ts_X10_nextToken tn_RX10 td_X10_nextToken rfl rfl ⟨Nat.le_of_ble_eq_true rfl, Nat.le_of_ble_eq_true rfl⟩ rfl hl.1 rfl (Nat.le_of_ble_eq_true rfl) ⟨Nat.zero_le _, Nat.zero_le _⟩ dX10_clause_133 (fun H locs hP30 hm => ?_)
      refine lv_iconst (v := (0 : Int32)) hx hb dX10_clause_136 (by decide) ?_
      cases hf
      exact x_iret C hm trivial dX10_clause_137
    refine lv_icmp_gt (tgt := 65) hx hb dX10_clause_50 (by decide) (fun hc31 => ?_) (fun hc31 => ?_)
    · have hf := xif_t hc31 hf
      exact jk9 M H locs ls  hf hm (lv_sub hl [1, 2, 0] rfl)
    have hf := xif_f hc31 hf
    refine lv_aload_n hx hb dX10_clause_53 rfl (lv_at hl 1 rfl) ?_
    refine lv_dup hx hb dX10_clause_54 rfl ?_
    refine x_get C hm inX10 rfl 19 (by decide) tf_RX10_239 cy_0 rfl dX10_clause_55 ?_
    refine lv_iconst (v := (1 : Int32)) hx hb dX10_clause_58 (by decide) ?_
    refine lv_iload_n hx hb dX10_clause_59 rfl (lv_at hl 2 rfl) ?_
    refine lv_ishl hx hb dX10_clause_60 ?_
    refine lv_ior hx hb dX10_clause_61 ?_
    obtain ⟨M32, eM32, hf⟩ := xlet_x hf
    refine x_put (cf' := cY E b M32 Lm) C hm inX10 tyX10 tyX10_ok nmX10 rfl 19 (by decide) tf_RX10_239 rfl rfl rfl cy_0 (Nat.le_of_ble_eq_true rfl) (by rw [eM32]; exact cyf_19) (by rw [eM32]; exact cY_o) dX10_clause_62 (fun H locs hm => ?_)
    exact jk9 M32 H locs ls  hf hm (lv_sub hl [1, 2, 0] rfl)
  refine lv_icmp_gt (tgt := 29) hx hb dX10_clause_13 (by decide) (fun hc33 => ?_) (fun hc33 => ?_)
  · have hf := xif_t hc33 hf
    exact jk4  H locs ls  hf hm (lv_sub hl [1, 0] rfl)
  have hf := xif_f hc33 hf
  refine lv_aload_n hx hb dX10_clause_16 rfl (lv_at hl 1 rfl) ?_
  refine x_get C hm inX10 rfl 19 (by decide) tf_RX10_239 cy_0 rfl dX10_clause_17 ?_
  refine lv_iload_n hx hb dX10_clause_20 rfl (lv_at hl 0 rfl) ?_
  refine x_callSi (As := [.int (M 0 19), .int v2]) (rest := []) C hm (c_X10_has l E b M Lm (M 0 19) v2 rfl) tc_X10_has tm_RX10_242 tz_X10_has tn_RX10 td_X10_has rfl rfl ⟨Nat.le_of_ble_eq_true rfl, Nat.le_of_ble_eq_true rfl⟩ rfl hl.1 rfl (Nat.le_of_ble_eq_true rfl) ⟨Nat.zero_le _, Nat.zero_le _⟩ dX10_clause_21 (fun H locs hP34 hm => ?_)
  refine lv_if_eq (tgt := 29) hx hb dX10_clause_24 (by decide) (fun hc35 => ?_) (fun hc35 => ?_)
  · have hf := xif_t hc35 hf
    exact jk4  H locs ls  hf hm (lv_sub hl [1, 0] rfl)
  have hf := xif_f hc35 hf
  refine lv_iconst (v := (4 : Int32)) hx hb dX10_clause_27 (by decide) ?_
  cases hf
  exact x_iret C hm trivial dX10_clause_28
/-! ColouredHeapModel.copy(II)Z -/
theorem dX10_copy_0 : decode cX10_copy 0 = .ok (.iload_n 1, 1) := by decide +kernel
theorem dX10_copy_1 : decode cX10_copy 1 = .ok (.invokestatic 349, 3) := by decide +kernel
theorem dX10_copy_4 : decode cX10_copy 4 = .ok (.ifCond .eq 15, 3) := by decide +kernel
theorem dX10_copy_7 : decode cX10_copy 7 = .ok (.iload_n 2, 1) := by decide +kernel
theorem dX10_copy_8 : decode cX10_copy 8 = .ok (.invokestatic 349, 3) := by decide +kernel
theorem dX10_copy_11 : decode cX10_copy 11 = .ok (.ifCond .eq 8, 3) := by decide +kernel
theorem dX10_copy_14 : decode cX10_copy 14 = .ok (.iload_n 1, 1) := by decide +kernel
theorem dX10_copy_15 : decode cX10_copy 15 = .ok (.iload_n 2, 1) := by decide +kernel
theorem dX10_copy_16 : decode cX10_copy 16 = .ok (.if_icmp .ne 5, 3) := by decide +kernel
theorem dX10_copy_19 : decode cX10_copy 19 = .ok (.iconst 0, 1) := by decide +kernel
theorem dX10_copy_20 : decode cX10_copy 20 = .ok (.ireturn, 1) := by decide +kernel
theorem dX10_copy_21 : decode cX10_copy 21 = .ok (.aload_n 0, 1) := by decide +kernel
theorem dX10_copy_22 : decode cX10_copy 22 = .ok (.invokevirtual 397, 3) := by decide +kernel
theorem dX10_copy_25 : decode cX10_copy 25 = .ok (.aload_n 0, 1) := by decide +kernel
theorem dX10_copy_26 : decode cX10_copy 26 = .ok (.getfield 7, 3) := by decide +kernel
theorem dX10_copy_29 : decode cX10_copy 29 = .ok (.bipush 29, 2) := by decide +kernel
theorem dX10_copy_31 : decode cX10_copy 31 = .ok (.iload_n 1, 1) := by decide +kernel
theorem dX10_copy_32 : decode cX10_copy 32 = .ok (.iadd, 1) := by decide +kernel
theorem dX10_copy_33 : decode cX10_copy 33 = .ok (.aload_n 0, 1) := by decide +kernel
theorem dX10_copy_34 : decode cX10_copy 34 = .ok (.getfield 7, 3) := by decide +kernel
theorem dX10_copy_37 : decode cX10_copy 37 = .ok (.bipush 29, 2) := by decide +kernel
theorem dX10_copy_39 : decode cX10_copy 39 = .ok (.iload_n 2, 1) := by decide +kernel
theorem dX10_copy_40 : decode cX10_copy 40 = .ok (.iadd, 1) := by decide +kernel
theorem dX10_copy_41 : decode cX10_copy 41 = .ok (.iaload, 1) := by decide +kernel
theorem dX10_copy_42 : decode cX10_copy 42 = .ok (.iastore, 1) := by decide +kernel
theorem dX10_copy_43 : decode cX10_copy 43 = .ok (.iconst 1, 1) := by decide +kernel
theorem dX10_copy_44 : decode cX10_copy 44 = .ok (.ireturn, 1) := by decide +kernel
def f_X10_copy (M : xm) (a1 : Int32) (a2 : Int32) : Option (Int32 × xm) := (if (f_X10_isRoot a1) = 0 then some ((0 : Int32), M) else (if (f_X10_isRoot a2) = 0 then some ((0 : Int32), M) else (if a1 = a2 then some ((0 : Int32), M) else xb1 (f_X10_keep M) (fun M7 => if xin ((29 : Int32) + a2) 9878 = true then if xin ((29 : Int32) + a1) 9878 = true then xlet (up2 M7 1 (Int32.toNatClampNeg ((29 : Int32) + a1)) (M7 1 (Int32.toNatClampNeg ((29 : Int32) + a2)))) (fun M11 => some ((1 : Int32), M11)) else none else none))))
set_option maxHeartbeats 4000000 in
set_option maxRecDepth 20000 in
theorem c_X10_copy (l : Launch) (E : xE) (b : Nat) (M : xm) (Lm : xn) (a1 : Int32) (a2 : Int32) {r : Int32} {M' : xm} (hf : f_X10_copy M a1 a2 = some (r, M')) :
    xMet l E b NY yX10_copy cX10_copy 3 (some .boolean) (xR 3) [.ref (b + 0), .int a1, .int a2] (cY E b M Lm) (some (.int r)) (xbo r = true) (cY E b M' Lm) := by
  refine xMet.ofW (own := RX10) (by decide) rfl (Nat.le_of_ble_eq_true rfl) ?_
  intro p e s m below meth c H locs ls C hm hl
  have hx := C.1.1
  have hb := C.1.2.1
  have hl : lv_has ls 3 [(0, .ref (b + 0)), (1, .int a1), (2, .int a2)] := hl
  unfold f_X10_copy at hf
  refine lv_iload_n hx hb dX10_copy_0 rfl (lv_at hl 1 rfl) ?_
  refine x_callSi (As := [.int a1]) (rest := []) C hm (c_X10_isRoot l E b M Lm a1 rfl) tc_X10_isRoot tm_RX10_349 tz_X10_isRoot tn_RX10 td_X10_isRoot rfl rfl ⟨Nat.le_of_ble_eq_true rfl, Nat.le_of_ble_eq_true rfl⟩ rfl hl.1 rfl (Nat.le_of_ble_eq_true rfl) ⟨Nat.zero_le _, Nat.zero_le _⟩ dX10_copy_1 (fun H locs hP1 hm => ?_)
  refine lv_if_eq (tgt := 19) hx hb dX10_copy_4 (by decide) (fun hc2 => ?_) (fun hc2 => ?_)
  · have hf := xif_t hc2 hf
    refine lv_iconst (v := (0 : Int32)) hx hb dX10_copy_19 (by decide) ?_
    cases hf
    exact x_zret C hm (by decide) (by decide) dX10_copy_20
  have hf := xif_f hc2 hf
  refine lv_iload_n hx hb dX10_copy_7 rfl (lv_at hl 2 rfl) ?_
  refine x_callSi (As := [.int a2]) (rest := []) C hm (c_X10_isRoot l E b M Lm a2 rfl) tc_X10_isRoot tm_RX10_349 tz_X10_isRoot tn_RX10 td_X10_isRoot rfl rfl ⟨Nat.le_of_ble_eq_true rfl, Nat.le_of_ble_eq_true rfl⟩ rfl hl.1 rfl (Nat.le_of_ble_eq_true rfl) ⟨Nat.zero_le _, Nat.zero_le _⟩ dX10_copy_8 (fun H locs hP3 hm => ?_)
  refine lv_if_eq (tgt := 19) hx hb dX10_copy_11 (by decide) (fun hc4 => ?_) (fun hc4 => ?_)
  · have hf := xif_t hc4 hf
    refine lv_iconst (v := (0 : Int32)) hx hb dX10_copy_19 (by decide) ?_
    cases hf
    exact x_zret C hm (by decide) (by decide) dX10_copy_20
  have hf := xif_f hc4 hf
  refine lv_iload_n hx hb dX10_copy_14 rfl (lv_at hl 1 rfl) ?_
  refine lv_iload_n hx hb dX10_copy_15 rfl (lv_at hl 2 rfl) ?_
  refine lv_icmp_ne (tgt := 21) hx hb dX10_copy_16 (by decide) (fun hc5 => ?_) (fun hc5 => ?_)
  rotate_left
  · have hf := xif_t hc5 hf
    refine lv_iconst (v := (0 : Int32)) hx hb dX10_copy_19 (by decide) ?_
    cases hf
    exact x_zret C hm (by decide) (by decide) dX10_copy_20
  have hf := xif_f hc5 hf
  refine lv_aload_n hx hb dX10_copy_21 rfl (lv_at hl 0 rfl) ?_
  obtain ⟨M7, hq6, hf⟩ := xb1_e hf
  refine x_callVv (As := []) (rest := []) C hm (c_X10_keep l E b M Lm hq6) rfl cy_0 tc_X10_keep tm_RX10_397 ti_X10_keep ts_X10_keep tn_RX10 td_X10_keep rfl rfl ⟨Nat.le_of_ble_eq_true rfl, Nat.le_of_ble_eq_true rfl⟩ rfl hl.1 rfl (Nat.le_of_ble_eq_true rfl) ⟨Nat.zero_le _, Nat.zero_le _⟩ dX10_copy_22 (fun H locs hP8 hm => ?_)
  refine lv_aload_n hx hb dX10_copy_25 rfl (lv_at hl 0 rfl) ?_
  refine x_get C hm inX10 rfl 0 (by decide) tf_RX10_7 cy_0 rfl dX10_copy_26 ?_
  refine lv_bipush (v := (29 : Int32)) hx hb dX10_copy_29 (by decide) ?_
  refine lv_iload_n hx hb dX10_copy_31 rfl (lv_at hl 1 rfl) ?_
  refine lv_iadd hx hb dX10_copy_32 ?_
  refine lv_aload_n hx hb dX10_copy_33 rfl (lv_at hl 0 rfl) ?_
  refine x_get C hm inX10 rfl 0 (by decide) tf_RX10_7 cy_0 rfl dX10_copy_34 ?_
  refine lv_bipush (v := (29 : Int32)) hx hb dX10_copy_37 (by decide) ?_
  refine lv_iload_n hx hb dX10_copy_39 rfl (lv_at hl 2 rfl) ?_
  refine lv_iadd hx hb dX10_copy_40 ?_
  obtain ⟨hi9, hf⟩ := xif_s hf
  refine x_iald (j := (Int32.toNatClampNeg ((29 : Int32) + a2))) C hm cy_1 hi9 dX10_copy_41 rfl ?_
  obtain ⟨hi10, hf⟩ := xif_s hf
  obtain ⟨M11, eM11, hf⟩ := xlet_x hf
  refine x_iast (j := (Int32.toNatClampNeg ((29 : Int32) + a1))) (cf' := cY E b M11 Lm) C hm cy_1 hi10 dX10_copy_42 rfl (by rw [eM11]; exact cyu_1) (by rw [eM11]; exact cY_o) (fun H locs hm => ?_)
  refine lv_iconst (v := (1 : Int32)) hx hb dX10_copy_43 (by decide) ?_
  cases hf
  exact x_zret C hm (by decide) (by decide) dX10_copy_44
/-! ColouredHeapModel.current(I)I -/
theorem dX10_current_0 : decode cX10_current 0 = .ok (.iload_n 1, 1) := by decide +kernel
theorem dX10_current_1 : decode cX10_current 1 = .ok (.iconst 0, 1) := by decide +kernel
theorem dX10_current_2 : decode cX10_current 2 = .ok (.sipush 191, 3) := by decide +kernel
theorem dX10_current_5 : decode cX10_current 5 = .ok (.invokestatic 59, 3) := by decide +kernel
theorem dX10_current_8 : decode cX10_current 8 = .ok (.ifCond .eq 11, 3) := by decide +kernel
theorem dX10_current_11 : decode cX10_current 11 = .ok (.aload_n 0, 1) := by decide +kernel
theorem dX10_current_12 : decode cX10_current 12 = .ok (.iload_n 1, 1) := by decide +kernel
theorem dX10_current_13 : decode cX10_current 13 = .ok (.invokevirtual 331, 3) := by decide +kernel
theorem dX10_current_16 : decode cX10_current 16 = .ok (.goto 4, 3) := by decide +kernel
theorem dX10_current_19 : decode cX10_current 19 = .ok (.iconst (-1), 1) := by decide +kernel
theorem dX10_current_20 : decode cX10_current 20 = .ok (.ireturn, 1) := by decide +kernel
def f_X10_current (M : xm) (a1 : Int32) : Option (Int32) := (if (f_X10_isIn a1 (0 : Int32) (191 : Int32)) = 0 then some (-1 : Int32) else xb1 (f_X10_whereOf M a1) (fun v4 => some v4))
set_option maxHeartbeats 4000000 in
set_option maxRecDepth 20000 in
theorem c_X10_current (l : Launch) (E : xE) (b : Nat) (M : xm) (Lm : xn) (a1 : Int32) {r : Int32} (hf : f_X10_current M a1 = some r) :
    xMet l E b NY yX10_current cX10_current 2 (some .int) (xR 3) [.ref (b + 0), .int a1] (cY E b M Lm) (some (.int r)) True (cY E b M Lm) := by
  refine xMet.ofW (own := RX10) (by decide) rfl (Nat.le_of_ble_eq_true rfl) ?_
  intro p e s m below meth c H locs ls C hm hl
  have hx := C.1.1
  have hb := C.1.2.1
  have hl : lv_has ls 2 [(0, .ref (b + 0)), (1, .int a1)] := hl
  unfold f_X10_current at hf
  refine lv_iload_n hx hb dX10_current_0 rfl (lv_at hl 1 rfl) ?_
  refine lv_iconst (v := (0 : Int32)) hx hb dX10_current_1 (by decide) ?_
  refine lv_sipush (v := (191 : Int32)) hx hb dX10_current_2 (by decide) ?_
  refine x_callSi (As := [.int a1, .int (0 : Int32), .int (191 : Int32)]) (rest := []) C hm (c_X10_isIn l E b M Lm a1 (0 : Int32) (191 : Int32) rfl) tc_X10_isIn tm_RX10_59 tz_X10_isIn tn_RX10 td_X10_isIn rfl rfl ⟨Nat.le_of_ble_eq_true rfl, Nat.le_of_ble_eq_true rfl⟩ rfl hl.1 rfl (Nat.le_of_ble_eq_true rfl) ⟨Nat.zero_le _, Nat.zero_le _⟩ dX10_current_5 (fun H locs hP1 hm => ?_)
  refine lv_if_eq (tgt := 19) hx hb dX10_current_8 (by decide) (fun hc2 => ?_) (fun hc2 => ?_)
  · have hf := xif_t hc2 hf
    refine lv_iconst (v := (-1 : Int32)) hx hb dX10_current_19 (by decide) ?_
    cases hf
    exact x_iret C hm trivial dX10_current_20
  have hf := xif_f hc2 hf
  refine lv_aload_n hx hb dX10_current_11 rfl (lv_at hl 0 rfl) ?_
  refine lv_iload_n hx hb dX10_current_12 rfl (lv_at hl 1 rfl) ?_
  obtain ⟨v4, hq3, hf⟩ := xb1_e hf
  refine x_callVi (As := [.int a1]) (rest := []) C hm (c_X10_whereOf l E b M Lm a1 hq3) rfl cy_0 tc_X10_whereOf tm_RX10_331 ti_X10_whereOf ts_X10_whereOf tn_RX10 td_X10_whereOf rfl rfl ⟨Nat.le_of_ble_eq_true rfl, Nat.le_of_ble_eq_true rfl⟩ rfl hl.1 rfl (Nat.le_of_ble_eq_true rfl) ⟨Nat.zero_le _, Nat.zero_le _⟩ dX10_current_13 (fun H locs hP5 hm => ?_)
  refine lv_goto (tgt := 20) hx hb dX10_current_16 (by decide) ?_
  cases hf
  exact x_iret C hm trivial dX10_current_20
/-! ColouredHeapModel.day(I)I -/
theorem dX10_day_0 : decode cX10_day 0 = .ok (.iload_n 1, 1) := by decide +kernel
theorem dX10_day_1 : decode cX10_day 1 = .ok (.iconst 1, 1) := by decide +kernel
theorem dX10_day_2 : decode cX10_day 2 = .ok (.bipush 60, 2) := by decide +kernel
theorem dX10_day_4 : decode cX10_day 4 = .ok (.invokestatic 59, 3) := by decide +kernel
theorem dX10_day_7 : decode cX10_day 7 = .ok (.ifCond .eq 35, 3) := by decide +kernel
theorem dX10_day_10 : decode cX10_day 10 = .ok (.aload_n 0, 1) := by decide +kernel
theorem dX10_day_11 : decode cX10_day 11 = .ok (.getfield 7, 3) := by decide +kernel
theorem dX10_day_14 : decode cX10_day 14 = .ok (.iconst 4, 1) := by decide +kernel
theorem dX10_day_15 : decode cX10_day 15 = .ok (.iaload, 1) := by decide +kernel
theorem dX10_day_16 : decode cX10_day 16 = .ok (.iload_n 1, 1) := by decide +kernel
theorem dX10_day_17 : decode cX10_day 17 = .ok (.iadd, 1) := by decide +kernel
theorem dX10_day_18 : decode cX10_day 18 = .ok (.sipush 9999, 3) := by decide +kernel
theorem dX10_day_21 : decode cX10_day 21 = .ok (.if_icmp .gt 21, 3) := by decide +kernel
theorem dX10_day_24 : decode cX10_day 24 = .ok (.aload_n 0, 1) := by decide +kernel
theorem dX10_day_25 : decode cX10_day 25 = .ok (.iload_n 1, 1) := by decide +kernel
theorem dX10_day_26 : decode cX10_day 26 = .ok (.invokevirtual 421, 3) := by decide +kernel
theorem dX10_day_29 : decode cX10_day 29 = .ok (.ifCond .eq 13, 3) := by decide +kernel
theorem dX10_day_32 : decode cX10_day 32 = .ok (.aload_n 0, 1) := by decide +kernel
theorem dX10_day_33 : decode cX10_day 33 = .ok (.getfield 7, 3) := by decide +kernel
theorem dX10_day_36 : decode cX10_day 36 = .ok (.bipush 6, 2) := by decide +kernel
theorem dX10_day_38 : decode cX10_day 38 = .ok (.iaload, 1) := by decide +kernel
theorem dX10_day_39 : decode cX10_day 39 = .ok (.goto 4, 3) := by decide +kernel
theorem dX10_day_42 : decode cX10_day 42 = .ok (.iconst (-1), 1) := by decide +kernel
theorem dX10_day_43 : decode cX10_day 43 = .ok (.ireturn, 1) := by decide +kernel
def f_X10_day (M : xm) (Lm : xn) (a1 : Int32) : Option (Int32 × xm × xn) := (if (f_X10_isIn a1 (1 : Int32) (60 : Int32)) = 0 then some ((-1 : Int32), M, Lm) else (if (9999 : Int32) < ((M 1 4) + a1) then some ((-1 : Int32), M, Lm) else xb3 (f_X10_arePassed M Lm a1) (fun v5 M6 L7 => (if v5 = 0 then some ((-1 : Int32), M6, L7) else some ((M6 1 6), M6, L7)))))
set_option maxHeartbeats 4000000 in
set_option maxRecDepth 20000 in
theorem c_X10_day (l : Launch) (E : xE) (b : Nat) (M : xm) (Lm : xn) (a1 : Int32) {r : Int32} {M' : xm} {L' : xn} (hf : f_X10_day M Lm a1 = some (r, M', L')) :
    xMet l E b NY yX10_day cX10_day 2 (some .int) (xR 11) [.ref (b + 0), .int a1] (cY E b M Lm) (some (.int r)) True (cY E b M' L') := by
  refine xMet.ofW (own := RX10) (by decide) rfl (Nat.le_of_ble_eq_true rfl) ?_
  intro p e s m below meth c H locs ls C hm hl
  have hx := C.1.1
  have hb := C.1.2.1
  have hl : lv_has ls 2 [(0, .ref (b + 0)), (1, .int a1)] := hl
  unfold f_X10_day at hf
  refine lv_iload_n hx hb dX10_day_0 rfl (lv_at hl 1 rfl) ?_
  refine lv_iconst (v := (1 : Int32)) hx hb dX10_day_1 (by decide) ?_
  refine lv_bipush (v := (60 : Int32)) hx hb dX10_day_2 (by decide) ?_
  refine x_callSi (As := [.int a1, .int (1 : Int32), .int (60 : Int32)]) (rest := []) C hm (c_X10_isIn l E b M Lm a1 (1 : Int32) (60 : Int32) rfl) tc_X10_isIn tm_RX10_59 tz_X10_isIn tn_RX10 td_X10_isIn rfl rfl ⟨Nat.le_of_ble_eq_true rfl, Nat.le_of_ble_eq_true rfl⟩ rfl hl.1 rfl (Nat.le_of_ble_eq_true rfl) ⟨Nat.zero_le _, Nat.zero_le _⟩ dX10_day_4 (fun H locs hP1 hm => ?_)
  refine lv_if_eq (tgt := 42) hx hb dX10_day_7 (by decide) (fun hc2 => ?_) (fun hc2 => ?_)
  · have hf := xif_t hc2 hf
    refine lv_iconst (v := (-1 : Int32)) hx hb dX10_day_42 (by decide) ?_
    cases hf
    exact x_iret C hm trivial dX10_day_43
  have hf := xif_f hc2 hf
  refine lv_aload_n hx hb dX10_day_10 rfl (lv_at hl 0 rfl) ?_
  refine x_get C hm inX10 rfl 0 (by decide) tf_RX10_7 cy_0 rfl dX10_day_11 ?_
  refine lv_iconst (v := (4 : Int32)) hx hb dX10_day_14 (by decide) ?_
  refine x_iald (j := 4) C hm cy_1 (by decide) dX10_day_15 (by decide) ?_
  refine lv_iload_n hx hb dX10_day_16 rfl (lv_at hl 1 rfl) ?_
  refine lv_iadd hx hb dX10_day_17 ?_
  refine lv_sipush (v := (9999 : Int32)) hx hb dX10_day_18 (by decide) ?_
  refine lv_icmp_gt (tgt := 42) hx hb dX10_day_21 (by decide) (fun hc3 => ?_) (fun hc3 => ?_)
  · have hf := xif_t hc3 hf
    refine lv_iconst (v := (-1 : Int32)) hx hb dX10_day_42 (by decide) ?_
    cases hf
    exact x_iret C hm trivial dX10_day_43
  have hf := xif_f hc3 hf
  refine lv_aload_n hx hb dX10_day_24 rfl (lv_at hl 0 rfl) ?_
  refine lv_iload_n hx hb dX10_day_25 rfl (lv_at hl 1 rfl) ?_
  obtain ⟨v5, M6, L7, hq4, hf⟩ := xb3_e hf
  refine x_callVi (As := [.int a1]) (rest := []) C hm (c_X10_arePassed l E b M Lm a1 hq4) rfl cy_0 tc_X10_arePassed tm_RX10_421 ti_X10_arePassed ts_X10_arePassed tn_RX10 td_X10_arePassed rfl rfl ⟨Nat.le_of_ble_eq_true rfl, Nat.le_of_ble_eq_true rfl⟩ rfl hl.1 rfl (Nat.le_of_ble_eq_true rfl) ⟨Nat.zero_le _, Nat.zero_le _⟩ dX10_day_26 (fun H locs hP8 hm => ?_)
  refine lv_if_eq (tgt := 42) hx hb dX10_day_29 (by decide) (fun hc9 => ?_) (fun hc9 => ?_)
  · have hf := xif_t hc9 hf
    refine lv_iconst (v := (-1 : Int32)) hx hb dX10_day_42 (by decide) ?_
    cases hf
    exact x_iret C hm trivial dX10_day_43
  have hf := xif_f hc9 hf
  refine lv_aload_n hx hb dX10_day_32 rfl (lv_at hl 0 rfl) ?_
  refine x_get C hm inX10 rfl 0 (by decide) tf_RX10_7 cy_0 rfl dX10_day_33 ?_
  refine lv_bipush (v := (6 : Int32)) hx hb dX10_day_36 (by decide) ?_
  refine x_iald (j := 6) C hm cy_1 (by decide) dX10_day_38 (by decide) ?_
  refine lv_goto (tgt := 43) hx hb dX10_day_39 (by decide) ?_
  cases hf
  exact x_iret C hm trivial dX10_day_43
