/-! ColouredHeap$Law.named(ILColouredHeap$Heap;I)I -/
theorem dX3_named_0 : decode cX3_named 0 = .ok (.iload_n 2, 1) := by decide +kernel
theorem dX3_named_1 : decode cX3_named 1 = .ok (.ifCond .lt 13, 3) := by decide +kernel
theorem dX3_named_4 : decode cX3_named 4 = .ok (.iload_n 2, 1) := by decide +kernel
theorem dX3_named_5 : decode cX3_named 5 = .ok (.bipush 8, 2) := by decide +kernel
theorem dX3_named_7 : decode cX3_named 7 = .ok (.if_icmp .ge 7, 3) := by decide +kernel
theorem dX3_named_10 : decode cX3_named 10 = .ok (.iconst 1, 1) := by decide +kernel
theorem dX3_named_11 : decode cX3_named 11 = .ok (.goto 4, 3) := by decide +kernel
theorem dX3_named_14 : decode cX3_named 14 = .ok (.iconst 0, 1) := by decide +kernel
theorem dX3_named_15 : decode cX3_named 15 = .ok (.istore_n 3, 1) := by decide +kernel
theorem dX3_named_16 : decode cX3_named 16 = .ok (.iload_n 0, 1) := by decide +kernel
theorem dX3_named_17 : decode cX3_named 17 = .ok (.tableswitch 88 19 25 #[43, 48, 88, 53, 88, 58, 73], 43) := by decide +kernel
theorem dX3_named_60 : decode cX3_named 60 = .ok (.aload_n 1, 1) := by decide +kernel
theorem dX3_named_61 : decode cX3_named 61 = .ok (.getfield 94, 3) := by decide +kernel
theorem dX3_named_64 : decode cX3_named 64 = .ok (.ireturn, 1) := by decide +kernel
theorem dX3_named_65 : decode cX3_named 65 = .ok (.aload_n 1, 1) := by decide +kernel
theorem dX3_named_66 : decode cX3_named 66 = .ok (.getfield 97, 3) := by decide +kernel
theorem dX3_named_69 : decode cX3_named 69 = .ok (.ireturn, 1) := by decide +kernel
theorem dX3_named_70 : decode cX3_named 70 = .ok (.aload_n 1, 1) := by decide +kernel
theorem dX3_named_71 : decode cX3_named 71 = .ok (.getfield 100, 3) := by decide +kernel
theorem dX3_named_74 : decode cX3_named 74 = .ok (.ireturn, 1) := by decide +kernel
theorem dX3_named_75 : decode cX3_named 75 = .ok (.iload_n 3, 1) := by decide +kernel
theorem dX3_named_76 : decode cX3_named 76 = .ok (.ifCond .eq 12, 3) := by decide +kernel
theorem dX3_named_79 : decode cX3_named 79 = .ok (.aload_n 1, 1) := by decide +kernel
theorem dX3_named_80 : decode cX3_named 80 = .ok (.getfield 30, 3) := by decide +kernel
theorem dX3_named_83 : decode cX3_named 83 = .ok (.iload_n 2, 1) := by decide +kernel
theorem dX3_named_84 : decode cX3_named 84 = .ok (.iaload, 1) := by decide +kernel
theorem dX3_named_85 : decode cX3_named 85 = .ok (.goto 4, 3) := by decide +kernel
theorem dX3_named_88 : decode cX3_named 88 = .ok (.iconst 0, 1) := by decide +kernel
theorem dX3_named_89 : decode cX3_named 89 = .ok (.ireturn, 1) := by decide +kernel
theorem dX3_named_90 : decode cX3_named 90 = .ok (.iload_n 3, 1) := by decide +kernel
theorem dX3_named_91 : decode cX3_named 91 = .ok (.ifCond .eq 12, 3) := by decide +kernel
theorem dX3_named_94 : decode cX3_named 94 = .ok (.aload_n 1, 1) := by decide +kernel
theorem dX3_named_95 : decode cX3_named 95 = .ok (.getfield 35, 3) := by decide +kernel
theorem dX3_named_98 : decode cX3_named 98 = .ok (.iload_n 2, 1) := by decide +kernel
theorem dX3_named_99 : decode cX3_named 99 = .ok (.iaload, 1) := by decide +kernel
theorem dX3_named_100 : decode cX3_named 100 = .ok (.goto 4, 3) := by decide +kernel
theorem dX3_named_103 : decode cX3_named 103 = .ok (.iconst 0, 1) := by decide +kernel
theorem dX3_named_104 : decode cX3_named 104 = .ok (.ireturn, 1) := by decide +kernel
theorem dX3_named_105 : decode cX3_named 105 = .ok (.iload_n 2, 1) := by decide +kernel
theorem dX3_named_106 : decode cX3_named 106 = .ok (.ireturn, 1) := by decide +kernel
def f_X3_named (u1 : Nat) (M : xm) (a0 : Int32) (a2 : Int32) : Option (Int32) := xlet (fun (w1 : Int32) => (if a0 = (19 : Int32) then some (M u1 17) else (if a0 = (20 : Int32) then some (M u1 14) else (if a0 = (21 : Int32) then some a2 else (if a0 = (22 : Int32) then some (M u1 13) else (if a0 = (23 : Int32) then some a2 else (if a0 = (24 : Int32) then (if w1 = 0 then some (0 : Int32) else if xin a2 8 = true then some (M (u1 + 5) (Int32.toNatClampNeg a2)) else none) else (if a0 = (25 : Int32) then (if w1 = 0 then some (0 : Int32) else if xin a2 8 = true then some (M (u1 + 6) (Int32.toNatClampNeg a2)) else none) else some a2)))))))) (fun k2 => xlet ((k2 (0 : Int32))) (fun k14 => (if a2 < 0 then k14 else (if (8 : Int32) ≤ a2 then k14 else (k2 (1 : Int32))))))
set_option maxHeartbeats 4000000 in
set_option maxRecDepth 20000 in
theorem c_X3_named (l : Launch) (E : xE) (b : Nat) {u1 : Nat} (L_u1 : lat u1 pHeap) (M : xm) (a0 : Int32) (a2 : Int32) {r : Int32} (hf : f_X3_named u1 M a0 a2 = some r) :
    xMet l E b NX yX3_named cX3_named 4 (some .int) (xR 1) [.int a0, .ref (b + u1), .int a2] (cX E b M) (some (.int r)) True (cX E b M) := by
  refine xMet.ofW (own := RX3) (by decide) rfl (Nat.le_of_ble_eq_true rfl) ?_
  intro p e s m below meth c H locs ls C hm hl
  have hx := C.1.1
  have hb := C.1.2.1
  have hl : lv_has ls 4 [(0, .int a0), (1, .ref (b + u1)), (2, .int a2)] := hl
  unfold f_X3_named at hf
  refine lv_iload_n hx hb dX3_named_0 rfl (lv_at hl 2 rfl) ?_
  obtain ⟨k2, ek2, hf⟩ := xlet_x hf
  have jk2 : ∀ (w1 : Int32) (H : Heap) (locs : List Loc) (ls : Array Slot), k2 w1 = some r → xM E b NX (cX E b M) s.heap H locs → lv_has ls 4 [(0, .int a0), (1, .ref (b + u1)), (2, .int a2)] → W p l e (xR 1) s m ([.int a0, .ref (b + u1), .int a2] : List Value).toArray below meth c H locs 0 0 (MQ below (xQ E b NX (some (.int r)) True (cX E b M)) ([.int a0, .ref (b + u1), .int a2] : List Value).toArray s 0 0 (xA b NX)) (F0 m 15 ls [.int w1]) := by
    intro w1 H locs ls hf hm hl
    have hf := xap1 ek2 hf
    refine lv_istore_n (lv' := [(3, .int w1), (0, .int a0), (1, .ref (b + u1)), (2, .int a2)]) hx hb dX3_named_15 rfl hl (by decide) rfl (fun ls hl => ?_)
    refine lv_iload_n hx hb dX3_named_16 rfl (lv_at hl 1 rfl) ?_
    by_cases hs3 : a0 = (19 : Int32)
    · have hf := xif_t hs3 hf
      refine x_tabIn (tgt := 60) hx hb (19 : Int32) hs3 dX3_named_17 (by decide) (by decide) rfl (by decide) ?_
      refine lv_aload_n hx hb dX3_named_60 rfl (lv_at hl 2 rfl) ?_
      refine x_get C hm inX1 rfl 17 (by decide) tf_RX3_94 (cx_Heap (L_u1 0 _ rfl)) rfl dX3_named_61 ?_
      cases hf
      exact x_iret C hm trivial dX3_named_64
    have hf := xif_f hs3 hf
    by_cases hs4 : a0 = (20 : Int32)
    · have hf := xif_t hs4 hf
      refine x_tabIn (tgt := 65) hx hb (20 : Int32) hs4 dX3_named_17 (by decide) (by decide) rfl (by decide) ?_
      refine lv_aload_n hx hb dX3_named_65 rfl (lv_at hl 2 rfl) ?_
      refine x_get C hm inX1 rfl 14 (by decide) tf_RX3_97 (cx_Heap (L_u1 0 _ rfl)) rfl dX3_named_66 ?_
      cases hf
      exact x_iret C hm trivial dX3_named_69
    have hf := xif_f hs4 hf
    by_cases hs5 : a0 = (21 : Int32)
    · have hf := xif_t hs5 hf
      refine x_tabIn (tgt := 105) hx hb (21 : Int32) hs5 dX3_named_17 (by decide) (by decide) rfl (by decide) ?_
      refine lv_iload_n hx hb dX3_named_105 rfl (lv_at hl 3 rfl) ?_
      cases hf
      exact x_iret C hm trivial dX3_named_106
    have hf := xif_f hs5 hf
    by_cases hs6 : a0 = (22 : Int32)
    · have hf := xif_t hs6 hf
      refine x_tabIn (tgt := 70) hx hb (22 : Int32) hs6 dX3_named_17 (by decide) (by decide) rfl (by decide) ?_
      refine lv_aload_n hx hb dX3_named_70 rfl (lv_at hl 2 rfl) ?_
      refine x_get C hm inX1 rfl 13 (by decide) tf_RX3_100 (cx_Heap (L_u1 0 _ rfl)) rfl dX3_named_71 ?_
      cases hf
      exact x_iret C hm trivial dX3_named_74
    have hf := xif_f hs6 hf
    by_cases hs7 : a0 = (23 : Int32)
    · have hf := xif_t hs7 hf
      refine x_tabIn (tgt := 105) hx hb (23 : Int32) hs7 dX3_named_17 (by decide) (by decide) rfl (by decide) ?_
      refine lv_iload_n hx hb dX3_named_105 rfl (lv_at hl 3 rfl) ?_
      cases hf
      exact x_iret C hm trivial dX3_named_106
    have hf := xif_f hs7 hf
    by_cases hs8 : a0 = (24 : Int32)
    · have hf := xif_t hs8 hf
      refine x_tabIn (tgt := 75) hx hb (24 : Int32) hs8 dX3_named_17 (by decide) (by decide) rfl (by decide) ?_
      refine lv_iload_n hx hb dX3_named_75 rfl (lv_at hl 0 rfl) ?_
      refine lv_if_eq (tgt := 88) hx hb dX3_named_76 (by decide) (fun hc9 => ?_) (fun hc9 => ?_)
      · have hf := xif_t hc9 hf
        refine lv_iconst (v := (0 : Int32)) hx hb dX3_named_88 (by decide) ?_
        cases hf
        exact x_iret C hm trivial dX3_named_89
      have hf := xif_f hc9 hf
      refine lv_aload_n hx hb dX3_named_79 rfl (lv_at hl 2 rfl) ?_
      refine x_get C hm inX1 rfl 4 (by decide) tf_RX3_30 (cx_Heap (L_u1 0 _ rfl)) rfl dX3_named_80 ?_
      refine lv_iload_n hx hb dX3_named_83 rfl (lv_at hl 3 rfl) ?_
      obtain ⟨hi10, hf⟩ := xif_s hf
      refine x_iald (j := (Int32.toNatClampNeg a2)) C hm (cx_I (L_u1 5 _ rfl)) hi10 dX3_named_84 rfl ?_
      refine lv_goto (tgt := 89) hx hb dX3_named_85 (by decide) ?_
      cases hf
      exact x_iret C hm trivial dX3_named_89
    have hf := xif_f hs8 hf
    by_cases hs11 : a0 = (25 : Int32)
    · have hf := xif_t hs11 hf
      refine x_tabIn (tgt := 90) hx hb (25 : Int32) hs11 dX3_named_17 (by decide) (by decide) rfl (by decide) ?_
      refine lv_iload_n hx hb dX3_named_90 rfl (lv_at hl 0 rfl) ?_
      refine lv_if_eq (tgt := 103) hx hb dX3_named_91 (by decide) (fun hc12 => ?_) (fun hc12 => ?_)
      · have hf := xif_t hc12 hf
        refine lv_iconst (v := (0 : Int32)) hx hb dX3_named_103 (by decide) ?_
        cases hf
        exact x_iret C hm trivial dX3_named_104
      have hf := xif_f hc12 hf
      refine lv_aload_n hx hb dX3_named_94 rfl (lv_at hl 2 rfl) ?_
      refine x_get C hm inX1 rfl 5 (by decide) tf_RX3_35 (cx_Heap (L_u1 0 _ rfl)) rfl dX3_named_95 ?_
      refine lv_iload_n hx hb dX3_named_98 rfl (lv_at hl 3 rfl) ?_
      obtain ⟨hi13, hf⟩ := xif_s hf
      refine x_iald (j := (Int32.toNatClampNeg a2)) C hm (cx_I (L_u1 6 _ rfl)) hi13 dX3_named_99 rfl ?_
      refine lv_goto (tgt := 104) hx hb dX3_named_100 (by decide) ?_
      cases hf
      exact x_iret C hm trivial dX3_named_104
    have hf := xif_f hs11 hf
    refine x_tabOut (tgt := 105) hx hb dX3_named_17 (by decide) (fun i hi => ?_) (by decide) ?_
    · match i, hi with
      | 0, _ => exact hs3
      | 1, _ => exact hs4
      | 2, _ => exact hs5
      | 3, _ => exact hs6
      | 4, _ => exact hs7
      | 5, _ => exact hs8
      | 6, _ => exact hs11
      | (i + 7), hi => exact absurd hi (by omega)
    refine lv_iload_n hx hb dX3_named_105 rfl (lv_at hl 3 rfl) ?_
    cases hf
    exact x_iret C hm trivial dX3_named_106
  obtain ⟨k14, ek14, hf⟩ := xlet_x hf
  have jk14 : ∀  (H : Heap) (locs : List Loc) (ls : Array Slot), k14 = some r → xM E b NX (cX E b M) s.heap H locs → lv_has ls 4 [(0, .int a0), (1, .ref (b + u1)), (2, .int a2)] → W p l e (xR 1) s m ([.int a0, .ref (b + u1), .int a2] : List Value).toArray below meth c H locs 0 0 (MQ below (xQ E b NX (some (.int r)) True (cX E b M)) ([.int a0, .ref (b + u1), .int a2] : List Value).toArray s 0 0 (xA b NX)) (F0 m 14 ls []) := by
    intro  H locs ls hf hm hl
    have hf := xap0 ek14 hf
    refine lv_iconst (v := (0 : Int32)) hx hb dX3_named_14 (by decide) ?_
    exact jk2 (0 : Int32) H locs ls  hf hm (lv_sub hl [0, 1, 2] rfl)
  refine lv_if_lt (tgt := 14) hx hb dX3_named_1 (by decide) (fun hc15 => ?_) (fun hc15 => ?_)
  · have hf := xif_t hc15 hf
    exact jk14  H locs ls  hf hm (lv_sub hl [0, 1, 2] rfl)
  have hf := xif_f hc15 hf
  refine lv_iload_n hx hb dX3_named_4 rfl (lv_at hl 2 rfl) ?_
  refine lv_bipush (v := (8 : Int32)) hx hb dX3_named_5 (by decide) ?_
  refine lv_icmp_ge (tgt := 14) hx hb dX3_named_7 (by decide) (fun hc16 => ?_) (fun hc16 => ?_)
  · have hf := xif_t hc16 hf
    exact jk14  H locs ls  hf hm (lv_sub hl [0, 1, 2] rfl)
  have hf := xif_f hc16 hf
  refine lv_iconst (v := (1 : Int32)) hx hb dX3_named_10 (by decide) ?_
  refine lv_goto (tgt := 15) hx hb dX3_named_11 (by decide) ?_
  exact jk2 (1 : Int32) H locs ls  hf hm (lv_sub hl [0, 1, 2] rfl)
/-! ColouredHeap$Law.pop()I -/
theorem dX3_pop_0 : decode cX3_pop 0 = .ok (.aload_n 0, 1) := by decide +kernel
theorem dX3_pop_1 : decode cX3_pop 1 = .ok (.getfield 15, 3) := by decide +kernel
theorem dX3_pop_4 : decode cX3_pop 4 = .ok (.iconst 1, 1) := by decide +kernel
theorem dX3_pop_5 : decode cX3_pop 5 = .ok (.if_icmp .ge 5, 3) := by decide +kernel
theorem dX3_pop_8 : decode cX3_pop 8 = .ok (.iconst 0, 1) := by decide +kernel
theorem dX3_pop_9 : decode cX3_pop 9 = .ok (.ireturn, 1) := by decide +kernel
theorem dX3_pop_10 : decode cX3_pop 10 = .ok (.aload_n 0, 1) := by decide +kernel
theorem dX3_pop_11 : decode cX3_pop 11 = .ok (.dup, 1) := by decide +kernel
theorem dX3_pop_12 : decode cX3_pop 12 = .ok (.getfield 15, 3) := by decide +kernel
theorem dX3_pop_15 : decode cX3_pop 15 = .ok (.iconst 1, 1) := by decide +kernel
theorem dX3_pop_16 : decode cX3_pop 16 = .ok (.isub, 1) := by decide +kernel
theorem dX3_pop_17 : decode cX3_pop 17 = .ok (.putfield 15, 3) := by decide +kernel
theorem dX3_pop_20 : decode cX3_pop 20 = .ok (.aload_n 0, 1) := by decide +kernel
theorem dX3_pop_21 : decode cX3_pop 21 = .ok (.getfield 9, 3) := by decide +kernel
theorem dX3_pop_24 : decode cX3_pop 24 = .ok (.aload_n 0, 1) := by decide +kernel
theorem dX3_pop_25 : decode cX3_pop 25 = .ok (.getfield 15, 3) := by decide +kernel
theorem dX3_pop_28 : decode cX3_pop 28 = .ok (.iaload, 1) := by decide +kernel
theorem dX3_pop_29 : decode cX3_pop 29 = .ok (.ireturn, 1) := by decide +kernel
def f_X3_pop (M : xm) : Option (Int32 × xm) := (if (1 : Int32) ≤ (M 1004 1) then xlet (up2 M 1004 1 ((M 1004 1) - (1 : Int32))) (fun M2 => if xin (M2 1004 1) 300 = true then some ((M2 (1004 + 1) (Int32.toNatClampNeg (M2 1004 1))), M2) else none) else some ((0 : Int32), M))
set_option maxHeartbeats 4000000 in
set_option maxRecDepth 20000 in
theorem c_X3_pop (l : Launch) (E : xE) (b : Nat) (M : xm) {r : Int32} {M' : xm} (hf : f_X3_pop M = some (r, M')) :
    xMet l E b NX yX3_pop cX3_pop 1 (some .int) (xR 1) [.ref (b + 1004)] (cX E b M) (some (.int r)) True (cX E b M') := by
  refine xMet.ofW (own := RX3) (by decide) rfl (Nat.le_of_ble_eq_true rfl) ?_
  intro p e s m below meth c H locs ls C hm hl
  have hx := C.1.1
  have hb := C.1.2.1
  have hl : lv_has ls 1 [(0, .ref (b + 1004))] := hl
  unfold f_X3_pop at hf
  refine lv_aload_n hx hb dX3_pop_0 rfl (lv_at hl 0 rfl) ?_
  refine x_get C hm inX3 rfl 1 (by decide) tf_RX3_15 (cx_Law (LX_law 0 _ rfl)) rfl dX3_pop_1 ?_
  refine lv_iconst (v := (1 : Int32)) hx hb dX3_pop_4 (by decide) ?_
  refine lv_icmp_ge (tgt := 10) hx hb dX3_pop_5 (by decide) (fun hc1 => ?_) (fun hc1 => ?_)
  rotate_left
  · have hf := xif_f hc1 hf
    refine lv_iconst (v := (0 : Int32)) hx hb dX3_pop_8 (by decide) ?_
    cases hf
    exact x_iret C hm trivial dX3_pop_9
  have hf := xif_t hc1 hf
  refine lv_aload_n hx hb dX3_pop_10 rfl (lv_at hl 0 rfl) ?_
  refine lv_dup hx hb dX3_pop_11 rfl ?_
  refine x_get C hm inX3 rfl 1 (by decide) tf_RX3_15 (cx_Law (LX_law 0 _ rfl)) rfl dX3_pop_12 ?_
  refine lv_iconst (v := (1 : Int32)) hx hb dX3_pop_15 (by decide) ?_
  refine lv_isub hx hb dX3_pop_16 ?_
  obtain ⟨M2, eM2, hf⟩ := xlet_x hf
  refine x_put (cf' := cX E b M2) C hm inX3 tyX3 tyX3_ok nmX3 rfl 1 (by decide) tf_RX3_15 rfl rfl rfl (cx_Law (LX_law 0 _ rfl)) (Nat.le_of_ble_eq_true rfl) (by rw [eM2]; exact cu_Law_1 (LX_law 0 _ rfl)) (by rw [eM2]; exact cX_o) dX3_pop_17 (fun H locs hm => ?_)
  refine lv_aload_n hx hb dX3_pop_20 rfl (lv_at hl 0 rfl) ?_
  refine x_get C hm inX3 rfl 0 (by decide) tf_RX3_9 (cx_Law (LX_law 0 _ rfl)) rfl dX3_pop_21 ?_
  refine lv_aload_n hx hb dX3_pop_24 rfl (lv_at hl 0 rfl) ?_
  refine x_get C hm inX3 rfl 1 (by decide) tf_RX3_15 (cx_Law (LX_law 0 _ rfl)) rfl dX3_pop_25 ?_
  obtain ⟨hi3, hf⟩ := xif_s hf
  refine x_iald (j := (Int32.toNatClampNeg (M2 1004 1))) C hm (cx_I (LX_law 1 _ rfl)) hi3 dX3_pop_28 rfl ?_
  cases hf
  exact x_iret C hm trivial dX3_pop_29
/-! ColouredHeap$Law.push(J)V -/
theorem dX3_push_0 : decode cX3_push 0 = .ok (.aload_n 0, 1) := by decide +kernel
theorem dX3_push_1 : decode cX3_push 1 = .ok (.getfield 15, 3) := by decide +kernel
theorem dX3_push_4 : decode cX3_push 4 = .ok (.sipush 300, 3) := by decide +kernel
theorem dX3_push_7 : decode cX3_push 7 = .ok (.if_icmp .ge 36, 3) := by decide +kernel
theorem dX3_push_10 : decode cX3_push 10 = .ok (.aload_n 0, 1) := by decide +kernel
theorem dX3_push_11 : decode cX3_push 11 = .ok (.getfield 9, 3) := by decide +kernel
theorem dX3_push_14 : decode cX3_push 14 = .ok (.aload_n 0, 1) := by decide +kernel
theorem dX3_push_15 : decode cX3_push 15 = .ok (.getfield 15, 3) := by decide +kernel
theorem dX3_push_18 : decode cX3_push 18 = .ok (.ldc2_w 103, 3) := by decide +kernel
theorem dX3_push_21 : decode cX3_push 21 = .ok (.ldc2_w 105, 3) := by decide +kernel
theorem dX3_push_24 : decode cX3_push 24 = .ok (.lload_n 1, 1) := by decide +kernel
theorem dX3_push_25 : decode cX3_push 25 = .ok (.invokestatic 107, 3) := by decide +kernel
theorem dX3_push_28 : decode cX3_push 28 = .ok (.invokestatic 110, 3) := by decide +kernel
theorem dX3_push_31 : decode cX3_push 31 = .ok (.l2i, 1) := by decide +kernel
theorem dX3_push_32 : decode cX3_push 32 = .ok (.iastore, 1) := by decide +kernel
theorem dX3_push_33 : decode cX3_push 33 = .ok (.aload_n 0, 1) := by decide +kernel
theorem dX3_push_34 : decode cX3_push 34 = .ok (.dup, 1) := by decide +kernel
theorem dX3_push_35 : decode cX3_push 35 = .ok (.getfield 15, 3) := by decide +kernel
theorem dX3_push_38 : decode cX3_push 38 = .ok (.iconst 1, 1) := by decide +kernel
theorem dX3_push_39 : decode cX3_push 39 = .ok (.iadd, 1) := by decide +kernel
theorem dX3_push_40 : decode cX3_push 40 = .ok (.putfield 15, 3) := by decide +kernel
theorem dX3_push_43 : decode cX3_push 43 = .ok (.return_, 1) := by decide +kernel
def f_X3_push (M : xm) (a1 : Int64) : Option (xm) := (if (300 : Int32) ≤ (M 1004 1) then some M else if xin (M 1004 1) 300 = true then xlet (up2 M (1004 + 1) (Int32.toNatClampNeg (M 1004 1)) ((xmaxL (-1000000 : Int64) (xminL (1000000 : Int64) a1)).toInt32)) (fun M3 => xlet (up2 M3 1004 1 ((M3 1004 1) + (1 : Int32))) (fun M4 => some M4)) else none)
set_option maxHeartbeats 4000000 in
set_option maxRecDepth 20000 in
theorem c_X3_push (l : Launch) (E : xE) (b : Nat) (M : xm) (a1 : Int64) {M' : xm} (hf : f_X3_push M a1 = some M') :
    xMet l E b NX yX3_push cX3_push 3 none (xR 2) [.ref (b + 1004), .long a1] (cX E b M) none True (cX E b M') := by
  refine xMet.ofW (own := RX3) (by decide) rfl (Nat.le_of_ble_eq_true rfl) ?_
  intro p e s m below meth c H locs ls C hm hl
  have hx := C.1.1
  have hb := C.1.2.1
  have hl : lv_has ls 3 [(0, .ref (b + 1004)), (1, .long a1)] := hl
  unfold f_X3_push at hf
  refine lv_aload_n hx hb dX3_push_0 rfl (lv_at hl 0 rfl) ?_
  refine x_get C hm inX3 rfl 1 (by decide) tf_RX3_15 (cx_Law (LX_law 0 _ rfl)) rfl dX3_push_1 ?_
  refine lv_sipush (v := (300 : Int32)) hx hb dX3_push_4 (by decide) ?_
  refine lv_icmp_ge (tgt := 43) hx hb dX3_push_7 (by decide) (fun hc1 => ?_) (fun hc1 => ?_)
  · have hf := xif_t hc1 hf
    cases hf
    exact x_vret C hm trivial dX3_push_43
  have hf := xif_f hc1 hf
  refine lv_aload_n hx hb dX3_push_10 rfl (lv_at hl 0 rfl) ?_
  refine x_get C hm inX3 rfl 0 (by decide) tf_RX3_9 (cx_Law (LX_law 0 _ rfl)) rfl dX3_push_11 ?_
  refine lv_aload_n hx hb dX3_push_14 rfl (lv_at hl 0 rfl) ?_
  refine x_get C hm inX3 rfl 1 (by decide) tf_RX3_15 (cx_Law (LX_law 0 _ rfl)) rfl dX3_push_15 ?_
  refine lv_ldc2 (v := (-1000000 : Int64)) hx hb C.1.2.2.2.1 (C.1.2.2.2.2 _ tk_RX3_103) dX3_push_18 ?_
  refine lv_ldc2 (v := (1000000 : Int64)) hx hb C.1.2.2.2.1 (C.1.2.2.2.2 _ tk_RX3_105) dX3_push_21 ?_
  refine lv_lload_n hx hb dX3_push_24 rfl (lv_at hl 1 rfl) ?_
  refine va_mmin_long hx hb (C.1.2.2.1.trans hl.1.symm) C.1.2.2.2.1 (C.1.2.2.2.2 _ tm_RX3_107) (C.1.2.2.2.2 _ tz_Math_minJ) (C.1.2.2.2.2 _ tn_Math) (C.1.2.2.2.2 _ tc_Math_minJ) (Nat.le_of_ble_eq_true rfl) (Nat.le_of_ble_eq_true rfl) (Nat.zero_le _) (Nat.zero_le _) dX3_push_25 ?_
  refine va_mmax_long hx hb (C.1.2.2.1.trans hl.1.symm) C.1.2.2.2.1 (C.1.2.2.2.2 _ tm_RX3_110) (C.1.2.2.2.2 _ tz_Math_maxJ) (C.1.2.2.2.2 _ tn_Math) (C.1.2.2.2.2 _ tc_Math_maxJ) (Nat.le_of_ble_eq_true rfl) (Nat.le_of_ble_eq_true rfl) (Nat.zero_le _) (Nat.zero_le _) dX3_push_28 ?_
  refine lv_l2i hx hb dX3_push_31 rfl ?_
  obtain ⟨hi2, hf⟩ := xif_s hf
  obtain ⟨M3, eM3, hf⟩ := xlet_x hf
  refine x_iast (j := (Int32.toNatClampNeg (M 1004 1))) (cf' := cX E b M3) C hm (cx_I (LX_law 1 _ rfl)) hi2 dX3_push_32 rfl (by rw [eM3]; exact cu_I (LX_law 1 _ rfl)) (by rw [eM3]; exact cX_o) (fun H locs hm => ?_)
  refine lv_aload_n hx hb dX3_push_33 rfl (lv_at hl 0 rfl) ?_
  refine lv_dup hx hb dX3_push_34 rfl ?_
  refine x_get C hm inX3 rfl 1 (by decide) tf_RX3_15 (cx_Law (LX_law 0 _ rfl)) rfl dX3_push_35 ?_
  refine lv_iconst (v := (1 : Int32)) hx hb dX3_push_38 (by decide) ?_
  refine lv_iadd hx hb dX3_push_39 ?_
  obtain ⟨M4, eM4, hf⟩ := xlet_x hf
  refine x_put (cf' := cX E b M4) C hm inX3 tyX3 tyX3_ok nmX3 rfl 1 (by decide) tf_RX3_15 rfl rfl rfl (cx_Law (LX_law 0 _ rfl)) (Nat.le_of_ble_eq_true rfl) (by rw [eM4]; exact cu_Law_1 (LX_law 0 _ rfl)) (by rw [eM4]; exact cX_o) dX3_push_40 (fun H locs hm => ?_)
  cases hf
  exact x_vret C hm trivial dX3_push_43
/-! ColouredHeap$Law.value(LColouredHeap$Text;ILColouredHeap$Heap;I)I -/
theorem dX3_value_0 : decode cX3_value 0 = .ok (.aload_n 0, 1) := by decide +kernel
theorem dX3_value_1 : decode cX3_value 1 = .ok (.iconst 0, 1) := by decide +kernel
theorem dX3_value_2 : decode cX3_value 2 = .ok (.putfield 15, 3) := by decide +kernel
theorem dX3_value_5 : decode cX3_value 5 = .ok (.aload_n 1, 1) := by decide +kernel
theorem dX3_value_6 : decode cX3_value 6 = .ok (.getfield 51, 3) := by decide +kernel
theorem dX3_value_9 : decode cX3_value 9 = .ok (.iload_n 2, 1) := by decide +kernel
theorem dX3_value_10 : decode cX3_value 10 = .ok (.iaload, 1) := by decide +kernel
theorem dX3_value_11 : decode cX3_value 11 = .ok (.istore 5, 2) := by decide +kernel
theorem dX3_value_13 : decode cX3_value 13 = .ok (.aload_n 1, 1) := by decide +kernel
theorem dX3_value_14 : decode cX3_value 14 = .ok (.getfield 54, 3) := by decide +kernel
theorem dX3_value_17 : decode cX3_value 17 = .ok (.iload_n 2, 1) := by decide +kernel
theorem dX3_value_18 : decode cX3_value 18 = .ok (.iaload, 1) := by decide +kernel
theorem dX3_value_19 : decode cX3_value 19 = .ok (.sipush 300, 3) := by decide +kernel
theorem dX3_value_22 : decode cX3_value 22 = .ok (.invokestatic 42, 3) := by decide +kernel
theorem dX3_value_25 : decode cX3_value 25 = .ok (.istore 6, 2) := by decide +kernel
theorem dX3_value_27 : decode cX3_value 27 = .ok (.iconst 0, 1) := by decide +kernel
theorem dX3_value_28 : decode cX3_value 28 = .ok (.istore 7, 2) := by decide +kernel
theorem dX3_value_30 : decode cX3_value 30 = .ok (.iload 7, 2) := by decide +kernel
theorem dX3_value_32 : decode cX3_value 32 = .ok (.sipush 300, 3) := by decide +kernel
theorem dX3_value_35 : decode cX3_value 35 = .ok (.if_icmp .ge 198, 3) := by decide +kernel
theorem dX3_value_38 : decode cX3_value 38 = .ok (.iload 5, 2) := by decide +kernel
theorem dX3_value_40 : decode cX3_value 40 = .ok (.ifCond .lt 193, 3) := by decide +kernel
theorem dX3_value_43 : decode cX3_value 43 = .ok (.iload 5, 2) := by decide +kernel
theorem dX3_value_45 : decode cX3_value 45 = .ok (.iload 6, 2) := by decide +kernel
theorem dX3_value_47 : decode cX3_value 47 = .ok (.if_icmp .ge 186, 3) := by decide +kernel
theorem dX3_value_50 : decode cX3_value 50 = .ok (.aload_n 1, 1) := by decide +kernel
theorem dX3_value_51 : decode cX3_value 51 = .ok (.getfield 57, 3) := by decide +kernel
theorem dX3_value_54 : decode cX3_value 54 = .ok (.iload 5, 2) := by decide +kernel
theorem dX3_value_56 : decode cX3_value 56 = .ok (.iaload, 1) := by decide +kernel
theorem dX3_value_57 : decode cX3_value 57 = .ok (.istore 8, 2) := by decide +kernel
theorem dX3_value_59 : decode cX3_value 59 = .ok (.aload_n 1, 1) := by decide +kernel
theorem dX3_value_60 : decode cX3_value 60 = .ok (.getfield 60, 3) := by decide +kernel
theorem dX3_value_63 : decode cX3_value 63 = .ok (.iload 5, 2) := by decide +kernel
theorem dX3_value_65 : decode cX3_value 65 = .ok (.iaload, 1) := by decide +kernel
theorem dX3_value_66 : decode cX3_value 66 = .ok (.istore 9, 2) := by decide +kernel
theorem dX3_value_68 : decode cX3_value 68 = .ok (.iinc 5 1, 3) := by decide +kernel
theorem dX3_value_71 : decode cX3_value 71 = .ok (.iload 8, 2) := by decide +kernel
theorem dX3_value_73 : decode cX3_value 73 = .ok (.bipush 44, 2) := by decide +kernel
theorem dX3_value_75 : decode cX3_value 75 = .ok (.if_icmp .ne 10, 3) := by decide +kernel
theorem dX3_value_78 : decode cX3_value 78 = .ok (.iload 9, 2) := by decide +kernel
theorem dX3_value_80 : decode cX3_value 80 = .ok (.istore 5, 2) := by decide +kernel
theorem dX3_value_82 : decode cX3_value 82 = .ok (.goto 145, 3) := by decide +kernel
theorem dX3_value_85 : decode cX3_value 85 = .ok (.iload 8, 2) := by decide +kernel
theorem dX3_value_87 : decode cX3_value 87 = .ok (.bipush 45, 2) := by decide +kernel
theorem dX3_value_89 : decode cX3_value 89 = .ok (.if_icmp .ne 22, 3) := by decide +kernel
theorem dX3_value_92 : decode cX3_value 92 = .ok (.aload_n 0, 1) := by decide +kernel
theorem dX3_value_93 : decode cX3_value 93 = .ok (.invokevirtual 63, 3) := by decide +kernel
theorem dX3_value_96 : decode cX3_value 96 = .ok (.ifCond .ne 8, 3) := by decide +kernel
theorem dX3_value_99 : decode cX3_value 99 = .ok (.iload 9, 2) := by decide +kernel
theorem dX3_value_101 : decode cX3_value 101 = .ok (.goto 5, 3) := by decide +kernel
theorem dX3_value_104 : decode cX3_value 104 = .ok (.iload 5, 2) := by decide +kernel
theorem dX3_value_106 : decode cX3_value 106 = .ok (.istore 5, 2) := by decide +kernel
theorem dX3_value_108 : decode cX3_value 108 = .ok (.goto 119, 3) := by decide +kernel
theorem dX3_value_111 : decode cX3_value 111 = .ok (.iload 8, 2) := by decide +kernel
theorem dX3_value_113 : decode cX3_value 113 = .ok (.bipush 40, 2) := by decide +kernel
theorem dX3_value_115 : decode cX3_value 115 = .ok (.if_icmp .ne 13, 3) := by decide +kernel
theorem dX3_value_118 : decode cX3_value 118 = .ok (.aload_n 0, 1) := by decide +kernel
theorem dX3_value_119 : decode cX3_value 119 = .ok (.iload 9, 2) := by decide +kernel
theorem dX3_value_121 : decode cX3_value 121 = .ok (.i2l, 1) := by decide +kernel
theorem dX3_value_122 : decode cX3_value 122 = .ok (.invokevirtual 67, 3) := by decide +kernel
theorem dX3_value_125 : decode cX3_value 125 = .ok (.goto 102, 3) := by decide +kernel
theorem dX3_value_128 : decode cX3_value 128 = .ok (.iload 8, 2) := by decide +kernel
theorem dX3_value_130 : decode cX3_value 130 = .ok (.bipush 21, 2) := by decide +kernel
theorem dX3_value_132 : decode cX3_value 132 = .ok (.if_icmp .ne 18, 3) := by decide +kernel
theorem dX3_value_135 : decode cX3_value 135 = .ok (.aload_n 0, 1) := by decide +kernel
theorem dX3_value_136 : decode cX3_value 136 = .ok (.aload_n 3, 1) := by decide +kernel
theorem dX3_value_137 : decode cX3_value 137 = .ok (.invokevirtual 71, 3) := by decide +kernel
theorem dX3_value_140 : decode cX3_value 140 = .ok (.invokestatic 74, 3) := by decide +kernel
theorem dX3_value_143 : decode cX3_value 143 = .ok (.i2l, 1) := by decide +kernel
theorem dX3_value_144 : decode cX3_value 144 = .ok (.invokevirtual 67, 3) := by decide +kernel
theorem dX3_value_147 : decode cX3_value 147 = .ok (.goto 80, 3) := by decide +kernel
theorem dX3_value_150 : decode cX3_value 150 = .ok (.iload 8, 2) := by decide +kernel
theorem dX3_value_152 : decode cX3_value 152 = .ok (.bipush 19, 2) := by decide +kernel
theorem dX3_value_154 : decode cX3_value 154 = .ok (.if_icmp .lt 26, 3) := by decide +kernel
theorem dX3_value_157 : decode cX3_value 157 = .ok (.iload 8, 2) := by decide +kernel
theorem dX3_value_159 : decode cX3_value 159 = .ok (.bipush 26, 2) := by decide +kernel
theorem dX3_value_161 : decode cX3_value 161 = .ok (.if_icmp .gt 19, 3) := by decide +kernel
theorem dX3_value_164 : decode cX3_value 164 = .ok (.aload_n 0, 1) := by decide +kernel
theorem dX3_value_165 : decode cX3_value 165 = .ok (.iload 8, 2) := by decide +kernel
theorem dX3_value_167 : decode cX3_value 167 = .ok (.aload_n 3, 1) := by decide +kernel
theorem dX3_value_168 : decode cX3_value 168 = .ok (.iload 4, 2) := by decide +kernel
theorem dX3_value_170 : decode cX3_value 170 = .ok (.invokestatic 80, 3) := by decide +kernel
theorem dX3_value_173 : decode cX3_value 173 = .ok (.i2l, 1) := by decide +kernel
theorem dX3_value_174 : decode cX3_value 174 = .ok (.invokevirtual 67, 3) := by decide +kernel
theorem dX3_value_177 : decode cX3_value 177 = .ok (.goto 50, 3) := by decide +kernel
theorem dX3_value_180 : decode cX3_value 180 = .ok (.iload 8, 2) := by decide +kernel
theorem dX3_value_182 : decode cX3_value 182 = .ok (.invokestatic 84, 3) := by decide +kernel
theorem dX3_value_185 : decode cX3_value 185 = .ok (.ifCond .eq 21, 3) := by decide +kernel
theorem dX3_value_188 : decode cX3_value 188 = .ok (.aload_n 0, 1) := by decide +kernel
theorem dX3_value_189 : decode cX3_value 189 = .ok (.iload 8, 2) := by decide +kernel
theorem dX3_value_191 : decode cX3_value 191 = .ok (.aload_n 3, 1) := by decide +kernel
theorem dX3_value_192 : decode cX3_value 192 = .ok (.aload_n 0, 1) := by decide +kernel
theorem dX3_value_193 : decode cX3_value 193 = .ok (.invokevirtual 63, 3) := by decide +kernel
theorem dX3_value_196 : decode cX3_value 196 = .ok (.invokestatic 87, 3) := by decide +kernel
theorem dX3_value_199 : decode cX3_value 199 = .ok (.i2l, 1) := by decide +kernel
theorem dX3_value_200 : decode cX3_value 200 = .ok (.invokevirtual 67, 3) := by decide +kernel
theorem dX3_value_203 : decode cX3_value 203 = .ok (.goto 24, 3) := by decide +kernel
theorem dX3_value_206 : decode cX3_value 206 = .ok (.aload_n 0, 1) := by decide +kernel
theorem dX3_value_207 : decode cX3_value 207 = .ok (.invokevirtual 63, 3) := by decide +kernel
theorem dX3_value_210 : decode cX3_value 210 = .ok (.istore 10, 2) := by decide +kernel
theorem dX3_value_212 : decode cX3_value 212 = .ok (.aload_n 0, 1) := by decide +kernel
theorem dX3_value_213 : decode cX3_value 213 = .ok (.iload 8, 2) := by decide +kernel
theorem dX3_value_215 : decode cX3_value 215 = .ok (.aload_n 0, 1) := by decide +kernel
theorem dX3_value_216 : decode cX3_value 216 = .ok (.invokevirtual 63, 3) := by decide +kernel
theorem dX3_value_219 : decode cX3_value 219 = .ok (.iload 10, 2) := by decide +kernel
theorem dX3_value_221 : decode cX3_value 221 = .ok (.invokestatic 90, 3) := by decide +kernel
theorem dX3_value_224 : decode cX3_value 224 = .ok (.invokevirtual 67, 3) := by decide +kernel
theorem dX3_value_227 : decode cX3_value 227 = .ok (.iinc 7 1, 3) := by decide +kernel
theorem dX3_value_230 : decode cX3_value 230 = .ok (.goto (-200), 3) := by decide +kernel
theorem dX3_value_233 : decode cX3_value 233 = .ok (.aload_n 0, 1) := by decide +kernel
theorem dX3_value_234 : decode cX3_value 234 = .ok (.invokevirtual 63, 3) := by decide +kernel
theorem dX3_value_237 : decode cX3_value 237 = .ok (.ireturn, 1) := by decide +kernel
def g_X3_value_30 (o5 : Nat) (o6 : Nat) (x7 : Int32) (x9 : Int32) : Nat → xm → Int32 → Int32 → Option ((xm))
  | 0, _, _, _ => none
  | n + 1, M11, x8, x10 => (if (300 : Int32) ≤ x10 then some (M11) else (if x8 < 0 then some (M11) else (if x9 ≤ x8 then some (M11) else if xin x8 300 = true then xlet (M11 (o5 + 5) (Int32.toNatClampNeg x8)) (fun v17 => xlet (M11 (o5 + 6) (Int32.toNatClampNeg x8)) (fun v18 => xlet (x8 + (1 : Int32)) (fun v19 => (if v17 = (44 : Int32) then xlet (x10 + (1 : Int32)) (fun v81 => g_X3_value_30 o5 o6 x7 x9 n M11 v18 v81) else (if v17 = (45 : Int32) then xb2 (f_X3_pop M11) (fun v75 M76 => (if v75 = 0 then xlet (x10 + (1 : Int32)) (fun v80 => g_X3_value_30 o5 o6 x7 x9 n M76 v18 v80) else xlet (x10 + (1 : Int32)) (fun v79 => g_X3_value_30 o5 o6 x7 x9 n M76 v19 v79))) else (if v17 = (40 : Int32) then xb1 (f_X3_push M11 (v18.toInt64)) (fun M71 => xlet (x10 + (1 : Int32)) (fun v73 => g_X3_value_30 o5 o6 x7 x9 n M71 v19 v73)) else (if v17 = (21 : Int32) then xb1 (f_X1_freePages o6 M11) (fun v63 => xb1 (f_X3_push M11 ((f_J6_bitCount_0f7a4 v63).toInt64)) (fun M67 => xlet (x10 + (1 : Int32)) (fun v69 => g_X3_value_30 o5 o6 x7 x9 n M67 v19 v69))) else xlet ((if (f_X3_isOfOne v17) = 0 then xb2 (f_X3_pop M11) (fun v28 M29 => xb2 (f_X3_pop M29) (fun v32 M33 => xb1 (f_X3_joined v17 v32 v28) (fun v36 => xb1 (f_X3_push M33 v36) (fun M39 => xlet (x10 + (1 : Int32)) (fun v41 => g_X3_value_30 o5 o6 x7 x9 n M39 v19 v41))))) else xb2 (f_X3_pop M11) (fun v43 M44 => xb1 (f_X3_changed o6 M44 v17 v43) (fun v47 => xb1 (f_X3_push M44 (v47.toInt64)) (fun M50 => xlet (x10 + (1 : Int32)) (fun v52 => g_X3_value_30 o5 o6 x7 x9 n M50 v19 v52)))))) (fun k24 => (if v17 < (19 : Int32) then k24 else (if (26 : Int32) < v17 then k24 else xb1 (f_X3_named o6 M11 v17 x7) (fun v56 => xb1 (f_X3_push M11 (v56.toInt64)) (fun M59 => xlet (x10 + (1 : Int32)) (fun v61 => g_X3_value_30 o5 o6 x7 x9 n M59 v19 v61))))))))))))) else none)))
def f_X3_value (u1 : Nat) (u3 : Nat) (M : xm) (a2 : Int32) (a4 : Int32) : Option (Int32 × xm) := xlet (up2 M 1004 1 (0 : Int32)) (fun M1 => if xin a2 2 = true then xlet (M1 (u1 + 7) (Int32.toNatClampNeg a2)) (fun v3 => xlet (xmin (M1 (u1 + 8) (Int32.toNatClampNeg a2)) (300 : Int32)) (fun v4 => xb1 (g_X3_value_30 u1 u3 a4 v4 xfuel M1 v3 (0 : Int32)) (fun M82 => xb2 (f_X3_pop M82) (fun v84 M85 => some (v84, M85))))) else none)
set_option maxHeartbeats 4000000 in
set_option maxRecDepth 20000 in
theorem j_X3_value_30 {p : Program} {l : Launch} {e : Env} {s : State} {m : MethodId} {args : Array Value} {below : List Frame} {meth : Method} {c : Code} {Q : State → Prop} {E : xE} {b : Nat} (C : xC p s m args meth c cX3_value 11 RX3 (some .int) E b) {o5 : Nat} (L_o5 : lat o5 pText) {o6 : Nat} (L_o6 : lat o6 pHeap) (x7 : Int32) (x9 : Int32) {y12 : xm}
    (kx0 : ∀ (H : Heap) (locs : List Loc) (ls : Array Slot), xM E b NX (cX E b y12) s.heap H locs → lv_has ls 11 [(0, .ref (b + 1004))] → W p l e (xR 3) s m args below meth c H locs 0 0 Q (F0 m 233 ls [])) :
    ∀ (n : Nat) (M11 : xm) (x8 : Int32) (x10 : Int32) (H : Heap) (locs : List Loc) (ls : Array Slot), g_X3_value_30 o5 o6 x7 x9 n M11 x8 x10 = some y12 → xM E b NX (cX E b M11) s.heap H locs → lv_has ls 11 [(0, .ref (b + 1004)), (1, .ref (b + o5)), (3, .ref (b + o6)), (4, .int x7), (5, .int x8), (6, .int x9), (7, .int x10)] → W p l e (xR 3) s m args below meth c H locs 0 0 Q (F0 m 30 ls []) := by
  have hx := C.1.1
  have hb := C.1.2.1
  intro n
  induction n with
  | zero =>
    intro M11 x8 x10 H locs ls hf hm hl
    rw [g_X3_value_30] at hf
    cases hf
  | succ n ih =>
    intro M11 x8 x10 H locs ls hf hm hl
    rw [g_X3_value_30] at hf
    refine lv_iload hx hb dX3_value_30 (lv_at hl 6 rfl) ?_
    refine lv_sipush (v := (300 : Int32)) hx hb dX3_value_32 (by decide) ?_
    refine lv_icmp_ge (tgt := 233) hx hb dX3_value_35 (by decide) (fun hc13 => ?_) (fun hc13 => ?_)
    · have hf := xif_t hc13 hf
      cases hf
      exact kx0 H locs ls hm (lv_sub hl [0] rfl)
    have hf := xif_f hc13 hf
    refine lv_iload hx hb dX3_value_38 (lv_at hl 4 rfl) ?_
    refine lv_if_lt (tgt := 233) hx hb dX3_value_40 (by decide) (fun hc14 => ?_) (fun hc14 => ?_)
    · have hf := xif_t hc14 hf
      cases hf
      exact kx0 H locs ls hm (lv_sub hl [0] rfl)
    have hf := xif_f hc14 hf
    refine lv_iload hx hb dX3_value_43 (lv_at hl 4 rfl) ?_
    refine lv_iload hx hb dX3_value_45 (lv_at hl 5 rfl) ?_
    refine lv_icmp_ge (tgt := 233) hx hb dX3_value_47 (by decide) (fun hc15 => ?_) (fun hc15 => ?_)
    · have hf := xif_t hc15 hf
      cases hf
      exact kx0 H locs ls hm (lv_sub hl [0] rfl)
    have hf := xif_f hc15 hf
    refine lv_aload_n hx hb dX3_value_50 rfl (lv_at hl 1 rfl) ?_
    refine x_get C hm inX7 rfl 4 (by decide) tf_RX3_57 (cx_Text (L_o5 0 _ rfl)) rfl dX3_value_51 ?_
    refine lv_iload hx hb dX3_value_54 (lv_at hl 4 rfl) ?_
    obtain ⟨hi16, hf⟩ := xif_s hf
    refine x_iald (j := (Int32.toNatClampNeg x8)) C hm (cx_I (L_o5 5 _ rfl)) hi16 dX3_value_56 rfl ?_
    refine lv_topi (fun v17 ev17 => ?_)
    have hf := xlet_e ev17 hf
    refine lv_istore (lv' := [(8, .int v17), (0, .ref (b + 1004)), (1, .ref (b + o5)), (3, .ref (b + o6)), (4, .int x7), (5, .int x8), (6, .int x9), (7, .int x10)]) hx hb dX3_value_57 hl (by decide) rfl (fun ls hl => ?_)
    refine lv_aload_n hx hb dX3_value_59 rfl (lv_at hl 2 rfl) ?_
    refine x_get C hm inX7 rfl 5 (by decide) tf_RX3_60 (cx_Text (L_o5 0 _ rfl)) rfl dX3_value_60 ?_
    refine lv_iload hx hb dX3_value_63 (lv_at hl 5 rfl) ?_
    refine x_iald (j := (Int32.toNatClampNeg x8)) C hm (cx_I (L_o5 6 _ rfl)) hi16 dX3_value_65 rfl ?_
    refine lv_topi (fun v18 ev18 => ?_)
    have hf := xlet_e ev18 hf
    refine lv_istore (lv' := [(9, .int v18), (8, .int v17), (0, .ref (b + 1004)), (1, .ref (b + o5)), (3, .ref (b + o6)), (4, .int x7), (5, .int x8), (6, .int x9), (7, .int x10)]) hx hb dX3_value_66 hl (by decide) rfl (fun ls hl => ?_)
    obtain ⟨v19, ev19, hf⟩ := xlet_x hf
    refine lv_iinc (v := v19) (lv' := [(5, .int v19), (9, .int v18), (8, .int v17), (0, .ref (b + 1004)), (1, .ref (b + o5)), (3, .ref (b + o6)), (4, .int x7), (6, .int x9), (7, .int x10)]) hx hb dX3_value_68 hl (k := 6) rfl (by rw [ev19]; rfl) (by decide) rfl (fun ls hl => ?_)
    refine lv_iload hx hb dX3_value_71 (lv_at hl 2 rfl) ?_
    refine lv_bipush (v := (44 : Int32)) hx hb dX3_value_73 (by decide) ?_
    refine lv_icmp_ne (tgt := 85) hx hb dX3_value_75 (by decide) (fun hc20 => ?_) (fun hc20 => ?_)
    rotate_left
    · have hf := xif_t hc20 hf
      refine lv_iload hx hb dX3_value_78 (lv_at hl 1 rfl) ?_
      refine lv_istore (lv' := [(5, .int v18), (9, .int v18), (8, .int v17), (0, .ref (b + 1004)), (1, .ref (b + o5)), (3, .ref (b + o6)), (4, .int x7), (6, .int x9), (7, .int x10)]) hx hb dX3_value_80 hl (by decide) rfl (fun ls hl => ?_)
      refine lv_goto (tgt := 227) hx hb dX3_value_82 (by decide) ?_
      obtain ⟨v81, ev81, hf⟩ := xlet_x hf
      refine lv_iinc (v := v81) (lv' := [(7, .int v81), (5, .int v18), (9, .int v18), (8, .int v17), (0, .ref (b + 1004)), (1, .ref (b + o5)), (3, .ref (b + o6)), (4, .int x7), (6, .int x9)]) hx hb dX3_value_227 hl (k := 8) rfl (by rw [ev81]; rfl) (by decide) rfl (fun ls hl => ?_)
      refine lv_goto (tgt := 30) hx hb dX3_value_230 (by decide) ?_
      exact ih M11 v18 v81 H locs ls hf hm (lv_sub hl [4, 5, 6, 7, 1, 8, 0] rfl)
    have hf := xif_f hc20 hf
    refine lv_iload hx hb dX3_value_85 (lv_at hl 2 rfl) ?_
    refine lv_bipush (v := (45 : Int32)) hx hb dX3_value_87 (by decide) ?_
    refine lv_icmp_ne (tgt := 111) hx hb dX3_value_89 (by decide) (fun hc21 => ?_) (fun hc21 => ?_)
    rotate_left
    · have hf := xif_t hc21 hf
      refine lv_aload_n hx hb dX3_value_92 rfl (lv_at hl 3 rfl) ?_
      obtain ⟨v75, M76, hq74, hf⟩ := xb2_e hf
      refine x_callVi (As := []) (rest := []) C hm (c_X3_pop l E b M11 hq74) rfl (cx_Law (LX_law 0 _ rfl)) tc_X3_pop tm_RX3_63 ti_X3_pop ts_X3_pop tn_RX3 td_X3_pop rfl rfl ⟨Nat.le_of_ble_eq_true rfl, Nat.le_of_ble_eq_true rfl⟩ rfl hl.1 rfl (Nat.le_of_ble_eq_true rfl) ⟨Nat.zero_le _, Nat.zero_le _⟩ dX3_value_93 (fun H locs hP77 hm => ?_)
      refine lv_if_ne (tgt := 104) hx hb dX3_value_96 (by decide) (fun hc78 => ?_) (fun hc78 => ?_)
      · have hf := xif_f hc78 hf
        refine lv_iload hx hb dX3_value_104 (lv_at hl 0 rfl) ?_
        refine lv_istore (lv' := [(5, .int v19), (9, .int v18), (8, .int v17), (0, .ref (b + 1004)), (1, .ref (b + o5)), (3, .ref (b + o6)), (4, .int x7), (6, .int x9), (7, .int x10)]) hx hb dX3_value_106 hl (by decide) rfl (fun ls hl => ?_)
        refine lv_goto (tgt := 227) hx hb dX3_value_108 (by decide) ?_
        obtain ⟨v79, ev79, hf⟩ := xlet_x hf
        refine lv_iinc (v := v79) (lv' := [(7, .int v79), (5, .int v19), (9, .int v18), (8, .int v17), (0, .ref (b + 1004)), (1, .ref (b + o5)), (3, .ref (b + o6)), (4, .int x7), (6, .int x9)]) hx hb dX3_value_227 hl (k := 8) rfl (by rw [ev79]; rfl) (by decide) rfl (fun ls hl => ?_)
        refine lv_goto (tgt := 30) hx hb dX3_value_230 (by decide) ?_
        exact ih M76 v19 v79 H locs ls hf hm (lv_sub hl [4, 5, 6, 7, 1, 8, 0] rfl)
      have hf := xif_t hc78 hf
      refine lv_iload hx hb dX3_value_99 (lv_at hl 1 rfl) ?_
      refine lv_goto (tgt := 106) hx hb dX3_value_101 (by decide) ?_
      refine lv_istore (lv' := [(5, .int v18), (9, .int v18), (8, .int v17), (0, .ref (b + 1004)), (1, .ref (b + o5)), (3, .ref (b + o6)), (4, .int x7), (6, .int x9), (7, .int x10)]) hx hb dX3_value_106 hl (by decide) rfl (fun ls hl => ?_)
      refine lv_goto (tgt := 227) hx hb dX3_value_108 (by decide) ?_
      obtain ⟨v80, ev80, hf⟩ := xlet_x hf
      refine lv_iinc (v := v80) (lv' := [(7, .int v80), (5, .int v18), (9, .int v18), (8, .int v17), (0, .ref (b + 1004)), (1, .ref (b + o5)), (3, .ref (b + o6)), (4, .int x7), (6, .int x9)]) hx hb dX3_value_227 hl (k := 8) rfl (by rw [ev80]; rfl) (by decide) rfl (fun ls hl => ?_)
      refine lv_goto (tgt := 30) hx hb dX3_value_230 (by decide) ?_
      exact ih M76 v18 v80 H locs ls hf hm (lv_sub hl [4, 5, 6, 7, 1, 8, 0] rfl)
    have hf := xif_f hc21 hf
    refine lv_iload hx hb dX3_value_111 (lv_at hl 2 rfl) ?_
    refine lv_bipush (v := (40 : Int32)) hx hb dX3_value_113 (by decide) ?_
    refine lv_icmp_ne (tgt := 128) hx hb dX3_value_115 (by decide) (fun hc22 => ?_) (fun hc22 => ?_)
    rotate_left
    · have hf := xif_t hc22 hf
      refine lv_aload_n hx hb dX3_value_118 rfl (lv_at hl 3 rfl) ?_
      refine lv_iload hx hb dX3_value_119 (lv_at hl 1 rfl) ?_
      refine lv_i2l hx hb dX3_value_121 rfl ?_
      obtain ⟨M71, hq70, hf⟩ := xb1_e hf
      refine x_callVv (As := [.long (v18.toInt64)]) (rest := []) C hm (c_X3_push l E b M11 (v18.toInt64) hq70) rfl (cx_Law (LX_law 0 _ rfl)) tc_X3_push tm_RX3_67 ti_X3_push ts_X3_push tn_RX3 td_X3_push rfl rfl ⟨Nat.le_of_ble_eq_true rfl, Nat.le_of_ble_eq_true rfl⟩ rfl hl.1 rfl (Nat.le_of_ble_eq_true rfl) ⟨Nat.zero_le _, Nat.zero_le _⟩ dX3_value_122 (fun H locs hP72 hm => ?_)
      refine lv_goto (tgt := 227) hx hb dX3_value_125 (by decide) ?_
      obtain ⟨v73, ev73, hf⟩ := xlet_x hf
      refine lv_iinc (v := v73) (lv' := [(7, .int v73), (5, .int v19), (9, .int v18), (8, .int v17), (0, .ref (b + 1004)), (1, .ref (b + o5)), (3, .ref (b + o6)), (4, .int x7), (6, .int x9)]) hx hb dX3_value_227 hl (k := 8) rfl (by rw [ev73]; rfl) (by decide) rfl (fun ls hl => ?_)
      refine lv_goto (tgt := 30) hx hb dX3_value_230 (by decide) ?_
      exact ih M71 v19 v73 H locs ls hf hm (lv_sub hl [4, 5, 6, 7, 1, 8, 0] rfl)
    have hf := xif_f hc22 hf
    refine lv_iload hx hb dX3_value_128 (lv_at hl 2 rfl) ?_
    refine lv_bipush (v := (21 : Int32)) hx hb dX3_value_130 (by decide) ?_
    refine lv_icmp_ne (tgt := 150) hx hb dX3_value_132 (by decide) (fun hc23 => ?_) (fun hc23 => ?_)
    rotate_left
    · have hf := xif_t hc23 hf
      refine lv_aload_n hx hb dX3_value_135 rfl (lv_at hl 3 rfl) ?_
      refine lv_aload_n hx hb dX3_value_136 rfl (lv_at hl 5 rfl) ?_
      obtain ⟨v63, hq62, hf⟩ := xb1_e hf
      refine x_callVi (As := []) (rest := [.ref (b + 1004)]) C hm (c_X1_freePages l E b L_o6 M11 hq62) rfl (cx_Heap (L_o6 0 _ rfl)) tc_X1_freePages tm_RX3_71 ti_X1_freePages ts_X1_freePages tn_RX1 td_X1_freePages rfl rfl ⟨Nat.le_of_ble_eq_true rfl, Nat.le_of_ble_eq_true rfl⟩ rfl hl.1 rfl (Nat.le_of_ble_eq_true rfl) ⟨Nat.zero_le _, Nat.zero_le _⟩ dX3_value_137 (fun H locs hP64 hm => ?_)
      refine x_callSi (As := [.int v63]) (rest := [.ref (b + 1004)]) C hm (c_J6_bitCount_0f7a4 l E b M11 v63 rfl) tc_J6_bitCount_0f7a4 tm_RX3_74 tz_J6_bitCount_0f7a4 tn_RJ6 td_J6_bitCount_0f7a4 rfl rfl ⟨Nat.le_of_ble_eq_true rfl, Nat.le_of_ble_eq_true rfl⟩ rfl hl.1 rfl (Nat.le_of_ble_eq_true rfl) ⟨Nat.zero_le _, Nat.zero_le _⟩ dX3_value_140 (fun H locs hP65 hm => ?_)
      refine lv_i2l hx hb dX3_value_143 rfl ?_
      obtain ⟨M67, hq66, hf⟩ := xb1_e hf
      refine x_callVv (As := [.long ((f_J6_bitCount_0f7a4 v63).toInt64)]) (rest := []) C hm (c_X3_push l E b M11 ((f_J6_bitCount_0f7a4 v63).toInt64) hq66) rfl (cx_Law (LX_law 0 _ rfl)) tc_X3_push tm_RX3_67 ti_X3_push ts_X3_push tn_RX3 td_X3_push rfl rfl ⟨Nat.le_of_ble_eq_true rfl, Nat.le_of_ble_eq_true rfl⟩ rfl hl.1 rfl (Nat.le_of_ble_eq_true rfl) ⟨Nat.zero_le _, Nat.zero_le _⟩ dX3_value_144 (fun H locs hP68 hm => ?_)
      refine lv_goto (tgt := 227) hx hb dX3_value_147 (by decide) ?_
      obtain ⟨v69, ev69, hf⟩ := xlet_x hf
      refine lv_iinc (v := v69) (lv' := [(7, .int v69), (5, .int v19), (9, .int v18), (8, .int v17), (0, .ref (b + 1004)), (1, .ref (b + o5)), (3, .ref (b + o6)), (4, .int x7), (6, .int x9)]) hx hb dX3_value_227 hl (k := 8) rfl (by rw [ev69]; rfl) (by decide) rfl (fun ls hl => ?_)
      refine lv_goto (tgt := 30) hx hb dX3_value_230 (by decide) ?_
      exact ih M67 v19 v69 H locs ls hf hm (lv_sub hl [4, 5, 6, 7, 1, 8, 0] rfl)
    have hf := xif_f hc23 hf
    refine lv_iload hx hb dX3_value_150 (lv_at hl 2 rfl) ?_
    refine lv_bipush (v := (19 : Int32)) hx hb dX3_value_152 (by decide) ?_
    obtain ⟨k24, ek24, hf⟩ := xlet_x hf
    have jk24 : ∀  (H : Heap) (locs : List Loc) (ls : Array Slot), k24 = some y12 → xM E b NX (cX E b M11) s.heap H locs → lv_has ls 11 [(0, .ref (b + 1004)), (1, .ref (b + o5)), (3, .ref (b + o6)), (4, .int x7), (5, .int v19), (6, .int x9), (7, .int x10), (8, .int v17)] → W p l e (xR 3) s m args below meth c H locs 0 0 Q (F0 m 180 ls []) := by
      intro  H locs ls hf hm hl
      have hf := xap0 ek24 hf
      refine lv_iload hx hb dX3_value_180 (lv_at hl 7 rfl) ?_
      refine x_callSi (As := [.int v17]) (rest := []) C hm (c_X3_isOfOne l E b M11 v17 rfl) tc_X3_isOfOne tm_RX3_84 tz_X3_isOfOne tn_RX3 td_X3_isOfOne rfl rfl ⟨Nat.le_of_ble_eq_true rfl, Nat.le_of_ble_eq_true rfl⟩ rfl hl.1 rfl (Nat.le_of_ble_eq_true rfl) ⟨Nat.zero_le _, Nat.zero_le _⟩ dX3_value_182 (fun H locs hP25 hm => ?_)
      refine lv_if_eq (tgt := 206) hx hb dX3_value_185 (by decide) (fun hc26 => ?_) (fun hc26 => ?_)
      rotate_left
      · have hf := xif_f hc26 hf
        refine lv_aload_n hx hb dX3_value_188 rfl (lv_at hl 0 rfl) ?_
        refine lv_iload hx hb dX3_value_189 (lv_at hl 7 rfl) ?_
        refine lv_aload_n hx hb dX3_value_191 rfl (lv_at hl 2 rfl) ?_
        refine lv_aload_n hx hb dX3_value_192 rfl (lv_at hl 0 rfl) ?_
        obtain ⟨v43, M44, hq42, hf⟩ := xb2_e hf
        refine x_callVi (As := []) (rest := [.ref (b + o6), .int v17, .ref (b + 1004)]) C hm (c_X3_pop l E b M11 hq42) rfl (cx_Law (LX_law 0 _ rfl)) tc_X3_pop tm_RX3_63 ti_X3_pop ts_X3_pop tn_RX3 td_X3_pop rfl rfl ⟨Nat.le_of_ble_eq_true rfl, Nat.le_of_ble_eq_true rfl⟩ rfl hl.1 rfl (Nat.le_of_ble_eq_true rfl) ⟨Nat.zero_le _, Nat.zero_le _⟩ dX3_value_193 (fun H locs hP45 hm => ?_)
        obtain ⟨v47, hq46, hf⟩ := xb1_e hf
        refine x_callSi (As := [.int v17, .ref (b + o6), .int v43]) (rest := [.ref (b + 1004)]) C hm (c_X3_changed l E b L_o6 M44 v17 v43 hq46) tc_X3_changed tm_RX3_87 tz_X3_changed tn_RX3 td_X3_changed rfl rfl ⟨Nat.le_of_ble_eq_true rfl, Nat.le_of_ble_eq_true rfl⟩ rfl hl.1 rfl (Nat.le_of_ble_eq_true rfl) ⟨Nat.zero_le _, Nat.zero_le _⟩ dX3_value_196 (fun H locs hP48 hm => ?_)
        refine lv_i2l hx hb dX3_value_199 rfl ?_
        obtain ⟨M50, hq49, hf⟩ := xb1_e hf
        refine x_callVv (As := [.long (v47.toInt64)]) (rest := []) C hm (c_X3_push l E b M44 (v47.toInt64) hq49) rfl (cx_Law (LX_law 0 _ rfl)) tc_X3_push tm_RX3_67 ti_X3_push ts_X3_push tn_RX3 td_X3_push rfl rfl ⟨Nat.le_of_ble_eq_true rfl, Nat.le_of_ble_eq_true rfl⟩ rfl hl.1 rfl (Nat.le_of_ble_eq_true rfl) ⟨Nat.zero_le _, Nat.zero_le _⟩ dX3_value_200 (fun H locs hP51 hm => ?_)
        refine lv_goto (tgt := 227) hx hb dX3_value_203 (by decide) ?_
        obtain ⟨v52, ev52, hf⟩ := xlet_x hf
        refine lv_iinc (v := v52) (lv' := [(7, .int v52), (0, .ref (b + 1004)), (1, .ref (b + o5)), (3, .ref (b + o6)), (4, .int x7), (5, .int v19), (6, .int x9), (8, .int v17)]) hx hb dX3_value_227 hl (k := 6) rfl (by rw [ev52]; rfl) (by decide) rfl (fun ls hl => ?_)
        refine lv_goto (tgt := 30) hx hb dX3_value_230 (by decide) ?_
        exact ih M50 v19 v52 H locs ls hf hm (lv_sub hl [1, 2, 3, 4, 5, 6, 0] rfl)
      have hf := xif_t hc26 hf
      refine lv_aload_n hx hb dX3_value_206 rfl (lv_at hl 0 rfl) ?_
      obtain ⟨v28, M29, hq27, hf⟩ := xb2_e hf
      refine x_callVi (As := []) (rest := []) C hm (c_X3_pop l E b M11 hq27) rfl (cx_Law (LX_law 0 _ rfl)) tc_X3_pop tm_RX3_63 ti_X3_pop ts_X3_pop tn_RX3 td_X3_pop rfl rfl ⟨Nat.le_of_ble_eq_true rfl, Nat.le_of_ble_eq_true rfl⟩ rfl hl.1 rfl (Nat.le_of_ble_eq_true rfl) ⟨Nat.zero_le _, Nat.zero_le _⟩ dX3_value_207 (fun H locs hP30 hm => ?_)
      refine lv_istore (lv' := [(10, .int v28), (0, .ref (b + 1004)), (1, .ref (b + o5)), (3, .ref (b + o6)), (4, .int x7), (5, .int v19), (6, .int x9), (7, .int x10), (8, .int v17)]) hx hb dX3_value_210 hl (by decide) rfl (fun ls hl => ?_)
      refine lv_aload_n hx hb dX3_value_212 rfl (lv_at hl 1 rfl) ?_
      refine lv_iload hx hb dX3_value_213 (lv_at hl 8 rfl) ?_
      refine lv_aload_n hx hb dX3_value_215 rfl (lv_at hl 1 rfl) ?_
      obtain ⟨v32, M33, hq31, hf⟩ := xb2_e hf
      refine x_callVi (As := []) (rest := [.int v17, .ref (b + 1004)]) C hm (c_X3_pop l E b M29 hq31) rfl (cx_Law (LX_law 0 _ rfl)) tc_X3_pop tm_RX3_63 ti_X3_pop ts_X3_pop tn_RX3 td_X3_pop rfl rfl ⟨Nat.le_of_ble_eq_true rfl, Nat.le_of_ble_eq_true rfl⟩ rfl hl.1 rfl (Nat.le_of_ble_eq_true rfl) ⟨Nat.zero_le _, Nat.zero_le _⟩ dX3_value_216 (fun H locs hP34 hm => ?_)
      refine lv_iload hx hb dX3_value_219 (lv_at hl 0 rfl) ?_
      obtain ⟨v36, hq35, hf⟩ := xb1_e hf
      refine x_callSl (As := [.int v17, .int v32, .int v28]) (rest := [.ref (b + 1004)]) C hm (c_X3_joined l E b M33 v17 v32 v28 hq35) tc_X3_joined tm_RX3_90 tz_X3_joined tn_RX3 td_X3_joined rfl rfl ⟨Nat.le_of_ble_eq_true rfl, Nat.le_of_ble_eq_true rfl⟩ rfl hl.1 rfl (Nat.le_of_ble_eq_true rfl) ⟨Nat.zero_le _, Nat.zero_le _⟩ dX3_value_221 (fun H locs hP37 hm => ?_)
      obtain ⟨M39, hq38, hf⟩ := xb1_e hf
      refine x_callVv (As := [.long v36]) (rest := []) C hm (c_X3_push l E b M33 v36 hq38) rfl (cx_Law (LX_law 0 _ rfl)) tc_X3_push tm_RX3_67 ti_X3_push ts_X3_push tn_RX3 td_X3_push rfl rfl ⟨Nat.le_of_ble_eq_true rfl, Nat.le_of_ble_eq_true rfl⟩ rfl hl.1 rfl (Nat.le_of_ble_eq_true rfl) ⟨Nat.zero_le _, Nat.zero_le _⟩ dX3_value_224 (fun H locs hP40 hm => ?_)
      obtain ⟨v41, ev41, hf⟩ := xlet_x hf
      refine lv_iinc (v := v41) (lv' := [(7, .int v41), (10, .int v28), (0, .ref (b + 1004)), (1, .ref (b + o5)), (3, .ref (b + o6)), (4, .int x7), (5, .int v19), (6, .int x9), (8, .int v17)]) hx hb dX3_value_227 hl (k := 7) rfl (by rw [ev41]; rfl) (by decide) rfl (fun ls hl => ?_)
      refine lv_goto (tgt := 30) hx hb dX3_value_230 (by decide) ?_
      exact ih M39 v19 v41 H locs ls hf hm (lv_sub hl [2, 3, 4, 5, 6, 7, 0] rfl)
    refine lv_icmp_lt (tgt := 180) hx hb dX3_value_154 (by decide) (fun hc53 => ?_) (fun hc53 => ?_)
    · have hf := xif_t hc53 hf
      exact jk24  H locs ls  hf hm (lv_sub hl [3, 4, 5, 6, 0, 7, 8, 2] rfl)
    have hf := xif_f hc53 hf
    refine lv_iload hx hb dX3_value_157 (lv_at hl 2 rfl) ?_
    refine lv_bipush (v := (26 : Int32)) hx hb dX3_value_159 (by decide) ?_
    refine lv_icmp_gt (tgt := 180) hx hb dX3_value_161 (by decide) (fun hc54 => ?_) (fun hc54 => ?_)
    · have hf := xif_t hc54 hf
      exact jk24  H locs ls  hf hm (lv_sub hl [3, 4, 5, 6, 0, 7, 8, 2] rfl)
    have hf := xif_f hc54 hf
    refine lv_aload_n hx hb dX3_value_164 rfl (lv_at hl 3 rfl) ?_
    refine lv_iload hx hb dX3_value_165 (lv_at hl 2 rfl) ?_
    refine lv_aload_n hx hb dX3_value_167 rfl (lv_at hl 5 rfl) ?_
    refine lv_iload hx hb dX3_value_168 (lv_at hl 6 rfl) ?_
    obtain ⟨v56, hq55, hf⟩ := xb1_e hf
    refine x_callSi (As := [.int v17, .ref (b + o6), .int x7]) (rest := [.ref (b + 1004)]) C hm (c_X3_named l E b L_o6 M11 v17 x7 hq55) tc_X3_named tm_RX3_80 tz_X3_named tn_RX3 td_X3_named rfl rfl ⟨Nat.le_of_ble_eq_true rfl, Nat.le_of_ble_eq_true rfl⟩ rfl hl.1 rfl (Nat.le_of_ble_eq_true rfl) ⟨Nat.zero_le _, Nat.zero_le _⟩ dX3_value_170 (fun H locs hP57 hm => ?_)
    refine lv_i2l hx hb dX3_value_173 rfl ?_
    obtain ⟨M59, hq58, hf⟩ := xb1_e hf
    refine x_callVv (As := [.long (v56.toInt64)]) (rest := []) C hm (c_X3_push l E b M11 (v56.toInt64) hq58) rfl (cx_Law (LX_law 0 _ rfl)) tc_X3_push tm_RX3_67 ti_X3_push ts_X3_push tn_RX3 td_X3_push rfl rfl ⟨Nat.le_of_ble_eq_true rfl, Nat.le_of_ble_eq_true rfl⟩ rfl hl.1 rfl (Nat.le_of_ble_eq_true rfl) ⟨Nat.zero_le _, Nat.zero_le _⟩ dX3_value_174 (fun H locs hP60 hm => ?_)
    refine lv_goto (tgt := 227) hx hb dX3_value_177 (by decide) ?_
    obtain ⟨v61, ev61, hf⟩ := xlet_x hf
    refine lv_iinc (v := v61) (lv' := [(7, .int v61), (5, .int v19), (9, .int v18), (8, .int v17), (0, .ref (b + 1004)), (1, .ref (b + o5)), (3, .ref (b + o6)), (4, .int x7), (6, .int x9)]) hx hb dX3_value_227 hl (k := 8) rfl (by rw [ev61]; rfl) (by decide) rfl (fun ls hl => ?_)
    refine lv_goto (tgt := 30) hx hb dX3_value_230 (by decide) ?_
    exact ih M59 v19 v61 H locs ls hf hm (lv_sub hl [4, 5, 6, 7, 1, 8, 0] rfl)
set_option maxHeartbeats 4000000 in
set_option maxRecDepth 20000 in
theorem c_X3_value (l : Launch) (E : xE) (b : Nat) {u1 : Nat} (L_u1 : lat u1 pText) {u3 : Nat} (L_u3 : lat u3 pHeap) (M : xm) (a2 : Int32) (a4 : Int32) {r : Int32} {M' : xm} (hf : f_X3_value u1 u3 M a2 a4 = some (r, M')) :
    xMet l E b NX yX3_value cX3_value 11 (some .int) (xR 3) [.ref (b + 1004), .ref (b + u1), .int a2, .ref (b + u3), .int a4] (cX E b M) (some (.int r)) True (cX E b M') := by
  refine xMet.ofW (own := RX3) (by decide) rfl (Nat.le_of_ble_eq_true rfl) ?_
  intro p e s m below meth c H locs ls C hm hl
  have hx := C.1.1
  have hb := C.1.2.1
  have hl : lv_has ls 11 [(0, .ref (b + 1004)), (1, .ref (b + u1)), (2, .int a2), (3, .ref (b + u3)), (4, .int a4)] := hl
  unfold f_X3_value at hf
  refine lv_aload_n hx hb dX3_value_0 rfl (lv_at hl 0 rfl) ?_
  refine lv_iconst (v := (0 : Int32)) hx hb dX3_value_1 (by decide) ?_
  obtain ⟨M1, eM1, hf⟩ := xlet_x hf
  refine x_put (cf' := cX E b M1) C hm inX3 tyX3 tyX3_ok nmX3 rfl 1 (by decide) tf_RX3_15 rfl rfl rfl (cx_Law (LX_law 0 _ rfl)) (Nat.le_of_ble_eq_true rfl) (by rw [eM1]; exact cu_Law_1 (LX_law 0 _ rfl)) (by rw [eM1]; exact cX_o) dX3_value_2 (fun H locs hm => ?_)
  refine lv_aload_n hx hb dX3_value_5 rfl (lv_at hl 1 rfl) ?_
  refine x_get C hm inX7 rfl 6 (by decide) tf_RX3_51 (cx_Text (L_u1 0 _ rfl)) rfl dX3_value_6 ?_
  refine lv_iload_n hx hb dX3_value_9 rfl (lv_at hl 2 rfl) ?_
  obtain ⟨hi2, hf⟩ := xif_s hf
  refine x_iald (j := (Int32.toNatClampNeg a2)) C hm (cx_I (L_u1 7 _ rfl)) hi2 dX3_value_10 rfl ?_
  refine lv_topi (fun v3 ev3 => ?_)
  have hf := xlet_e ev3 hf
  refine lv_istore (lv' := [(5, .int v3), (0, .ref (b + 1004)), (1, .ref (b + u1)), (2, .int a2), (3, .ref (b + u3)), (4, .int a4)]) hx hb dX3_value_11 hl (by decide) rfl (fun ls hl => ?_)
  refine lv_aload_n hx hb dX3_value_13 rfl (lv_at hl 2 rfl) ?_
  refine x_get C hm inX7 rfl 7 (by decide) tf_RX3_54 (cx_Text (L_u1 0 _ rfl)) rfl dX3_value_14 ?_
  refine lv_iload_n hx hb dX3_value_17 rfl (lv_at hl 3 rfl) ?_
  refine x_iald (j := (Int32.toNatClampNeg a2)) C hm (cx_I (L_u1 8 _ rfl)) hi2 dX3_value_18 rfl ?_
  refine lv_sipush (v := (300 : Int32)) hx hb dX3_value_19 (by decide) ?_
  refine va_mmin hx hb (C.1.2.2.1.trans hl.1.symm) C.1.2.2.2.1 (C.1.2.2.2.2 _ tm_RX3_42) (C.1.2.2.2.2 _ tz_Math_minI) (C.1.2.2.2.2 _ tn_Math) (C.1.2.2.2.2 _ tc_Math_minI) (Nat.le_of_ble_eq_true rfl) (Nat.le_of_ble_eq_true rfl) (Nat.zero_le _) (Nat.zero_le _) dX3_value_22 ?_
  refine lv_topi (fun v4 ev4 => ?_)
  have hf := xlet_e ev4 hf
  refine lv_istore (lv' := [(6, .int v4), (5, .int v3), (0, .ref (b + 1004)), (1, .ref (b + u1)), (2, .int a2), (3, .ref (b + u3)), (4, .int a4)]) hx hb dX3_value_25 hl (by decide) rfl (fun ls hl => ?_)
  refine lv_iconst (v := (0 : Int32)) hx hb dX3_value_27 (by decide) ?_
  refine lv_istore (lv' := [(7, .int (0 : Int32)), (6, .int v4), (5, .int v3), (0, .ref (b + 1004)), (1, .ref (b + u1)), (2, .int a2), (3, .ref (b + u3)), (4, .int a4)]) hx hb dX3_value_28 hl (by decide) rfl (fun ls hl => ?_)
  obtain ⟨M82, hq, hf⟩ := xb1_e hf
  refine j_X3_value_30 C L_u1 L_u3 a4 v4 (fun H locs ls hm hl => ?_) xfuel M1 v3 (0 : Int32) H locs ls hq hm (lv_sub hl [3, 4, 6, 7, 2, 1, 0] rfl)
  refine lv_aload_n hx hb dX3_value_233 rfl (lv_at hl 0 rfl) ?_
  obtain ⟨v84, M85, hq83, hf⟩ := xb2_e hf
  refine x_callVi (As := []) (rest := []) C hm (c_X3_pop l E b M82 hq83) rfl (cx_Law (LX_law 0 _ rfl)) tc_X3_pop tm_RX3_63 ti_X3_pop ts_X3_pop tn_RX3 td_X3_pop rfl rfl ⟨Nat.le_of_ble_eq_true rfl, Nat.le_of_ble_eq_true rfl⟩ rfl hl.1 rfl (Nat.le_of_ble_eq_true rfl) ⟨Nat.zero_le _, Nat.zero_le _⟩ dX3_value_234 (fun H locs hP86 hm => ?_)
  cases hf
  exact x_iret C hm trivial dX3_value_237
/-! ColouredHeap$Text.hasLaw(I)Z -/
theorem dX7_hasLaw_0 : decode cX7_hasLaw 0 = .ok (.iload_n 1, 1) := by decide +kernel
theorem dX7_hasLaw_1 : decode cX7_hasLaw 1 = .ok (.ifCond .lt 22, 3) := by decide +kernel
theorem dX7_hasLaw_4 : decode cX7_hasLaw 4 = .ok (.iload_n 1, 1) := by decide +kernel
theorem dX7_hasLaw_5 : decode cX7_hasLaw 5 = .ok (.iconst 2, 1) := by decide +kernel
theorem dX7_hasLaw_6 : decode cX7_hasLaw 6 = .ok (.if_icmp .ge 17, 3) := by decide +kernel
theorem dX7_hasLaw_9 : decode cX7_hasLaw 9 = .ok (.aload_n 0, 1) := by decide +kernel
theorem dX7_hasLaw_10 : decode cX7_hasLaw 10 = .ok (.getfield 30, 3) := by decide +kernel
theorem dX7_hasLaw_13 : decode cX7_hasLaw 13 = .ok (.iload_n 1, 1) := by decide +kernel
theorem dX7_hasLaw_14 : decode cX7_hasLaw 14 = .ok (.iaload, 1) := by decide +kernel
theorem dX7_hasLaw_15 : decode cX7_hasLaw 15 = .ok (.iconst (-1), 1) := by decide +kernel
theorem dX7_hasLaw_16 : decode cX7_hasLaw 16 = .ok (.if_icmp .eq 7, 3) := by decide +kernel
theorem dX7_hasLaw_19 : decode cX7_hasLaw 19 = .ok (.iconst 1, 1) := by decide +kernel
theorem dX7_hasLaw_20 : decode cX7_hasLaw 20 = .ok (.goto 4, 3) := by decide +kernel
theorem dX7_hasLaw_23 : decode cX7_hasLaw 23 = .ok (.iconst 0, 1) := by decide +kernel
theorem dX7_hasLaw_24 : decode cX7_hasLaw 24 = .ok (.ireturn, 1) := by decide +kernel
def f_X7_hasLaw (u0 : Nat) (M : xm) (a1 : Int32) : Option (Int32) := (if a1 < 0 then some (0 : Int32) else (if (2 : Int32) ≤ a1 then some (0 : Int32) else if xin a1 2 = true then (if (M (u0 + 7) (Int32.toNatClampNeg a1)) = (-1 : Int32) then some (0 : Int32) else some (1 : Int32)) else none))
set_option maxHeartbeats 4000000 in
set_option maxRecDepth 20000 in
theorem c_X7_hasLaw (l : Launch) (E : xE) (b : Nat) {u0 : Nat} (L_u0 : lat u0 pText) (M : xm) (a1 : Int32) {r : Int32} (hf : f_X7_hasLaw u0 M a1 = some r) :
    xMet l E b NX yX7_hasLaw cX7_hasLaw 2 (some .boolean) (xR 1) [.ref (b + u0), .int a1] (cX E b M) (some (.int r)) (xbo r = true) (cX E b M) := by
  refine xMet.ofW (own := RX7) (by decide) rfl (Nat.le_of_ble_eq_true rfl) ?_
  intro p e s m below meth c H locs ls C hm hl
  have hx := C.1.1
  have hb := C.1.2.1
  have hl : lv_has ls 2 [(0, .ref (b + u0)), (1, .int a1)] := hl
  unfold f_X7_hasLaw at hf
  refine lv_iload_n hx hb dX7_hasLaw_0 rfl (lv_at hl 1 rfl) ?_
  refine lv_if_lt (tgt := 23) hx hb dX7_hasLaw_1 (by decide) (fun hc1 => ?_) (fun hc1 => ?_)
  · have hf := xif_t hc1 hf
    refine lv_iconst (v := (0 : Int32)) hx hb dX7_hasLaw_23 (by decide) ?_
    cases hf
    exact x_zret C hm (by decide) (by decide) dX7_hasLaw_24
  have hf := xif_f hc1 hf
  refine lv_iload_n hx hb dX7_hasLaw_4 rfl (lv_at hl 1 rfl) ?_
  refine lv_iconst (v := (2 : Int32)) hx hb dX7_hasLaw_5 (by decide) ?_
  refine lv_icmp_ge (tgt := 23) hx hb dX7_hasLaw_6 (by decide) (fun hc2 => ?_) (fun hc2 => ?_)
  · have hf := xif_t hc2 hf
    refine lv_iconst (v := (0 : Int32)) hx hb dX7_hasLaw_23 (by decide) ?_
    cases hf
    exact x_zret C hm (by decide) (by decide) dX7_hasLaw_24
  have hf := xif_f hc2 hf
  refine lv_aload_n hx hb dX7_hasLaw_9 rfl (lv_at hl 0 rfl) ?_
  refine x_get C hm inX7 rfl 6 (by decide) tf_RX7_30 (cx_Text (L_u0 0 _ rfl)) rfl dX7_hasLaw_10 ?_
  refine lv_iload_n hx hb dX7_hasLaw_13 rfl (lv_at hl 1 rfl) ?_
  obtain ⟨hi3, hf⟩ := xif_s hf
  refine x_iald (j := (Int32.toNatClampNeg a1)) C hm (cx_I (L_u0 7 _ rfl)) hi3 dX7_hasLaw_14 rfl ?_
  refine lv_iconst (v := (-1 : Int32)) hx hb dX7_hasLaw_15 (by decide) ?_
  refine lv_icmp_eq (tgt := 23) hx hb dX7_hasLaw_16 (by decide) (fun hc4 => ?_) (fun hc4 => ?_)
  · have hf := xif_t hc4 hf
    refine lv_iconst (v := (0 : Int32)) hx hb dX7_hasLaw_23 (by decide) ?_
    cases hf
    exact x_zret C hm (by decide) (by decide) dX7_hasLaw_24
  have hf := xif_f hc4 hf
  refine lv_iconst (v := (1 : Int32)) hx hb dX7_hasLaw_19 (by decide) ?_
  refine lv_goto (tgt := 24) hx hb dX7_hasLaw_20 (by decide) ?_
  cases hf
  exact x_zret C hm (by decide) (by decide) dX7_hasLaw_24
/-! ColouredHeap$Law.picked(LColouredHeap$Text;LColouredHeap$Heap;I)Z -/
theorem dX3_picked_0 : decode cX3_picked 0 = .ok (.iload_n 3, 1) := by decide +kernel
theorem dX3_picked_1 : decode cX3_picked 1 = .ok (.invokestatic 19, 3) := by decide +kernel
theorem dX3_picked_4 : decode cX3_picked 4 = .ok (.ifCond .ne 5, 3) := by decide +kernel
theorem dX3_picked_7 : decode cX3_picked 7 = .ok (.iconst 0, 1) := by decide +kernel
theorem dX3_picked_8 : decode cX3_picked 8 = .ok (.ireturn, 1) := by decide +kernel
theorem dX3_picked_9 : decode cX3_picked 9 = .ok (.aload_n 1, 1) := by decide +kernel
theorem dX3_picked_10 : decode cX3_picked 10 = .ok (.ifnull 11, 3) := by decide +kernel
theorem dX3_picked_13 : decode cX3_picked 13 = .ok (.aload_n 1, 1) := by decide +kernel
theorem dX3_picked_14 : decode cX3_picked 14 = .ok (.iconst 0, 1) := by decide +kernel
theorem dX3_picked_15 : decode cX3_picked 15 = .ok (.invokevirtual 25, 3) := by decide +kernel
theorem dX3_picked_18 : decode cX3_picked 18 = .ok (.ifCond .ne 26, 3) := by decide +kernel
theorem dX3_picked_21 : decode cX3_picked 21 = .ok (.aload_n 2, 1) := by decide +kernel
theorem dX3_picked_22 : decode cX3_picked 22 = .ok (.getfield 30, 3) := by decide +kernel
theorem dX3_picked_25 : decode cX3_picked 25 = .ok (.iload_n 3, 1) := by decide +kernel
theorem dX3_picked_26 : decode cX3_picked 26 = .ok (.iaload, 1) := by decide +kernel
theorem dX3_picked_27 : decode cX3_picked 27 = .ok (.iconst 2, 1) := by decide +kernel
theorem dX3_picked_28 : decode cX3_picked 28 = .ok (.imul, 1) := by decide +kernel
theorem dX3_picked_29 : decode cX3_picked 29 = .ok (.aload_n 2, 1) := by decide +kernel
theorem dX3_picked_30 : decode cX3_picked 30 = .ok (.getfield 35, 3) := by decide +kernel
theorem dX3_picked_33 : decode cX3_picked 33 = .ok (.iload_n 3, 1) := by decide +kernel
theorem dX3_picked_34 : decode cX3_picked 34 = .ok (.iaload, 1) := by decide +kernel
theorem dX3_picked_35 : decode cX3_picked 35 = .ok (.if_icmp .gt 7, 3) := by decide +kernel
theorem dX3_picked_38 : decode cX3_picked 38 = .ok (.iconst 1, 1) := by decide +kernel
theorem dX3_picked_39 : decode cX3_picked 39 = .ok (.goto 4, 3) := by decide +kernel
theorem dX3_picked_42 : decode cX3_picked 42 = .ok (.iconst 0, 1) := by decide +kernel
theorem dX3_picked_43 : decode cX3_picked 43 = .ok (.ireturn, 1) := by decide +kernel
theorem dX3_picked_44 : decode cX3_picked 44 = .ok (.aload_n 0, 1) := by decide +kernel
theorem dX3_picked_45 : decode cX3_picked 45 = .ok (.aload_n 1, 1) := by decide +kernel
theorem dX3_picked_46 : decode cX3_picked 46 = .ok (.iconst 0, 1) := by decide +kernel
theorem dX3_picked_47 : decode cX3_picked 47 = .ok (.aload_n 2, 1) := by decide +kernel
theorem dX3_picked_48 : decode cX3_picked 48 = .ok (.iload_n 3, 1) := by decide +kernel
theorem dX3_picked_49 : decode cX3_picked 49 = .ok (.invokevirtual 38, 3) := by decide +kernel
theorem dX3_picked_52 : decode cX3_picked 52 = .ok (.ifCond .le 7, 3) := by decide +kernel
theorem dX3_picked_55 : decode cX3_picked 55 = .ok (.iconst 1, 1) := by decide +kernel
theorem dX3_picked_56 : decode cX3_picked 56 = .ok (.goto 4, 3) := by decide +kernel
theorem dX3_picked_59 : decode cX3_picked 59 = .ok (.iconst 0, 1) := by decide +kernel
theorem dX3_picked_60 : decode cX3_picked 60 = .ok (.ireturn, 1) := by decide +kernel
def f_X3_picked (u1 : Option Nat) (u2 : Nat) (M : xm) (a3 : Int32) : Option (Int32 × xm) := (if (f_X9_isPage a3) = 0 then some ((0 : Int32), M) else xlet (if xin a3 8 = true then (if (M (u2 + 6) (Int32.toNatClampNeg a3)) < ((M (u2 + 5) (Int32.toNatClampNeg a3)) * (2 : Int32)) then some ((0 : Int32), M) else some ((1 : Int32), M)) else none) (fun k3 => xopt u1 (k3) (fun o6 => xb1 (f_X7_hasLaw o6 M (0 : Int32)) (fun v9 => (if v9 = 0 then k3 else xb2 (f_X3_value o6 u2 M (0 : Int32) a3) (fun v13 M14 => (if v13 ≤ 0 then some ((0 : Int32), M14) else some ((1 : Int32), M14))))))))
set_option maxHeartbeats 4000000 in
set_option maxRecDepth 20000 in
theorem c_X3_picked (l : Launch) (E : xE) (b : Nat) {u1 : Option Nat} (hQ_u1 : ∀ k, u1 = some k → lat k pText) {u2 : Nat} (L_u2 : lat u2 pHeap) (M : xm) (a3 : Int32) {r : Int32} {M' : xm} (hf : f_X3_picked u1 u2 M a3 = some (r, M')) :
    xMet l E b NX yX3_picked cX3_picked 4 (some .boolean) (xR 4) [.ref (b + 1004), xrf b u1, .ref (b + u2), .int a3] (cX E b M) (some (.int r)) (xbo r = true) (cX E b M') := by
  refine xMet.ofW (own := RX3) (by decide) rfl (by cases u1 <;> exact Nat.le_of_ble_eq_true rfl) ?_
  intro p e s m below meth c H locs ls C hm hl
  have hx := C.1.1
  have hb := C.1.2.1
  have hl : lv_has ls 4 [(0, .ref (b + 1004)), (1, xrf b u1), (2, .ref (b + u2)), (3, .int a3)] := (by cases u1 <;> exact hl)
  unfold f_X3_picked at hf
  refine lv_iload_n hx hb dX3_picked_0 rfl (lv_at hl 3 rfl) ?_
  refine x_callSNi (As := [.int a3]) (rest := []) C hm (c_X9_isPage l E b M a3 rfl) tc_X9_isPage (by decide +kernel : (RX3, 19, yX9_isPage, "ColouredHeap") ∈ xNest) tz_X9_isPage tn_RX9 td_X9_isPage rfl rfl ⟨Nat.le_of_ble_eq_true rfl, Nat.le_of_ble_eq_true rfl⟩ rfl hl.1 rfl (Nat.le_of_ble_eq_true rfl) ⟨Nat.zero_le _, Nat.zero_le _⟩ dX3_picked_1 (fun H locs hP1 hm => ?_)
  refine lv_if_ne (tgt := 9) hx hb dX3_picked_4 (by decide) (fun hc2 => ?_) (fun hc2 => ?_)
  rotate_left
  · have hf := xif_t hc2 hf
    refine lv_iconst (v := (0 : Int32)) hx hb dX3_picked_7 (by decide) ?_
    cases hf
    exact x_zret C hm (by decide) (by decide) dX3_picked_8
  have hf := xif_f hc2 hf
  refine x_aloadQ_n (b := b) (o := u1) hx hb dX3_picked_9 rfl (lv_at hl 1 rfl) ?_
  obtain ⟨k3, ek3, hf⟩ := xlet_x hf
  have jk3 : ∀  (H : Heap) (locs : List Loc) (ls : Array Slot), k3 = some (r, M') → xM E b NX (cX E b M) s.heap H locs → lv_has ls 4 [(2, .ref (b + u2)), (3, .int a3)] → W p l e (xR 4) s m ([.ref (b + 1004), xrf b u1, .ref (b + u2), .int a3] : List Value).toArray below meth c H locs 0 0 (MQ below (xQ E b NX (some (.int r)) (xbo r = true) (cX E b M')) ([.ref (b + 1004), xrf b u1, .ref (b + u2), .int a3] : List Value).toArray s 0 0 (xA b NX)) (F0 m 21 ls []) := by
    intro  H locs ls hf hm hl
    have hf := xap0 ek3 hf
    refine lv_aload_n hx hb dX3_picked_21 rfl (lv_at hl 0 rfl) ?_
    refine x_get C hm inX1 rfl 4 (by decide) tf_RX3_30 (cx_Heap (L_u2 0 _ rfl)) rfl dX3_picked_22 ?_
    refine lv_iload_n hx hb dX3_picked_25 rfl (lv_at hl 1 rfl) ?_
    obtain ⟨hi4, hf⟩ := xif_s hf
    refine x_iald (j := (Int32.toNatClampNeg a3)) C hm (cx_I (L_u2 5 _ rfl)) hi4 dX3_picked_26 rfl ?_
    refine lv_iconst (v := (2 : Int32)) hx hb dX3_picked_27 (by decide) ?_
    refine lv_imul hx hb dX3_picked_28 ?_
    refine lv_aload_n hx hb dX3_picked_29 rfl (lv_at hl 0 rfl) ?_
    refine x_get C hm inX1 rfl 5 (by decide) tf_RX3_35 (cx_Heap (L_u2 0 _ rfl)) rfl dX3_picked_30 ?_
    refine lv_iload_n hx hb dX3_picked_33 rfl (lv_at hl 1 rfl) ?_
    refine x_iald (j := (Int32.toNatClampNeg a3)) C hm (cx_I (L_u2 6 _ rfl)) hi4 dX3_picked_34 rfl ?_
    refine lv_icmp_gt (tgt := 42) hx hb dX3_picked_35 (by decide) (fun hc5 => ?_) (fun hc5 => ?_)
    · have hf := xif_t hc5 hf
      refine lv_iconst (v := (0 : Int32)) hx hb dX3_picked_42 (by decide) ?_
      cases hf
      exact x_zret C hm (by decide) (by decide) dX3_picked_43
    have hf := xif_f hc5 hf
    refine lv_iconst (v := (1 : Int32)) hx hb dX3_picked_38 (by decide) ?_
    refine lv_goto (tgt := 43) hx hb dX3_picked_39 (by decide) ?_
    cases hf
    exact x_zret C hm (by decide) (by decide) dX3_picked_43
  refine x_ifnullQ (b := b) (o := u1) (tgt := 21) hx hb dX3_picked_10 (by decide) (fun hn7 => ?_) (fun o6 hn7 => ?_)
  · subst hn7
    have hf := xopt_n hf
    have hl := lv_sub (l' := [(0, .ref (b + 1004)), (2, .ref (b + u2)), (3, .int a3)]) hl [0, 2, 3] rfl
    exact jk3  H locs ls  hf hm (lv_sub hl [1, 2] rfl)
  subst hn7
  have hf := xopt_s hf
  have hl : lv_has ls 4 [(0, .ref (b + 1004)), (1, .ref (b + o6)), (2, .ref (b + u2)), (3, .int a3)] := hl
  refine lv_aload_n hx hb dX3_picked_13 rfl (lv_at hl 1 rfl) ?_
  refine lv_iconst (v := (0 : Int32)) hx hb dX3_picked_14 (by decide) ?_
  obtain ⟨v9, hq8, hf⟩ := xb1_e hf
  refine x_callVi (As := [.int (0 : Int32)]) (rest := []) C hm (c_X7_hasLaw l E b (hQ_u1 o6 rfl) M (0 : Int32) hq8) rfl (cx_Text ((hQ_u1 o6 rfl) 0 _ rfl)) tc_X7_hasLaw tm_RX3_25 ti_X7_hasLaw ts_X7_hasLaw tn_RX7 td_X7_hasLaw rfl rfl ⟨Nat.le_of_ble_eq_true rfl, Nat.le_of_ble_eq_true rfl⟩ rfl hl.1 rfl (Nat.le_of_ble_eq_true rfl) ⟨Nat.zero_le _, Nat.zero_le _⟩ dX3_picked_15 (fun H locs hP10 hm => ?_)
  refine lv_if_ne (tgt := 44) hx hb dX3_picked_18 (by decide) (fun hc11 => ?_) (fun hc11 => ?_)
  rotate_left
  · have hf := xif_t hc11 hf
    exact jk3  H locs ls  hf hm (lv_sub hl [2, 3] rfl)
  have hf := xif_f hc11 hf
  refine lv_aload_n hx hb dX3_picked_44 rfl (lv_at hl 0 rfl) ?_
  refine lv_aload_n hx hb dX3_picked_45 rfl (lv_at hl 1 rfl) ?_
  refine lv_iconst (v := (0 : Int32)) hx hb dX3_picked_46 (by decide) ?_
  refine lv_aload_n hx hb dX3_picked_47 rfl (lv_at hl 2 rfl) ?_
  refine lv_iload_n hx hb dX3_picked_48 rfl (lv_at hl 3 rfl) ?_
  obtain ⟨v13, M14, hq12, hf⟩ := xb2_e hf
  refine x_callVi (As := [.ref (b + o6), .int (0 : Int32), .ref (b + u2), .int a3]) (rest := []) C hm (c_X3_value l E b (hQ_u1 o6 rfl) L_u2 M (0 : Int32) a3 hq12) rfl (cx_Law (LX_law 0 _ rfl)) tc_X3_value tm_RX3_38 ti_X3_value ts_X3_value tn_RX3 td_X3_value rfl rfl ⟨Nat.le_of_ble_eq_true rfl, Nat.le_of_ble_eq_true rfl⟩ rfl hl.1 rfl (Nat.le_of_ble_eq_true rfl) ⟨Nat.zero_le _, Nat.zero_le _⟩ dX3_picked_49 (fun H locs hP15 hm => ?_)
  refine lv_if_le (tgt := 59) hx hb dX3_picked_52 (by decide) (fun hc16 => ?_) (fun hc16 => ?_)
  · have hf := xif_t hc16 hf
    refine lv_iconst (v := (0 : Int32)) hx hb dX3_picked_59 (by decide) ?_
    cases hf
    exact x_zret C hm (by decide) (by decide) dX3_picked_60
  have hf := xif_f hc16 hf
  refine lv_iconst (v := (1 : Int32)) hx hb dX3_picked_55 (by decide) ?_
  refine lv_goto (tgt := 60) hx hb dX3_picked_56 (by decide) ?_
  cases hf
  exact x_zret C hm (by decide) (by decide) dX3_picked_60
/-! ColouredHeap$Heap.pickPages(LColouredHeap$Law;LColouredHeap$Text;)I -/
theorem dX1_pickPages_0 : decode cX1_pickPages 0 = .ok (.iconst 5, 1) := by decide +kernel
theorem dX1_pickPages_1 : decode cX1_pickPages 1 = .ok (.aload_n 0, 1) := by decide +kernel
theorem dX1_pickPages_2 : decode cX1_pickPages 2 = .ok (.invokevirtual 180, 3) := by decide +kernel
theorem dX1_pickPages_5 : decode cX1_pickPages 5 = .ok (.invokestatic 169, 3) := by decide +kernel
theorem dX1_pickPages_8 : decode cX1_pickPages 8 = .ok (.imul, 1) := by decide +kernel
theorem dX1_pickPages_9 : decode cX1_pickPages 9 = .ok (.istore_n 3, 1) := by decide +kernel
theorem dX1_pickPages_10 : decode cX1_pickPages 10 = .ok (.iconst 0, 1) := by decide +kernel
theorem dX1_pickPages_11 : decode cX1_pickPages 11 = .ok (.istore 4, 2) := by decide +kernel
theorem dX1_pickPages_13 : decode cX1_pickPages 13 = .ok (.iconst 1, 1) := by decide +kernel
theorem dX1_pickPages_14 : decode cX1_pickPages 14 = .ok (.istore 5, 2) := by decide +kernel
theorem dX1_pickPages_16 : decode cX1_pickPages 16 = .ok (.iload 5, 2) := by decide +kernel
theorem dX1_pickPages_18 : decode cX1_pickPages 18 = .ok (.bipush 8, 2) := by decide +kernel
theorem dX1_pickPages_20 : decode cX1_pickPages 20 = .ok (.if_icmp .gt 85, 3) := by decide +kernel
theorem dX1_pickPages_23 : decode cX1_pickPages 23 = .ok (.iconst 0, 1) := by decide +kernel
theorem dX1_pickPages_24 : decode cX1_pickPages 24 = .ok (.istore 6, 2) := by decide +kernel
theorem dX1_pickPages_26 : decode cX1_pickPages 26 = .ok (.iload 6, 2) := by decide +kernel
theorem dX1_pickPages_28 : decode cX1_pickPages 28 = .ok (.bipush 8, 2) := by decide +kernel
theorem dX1_pickPages_30 : decode cX1_pickPages 30 = .ok (.if_icmp .ge 69, 3) := by decide +kernel
theorem dX1_pickPages_33 : decode cX1_pickPages 33 = .ok (.aload_n 0, 1) := by decide +kernel
theorem dX1_pickPages_34 : decode cX1_pickPages 34 = .ok (.getfield 24, 3) := by decide +kernel
theorem dX1_pickPages_37 : decode cX1_pickPages 37 = .ok (.iload 6, 2) := by decide +kernel
theorem dX1_pickPages_39 : decode cX1_pickPages 39 = .ok (.iaload, 1) := by decide +kernel
theorem dX1_pickPages_40 : decode cX1_pickPages 40 = .ok (.iload 5, 2) := by decide +kernel
theorem dX1_pickPages_42 : decode cX1_pickPages 42 = .ok (.if_icmp .ne 51, 3) := by decide +kernel
theorem dX1_pickPages_45 : decode cX1_pickPages 45 = .ok (.iload 5, 2) := by decide +kernel
theorem dX1_pickPages_47 : decode cX1_pickPages 47 = .ok (.iload_n 3, 1) := by decide +kernel
theorem dX1_pickPages_48 : decode cX1_pickPages 48 = .ok (.if_icmp .gt 45, 3) := by decide +kernel
theorem dX1_pickPages_51 : decode cX1_pickPages 51 = .ok (.aload_n 0, 1) := by decide +kernel
theorem dX1_pickPages_52 : decode cX1_pickPages 52 = .ok (.iload 6, 2) := by decide +kernel
theorem dX1_pickPages_54 : decode cX1_pickPages 54 = .ok (.invokevirtual 174, 3) := by decide +kernel
theorem dX1_pickPages_57 : decode cX1_pickPages 57 = .ok (.ifCond .eq 36, 3) := by decide +kernel
theorem dX1_pickPages_60 : decode cX1_pickPages 60 = .ok (.aload_n 1, 1) := by decide +kernel
theorem dX1_pickPages_61 : decode cX1_pickPages 61 = .ok (.aload_n 2, 1) := by decide +kernel
theorem dX1_pickPages_62 : decode cX1_pickPages 62 = .ok (.aload_n 0, 1) := by decide +kernel
theorem dX1_pickPages_63 : decode cX1_pickPages 63 = .ok (.iload 6, 2) := by decide +kernel
theorem dX1_pickPages_65 : decode cX1_pickPages 65 = .ok (.invokevirtual 183, 3) := by decide +kernel
theorem dX1_pickPages_68 : decode cX1_pickPages 68 = .ok (.ifCond .eq 25, 3) := by decide +kernel
theorem dX1_pickPages_71 : decode cX1_pickPages 71 = .ok (.aload_n 0, 1) := by decide +kernel
theorem dX1_pickPages_72 : decode cX1_pickPages 72 = .ok (.getfield 30, 3) := by decide +kernel
theorem dX1_pickPages_75 : decode cX1_pickPages 75 = .ok (.iload 6, 2) := by decide +kernel
theorem dX1_pickPages_77 : decode cX1_pickPages 77 = .ok (.iconst 2, 1) := by decide +kernel
theorem dX1_pickPages_78 : decode cX1_pickPages 78 = .ok (.iastore, 1) := by decide +kernel
theorem dX1_pickPages_79 : decode cX1_pickPages 79 = .ok (.iload 4, 2) := by decide +kernel
theorem dX1_pickPages_81 : decode cX1_pickPages 81 = .ok (.iconst 1, 1) := by decide +kernel
theorem dX1_pickPages_82 : decode cX1_pickPages 82 = .ok (.iload 6, 2) := by decide +kernel
theorem dX1_pickPages_84 : decode cX1_pickPages 84 = .ok (.ishl, 1) := by decide +kernel
theorem dX1_pickPages_85 : decode cX1_pickPages 85 = .ok (.ior, 1) := by decide +kernel
theorem dX1_pickPages_86 : decode cX1_pickPages 86 = .ok (.istore 4, 2) := by decide +kernel
theorem dX1_pickPages_88 : decode cX1_pickPages 88 = .ok (.iload_n 3, 1) := by decide +kernel
theorem dX1_pickPages_89 : decode cX1_pickPages 89 = .ok (.iload 5, 2) := by decide +kernel
theorem dX1_pickPages_91 : decode cX1_pickPages 91 = .ok (.isub, 1) := by decide +kernel
theorem dX1_pickPages_92 : decode cX1_pickPages 92 = .ok (.istore_n 3, 1) := by decide +kernel
theorem dX1_pickPages_93 : decode cX1_pickPages 93 = .ok (.iinc 6 1, 3) := by decide +kernel
theorem dX1_pickPages_96 : decode cX1_pickPages 96 = .ok (.goto (-70), 3) := by decide +kernel
theorem dX1_pickPages_99 : decode cX1_pickPages 99 = .ok (.iinc 5 1, 3) := by decide +kernel
theorem dX1_pickPages_102 : decode cX1_pickPages 102 = .ok (.goto (-86), 3) := by decide +kernel
theorem dX1_pickPages_105 : decode cX1_pickPages 105 = .ok (.iload 4, 2) := by decide +kernel
theorem dX1_pickPages_107 : decode cX1_pickPages 107 = .ok (.ireturn, 1) := by decide +kernel
def g_X1_pickPages_26 (o15 : Nat) (o16 : Option Nat) (x19 : Int32) : Nat → xm → Int32 → Int32 → Int32 → Option ((Int32 × Int32 × xm))
  | 0, _, _, _, _ => none
  | n + 1, M21, x17, x18, x20 => (if (8 : Int32) ≤ x20 then some ((x17, x18, M21)) else if xin x20 8 = true then (if (M21 (o15 + 5) (Int32.toNatClampNeg x20)) = x19 then (if x17 < x19 then xlet (x20 + (1 : Int32)) (fun v30 => g_X1_pickPages_26 o15 o16 x19 n M21 x17 x18 v30) else xb1 (f_X1_mayBeEmptied o15 M21 x20) (fun v32 => (if v32 = 0 then xlet (x20 + (1 : Int32)) (fun v35 => g_X1_pickPages_26 o15 o16 x19 n M21 x17 x18 v35) else xb2 (f_X3_picked o16 o15 M21 x20) (fun v37 M38 => (if v37 = 0 then xlet (x20 + (1 : Int32)) (fun v41 => g_X1_pickPages_26 o15 o16 x19 n M38 x17 x18 v41) else xlet (up2 M38 (o15 + 7) (Int32.toNatClampNeg x20) (2 : Int32)) (fun M42 => xlet (x18 ||| ((1 : Int32) <<< (x20 &&& 31))) (fun v43 => xlet (x17 - x19) (fun v44 => xlet (x20 + (1 : Int32)) (fun v45 => g_X1_pickPages_26 o15 o16 x19 n M42 v44 v43 v45))))))))) else xlet (x20 + (1 : Int32)) (fun v28 => g_X1_pickPages_26 o15 o16 x19 n M21 x17 x18 v28)) else none)
def g_X1_pickPages_16 (o6 : Nat) (o7 : Option Nat) : Nat → xm → Int32 → Int32 → Int32 → Option ((Int32 × xm))
  | 0, _, _, _, _ => none
  | n + 1, M11, x8, x9, x10 => (if (8 : Int32) < x10 then some ((x9, M11)) else xb3 (g_X1_pickPages_26 o6 o7 x10 xfuel M11 x8 x9 (0 : Int32)) (fun v46 v47 M48 => xlet (x10 + (1 : Int32)) (fun v49 => g_X1_pickPages_16 o6 o7 n M48 v46 v47 v49)))
def f_X1_pickPages (u0 : Nat) (u2 : Option Nat) (M : xm) : Option (Int32 × xm) := xb1 (f_X1_freePages u0 M) (fun v2 => xlet ((5 : Int32) * (f_J6_bitCount_0f7a4 v2)) (fun v5 => xb2 (g_X1_pickPages_16 u0 u2 xfuel M v5 (0 : Int32) (1 : Int32)) (fun v50 M51 => some (v50, M51))))
set_option maxHeartbeats 4000000 in
set_option maxRecDepth 20000 in
theorem j_X1_pickPages_26 {p : Program} {l : Launch} {e : Env} {s : State} {m : MethodId} {args : Array Value} {below : List Frame} {meth : Method} {c : Code} {Q : State → Prop} {E : xE} {b : Nat} (C : xC p s m args meth c cX1_pickPages 7 RX1 (some .int) E b) {o15 : Nat} (L_o15 : lat o15 pHeap) {o16 : Option Nat} (hQ_o16 : ∀ k, o16 = some k → lat k pText) (x19 : Int32) {y22 : Int32} {y23 : Int32} {y24 : xm}
    (kx0 : ∀ (H : Heap) (locs : List Loc) (ls : Array Slot), xM E b NX (cX E b y24) s.heap H locs → lv_has ls 7 [(0, .ref (b + o15)), (1, .ref (b + 1004)), (2, xrf b o16), (3, .int y22), (4, .int y23), (5, .int x19)] → W p l e (xR 5) s m args below meth c H locs 0 0 Q (F0 m 99 ls [])) :
    ∀ (n : Nat) (M21 : xm) (x17 : Int32) (x18 : Int32) (x20 : Int32) (H : Heap) (locs : List Loc) (ls : Array Slot), g_X1_pickPages_26 o15 o16 x19 n M21 x17 x18 x20 = some (y22, y23, y24) → xM E b NX (cX E b M21) s.heap H locs → lv_has ls 7 [(0, .ref (b + o15)), (1, .ref (b + 1004)), (2, xrf b o16), (3, .int x17), (4, .int x18), (5, .int x19), (6, .int x20)] → W p l e (xR 5) s m args below meth c H locs 0 0 Q (F0 m 26 ls []) := by
  have hx := C.1.1
  have hb := C.1.2.1
  intro n
  induction n with
  | zero =>
    intro M21 x17 x18 x20 H locs ls hf hm hl
    rw [g_X1_pickPages_26] at hf
    cases hf
  | succ n ih =>
    intro M21 x17 x18 x20 H locs ls hf hm hl
    rw [g_X1_pickPages_26] at hf
    refine lv_iload hx hb dX1_pickPages_26 (lv_at hl 6 rfl) ?_
    refine lv_bipush (v := (8 : Int32)) hx hb dX1_pickPages_28 (by decide) ?_
    refine lv_icmp_ge (tgt := 99) hx hb dX1_pickPages_30 (by decide) (fun hc25 => ?_) (fun hc25 => ?_)
    · have hf := xif_t hc25 hf
      cases hf
      exact kx0 H locs ls hm (lv_sub hl [0, 1, 2, 3, 4, 5] rfl)
    have hf := xif_f hc25 hf
    refine lv_aload_n hx hb dX1_pickPages_33 rfl (lv_at hl 0 rfl) ?_
    refine x_get C hm inX1 rfl 4 (by decide) tf_RX1_24 (cx_Heap (L_o15 0 _ rfl)) rfl dX1_pickPages_34 ?_
    refine lv_iload hx hb dX1_pickPages_37 (lv_at hl 6 rfl) ?_
    obtain ⟨hi26, hf⟩ := xif_s hf
    refine x_iald (j := (Int32.toNatClampNeg x20)) C hm (cx_I (L_o15 5 _ rfl)) hi26 dX1_pickPages_39 rfl ?_
    refine lv_iload hx hb dX1_pickPages_40 (lv_at hl 5 rfl) ?_
    refine lv_icmp_ne (tgt := 93) hx hb dX1_pickPages_42 (by decide) (fun hc27 => ?_) (fun hc27 => ?_)
    · have hf := xif_f hc27 hf
      obtain ⟨v28, ev28, hf⟩ := xlet_x hf
      refine lv_iinc (v := v28) (lv' := [(6, .int v28), (0, .ref (b + o15)), (1, .ref (b + 1004)), (2, xrf b o16), (3, .int x17), (4, .int x18), (5, .int x19)]) hx hb dX1_pickPages_93 hl (k := 6) rfl (by rw [ev28]; rfl) (by decide) (by cases o16 <;> rfl) (fun ls hl => ?_)
      refine lv_goto (tgt := 26) hx hb dX1_pickPages_96 (by decide) ?_
      exact ih M21 x17 x18 v28 H locs ls hf hm (lv_sub hl [1, 2, 3, 4, 5, 6, 0] rfl)
    have hf := xif_t hc27 hf
    refine lv_iload hx hb dX1_pickPages_45 (lv_at hl 5 rfl) ?_
    refine lv_iload_n hx hb dX1_pickPages_47 rfl (lv_at hl 3 rfl) ?_
    refine lv_icmp_gt (tgt := 93) hx hb dX1_pickPages_48 (by decide) (fun hc29 => ?_) (fun hc29 => ?_)
    · have hf := xif_t hc29 hf
      obtain ⟨v30, ev30, hf⟩ := xlet_x hf
      refine lv_iinc (v := v30) (lv' := [(6, .int v30), (0, .ref (b + o15)), (1, .ref (b + 1004)), (2, xrf b o16), (3, .int x17), (4, .int x18), (5, .int x19)]) hx hb dX1_pickPages_93 hl (k := 6) rfl (by rw [ev30]; rfl) (by decide) (by cases o16 <;> rfl) (fun ls hl => ?_)
      refine lv_goto (tgt := 26) hx hb dX1_pickPages_96 (by decide) ?_
      exact ih M21 x17 x18 v30 H locs ls hf hm (lv_sub hl [1, 2, 3, 4, 5, 6, 0] rfl)
    have hf := xif_f hc29 hf
    refine lv_aload_n hx hb dX1_pickPages_51 rfl (lv_at hl 0 rfl) ?_
    refine lv_iload hx hb dX1_pickPages_52 (lv_at hl 6 rfl) ?_
    obtain ⟨v32, hq31, hf⟩ := xb1_e hf
    refine x_callVi (As := [.int x20]) (rest := []) C hm (c_X1_mayBeEmptied l E b L_o15 M21 x20 hq31) rfl (cx_Heap (L_o15 0 _ rfl)) tc_X1_mayBeEmptied tm_RX1_174 ti_X1_mayBeEmptied ts_X1_mayBeEmptied tn_RX1 td_X1_mayBeEmptied rfl rfl ⟨Nat.le_of_ble_eq_true rfl, Nat.le_of_ble_eq_true rfl⟩ rfl hl.1 rfl (Nat.le_of_ble_eq_true rfl) ⟨Nat.zero_le _, Nat.zero_le _⟩ dX1_pickPages_54 (fun H locs hP33 hm => ?_)
    refine lv_if_eq (tgt := 93) hx hb dX1_pickPages_57 (by decide) (fun hc34 => ?_) (fun hc34 => ?_)
    · have hf := xif_t hc34 hf
      obtain ⟨v35, ev35, hf⟩ := xlet_x hf
      refine lv_iinc (v := v35) (lv' := [(6, .int v35), (0, .ref (b + o15)), (1, .ref (b + 1004)), (2, xrf b o16), (3, .int x17), (4, .int x18), (5, .int x19)]) hx hb dX1_pickPages_93 hl (k := 6) rfl (by rw [ev35]; rfl) (by decide) (by cases o16 <;> rfl) (fun ls hl => ?_)
      refine lv_goto (tgt := 26) hx hb dX1_pickPages_96 (by decide) ?_
      exact ih M21 x17 x18 v35 H locs ls hf hm (lv_sub hl [1, 2, 3, 4, 5, 6, 0] rfl)
    have hf := xif_f hc34 hf
    refine lv_aload_n hx hb dX1_pickPages_60 rfl (lv_at hl 1 rfl) ?_
    refine x_aloadQ_n (b := b) (o := o16) hx hb dX1_pickPages_61 rfl (lv_at hl 2 rfl) ?_
    refine lv_aload_n hx hb dX1_pickPages_62 rfl (lv_at hl 0 rfl) ?_
    refine lv_iload hx hb dX1_pickPages_63 (lv_at hl 6 rfl) ?_
    obtain ⟨v37, M38, hq36, hf⟩ := xb2_e hf
    refine x_callVi (As := [xrf b o16, .ref (b + o15), .int x20]) (rest := []) C hm (c_X3_picked l E b hQ_o16 L_o15 M21 x20 hq36) rfl (cx_Law (LX_law 0 _ rfl)) tc_X3_picked tm_RX1_183 ti_X3_picked ts_X3_picked tn_RX3 td_X3_picked rfl rfl ⟨Nat.le_of_ble_eq_true rfl, Nat.le_of_ble_eq_true rfl⟩ rfl hl.1 rfl (Nat.le_of_ble_eq_true rfl) ⟨Nat.zero_le _, Nat.zero_le _⟩ dX1_pickPages_65 (fun H locs hP39 hm => ?_)
    refine lv_if_eq (tgt := 93) hx hb dX1_pickPages_68 (by decide) (fun hc40 => ?_) (fun hc40 => ?_)
    · have hf := xif_t hc40 hf
      obtain ⟨v41, ev41, hf⟩ := xlet_x hf
      refine lv_iinc (v := v41) (lv' := [(6, .int v41), (0, .ref (b + o15)), (1, .ref (b + 1004)), (2, xrf b o16), (3, .int x17), (4, .int x18), (5, .int x19)]) hx hb dX1_pickPages_93 hl (k := 6) rfl (by rw [ev41]; rfl) (by decide) (by cases o16 <;> rfl) (fun ls hl => ?_)
      refine lv_goto (tgt := 26) hx hb dX1_pickPages_96 (by decide) ?_
      exact ih M38 x17 x18 v41 H locs ls hf hm (lv_sub hl [1, 2, 3, 4, 5, 6, 0] rfl)
    have hf := xif_f hc40 hf
    refine lv_aload_n hx hb dX1_pickPages_71 rfl (lv_at hl 0 rfl) ?_
    refine x_get C hm inX1 rfl 6 (by decide) tf_RX1_30 (cx_Heap (L_o15 0 _ rfl)) rfl dX1_pickPages_72 ?_
    refine lv_iload hx hb dX1_pickPages_75 (lv_at hl 6 rfl) ?_
    refine lv_iconst (v := (2 : Int32)) hx hb dX1_pickPages_77 (by decide) ?_
    obtain ⟨M42, eM42, hf⟩ := xlet_x hf
    refine x_iast (j := (Int32.toNatClampNeg x20)) (cf' := cX E b M42) C hm (cx_I (L_o15 7 _ rfl)) hi26 dX1_pickPages_78 rfl (by rw [eM42]; exact cu_I (L_o15 7 _ rfl)) (by rw [eM42]; exact cX_o) (fun H locs hm => ?_)
    refine lv_iload hx hb dX1_pickPages_79 (lv_at hl 4 rfl) ?_
    refine lv_iconst (v := (1 : Int32)) hx hb dX1_pickPages_81 (by decide) ?_
    refine lv_iload hx hb dX1_pickPages_82 (lv_at hl 6 rfl) ?_
    refine lv_ishl hx hb dX1_pickPages_84 ?_
    refine lv_ior hx hb dX1_pickPages_85 ?_
    refine lv_topi (fun v43 ev43 => ?_)
    have hf := xlet_e ev43 hf
    refine lv_istore (lv' := [(4, .int v43), (0, .ref (b + o15)), (1, .ref (b + 1004)), (2, xrf b o16), (3, .int x17), (5, .int x19), (6, .int x20)]) hx hb dX1_pickPages_86 hl (by decide) (by cases o16 <;> rfl) (fun ls hl => ?_)
    refine lv_iload_n hx hb dX1_pickPages_88 rfl (lv_at hl 4 rfl) ?_
    refine lv_iload hx hb dX1_pickPages_89 (lv_at hl 5 rfl) ?_
    refine lv_isub hx hb dX1_pickPages_91 ?_
    refine lv_topi (fun v44 ev44 => ?_)
    have hf := xlet_e ev44 hf
    refine lv_istore_n (lv' := [(3, .int v44), (4, .int v43), (0, .ref (b + o15)), (1, .ref (b + 1004)), (2, xrf b o16), (5, .int x19), (6, .int x20)]) hx hb dX1_pickPages_92 rfl hl (by decide) (by cases o16 <;> rfl) (fun ls hl => ?_)
    obtain ⟨v45, ev45, hf⟩ := xlet_x hf
    refine lv_iinc (v := v45) (lv' := [(6, .int v45), (3, .int v44), (4, .int v43), (0, .ref (b + o15)), (1, .ref (b + 1004)), (2, xrf b o16), (5, .int x19)]) hx hb dX1_pickPages_93 hl (k := 6) rfl (by rw [ev45]; rfl) (by decide) (by cases o16 <;> rfl) (fun ls hl => ?_)
    refine lv_goto (tgt := 26) hx hb dX1_pickPages_96 (by decide) ?_
    exact ih M42 v44 v43 v45 H locs ls hf hm (lv_sub hl [3, 4, 5, 1, 2, 6, 0] rfl)
set_option maxHeartbeats 4000000 in
set_option maxRecDepth 20000 in
theorem j_X1_pickPages_16 {p : Program} {l : Launch} {e : Env} {s : State} {m : MethodId} {args : Array Value} {below : List Frame} {meth : Method} {c : Code} {Q : State → Prop} {E : xE} {b : Nat} (C : xC p s m args meth c cX1_pickPages 7 RX1 (some .int) E b) {o6 : Nat} (L_o6 : lat o6 pHeap) {o7 : Option Nat} (hQ_o7 : ∀ k, o7 = some k → lat k pText) {y12 : Int32} {y13 : xm}
    (kx0 : ∀ (H : Heap) (locs : List Loc) (ls : Array Slot), xM E b NX (cX E b y13) s.heap H locs → lv_has ls 7 [(4, .int y12)] → W p l e (xR 5) s m args below meth c H locs 0 0 Q (F0 m 105 ls [])) :
    ∀ (n : Nat) (M11 : xm) (x8 : Int32) (x9 : Int32) (x10 : Int32) (H : Heap) (locs : List Loc) (ls : Array Slot), g_X1_pickPages_16 o6 o7 n M11 x8 x9 x10 = some (y12, y13) → xM E b NX (cX E b M11) s.heap H locs → lv_has ls 7 [(0, .ref (b + o6)), (1, .ref (b + 1004)), (2, xrf b o7), (3, .int x8), (4, .int x9), (5, .int x10)] → W p l e (xR 5) s m args below meth c H locs 0 0 Q (F0 m 16 ls []) := by
  have hx := C.1.1
  have hb := C.1.2.1
  intro n
  induction n with
  | zero =>
    intro M11 x8 x9 x10 H locs ls hf hm hl
    rw [g_X1_pickPages_16] at hf
    cases hf
  | succ n ih =>
    intro M11 x8 x9 x10 H locs ls hf hm hl
    rw [g_X1_pickPages_16] at hf
    refine lv_iload hx hb dX1_pickPages_16 (lv_at hl 5 rfl) ?_
    refine lv_bipush (v := (8 : Int32)) hx hb dX1_pickPages_18 (by decide) ?_
    refine lv_icmp_gt (tgt := 105) hx hb dX1_pickPages_20 (by decide) (fun hc14 => ?_) (fun hc14 => ?_)
    · have hf := xif_t hc14 hf
      cases hf
      exact kx0 H locs ls hm (lv_sub hl [4] rfl)
    have hf := xif_f hc14 hf
    refine lv_iconst (v := (0 : Int32)) hx hb dX1_pickPages_23 (by decide) ?_
    refine lv_istore (lv' := [(6, .int (0 : Int32)), (0, .ref (b + o6)), (1, .ref (b + 1004)), (2, xrf b o7), (3, .int x8), (4, .int x9), (5, .int x10)]) hx hb dX1_pickPages_24 hl (by decide) (by cases o7 <;> rfl) (fun ls hl => ?_)
    obtain ⟨v46, v47, M48, hq, hf⟩ := xb3_e hf
    refine j_X1_pickPages_26 C L_o6 hQ_o7 x10 (fun H locs ls hm hl => ?_) xfuel M11 x8 x9 (0 : Int32) H locs ls hq hm (lv_sub hl [1, 2, 3, 4, 5, 6, 0] rfl)
    obtain ⟨v49, ev49, hf⟩ := xlet_x hf
    refine lv_iinc (v := v49) (lv' := [(5, .int v49), (0, .ref (b + o6)), (1, .ref (b + 1004)), (2, xrf b o7), (3, .int v46), (4, .int v47)]) hx hb dX1_pickPages_99 hl (k := 5) rfl (by rw [ev49]; rfl) (by decide) (by cases o7 <;> rfl) (fun ls hl => ?_)
    refine lv_goto (tgt := 16) hx hb dX1_pickPages_102 (by decide) ?_
    exact ih M48 v46 v47 v49 H locs ls hf hm (lv_sub hl [1, 2, 3, 4, 5, 0] rfl)
set_option maxHeartbeats 4000000 in
set_option maxRecDepth 20000 in
theorem c_X1_pickPages (l : Launch) (E : xE) (b : Nat) {u0 : Nat} (L_u0 : lat u0 pHeap) {u2 : Option Nat} (hQ_u2 : ∀ k, u2 = some k → lat k pText) (M : xm) {r : Int32} {M' : xm} (hf : f_X1_pickPages u0 u2 M = some (r, M')) :
    xMet l E b NX yX1_pickPages cX1_pickPages 7 (some .int) (xR 5) [.ref (b + u0), .ref (b + 1004), xrf b u2] (cX E b M) (some (.int r)) True (cX E b M') := by
  refine xMet.ofW (own := RX1) (by decide) rfl (by cases u2 <;> exact Nat.le_of_ble_eq_true rfl) ?_
  intro p e s m below meth c H locs ls C hm hl
  have hx := C.1.1
  have hb := C.1.2.1
  have hl : lv_has ls 7 [(0, .ref (b + u0)), (1, .ref (b + 1004)), (2, xrf b u2)] := (by cases u2 <;> exact hl)
  unfold f_X1_pickPages at hf
  refine lv_iconst (v := (5 : Int32)) hx hb dX1_pickPages_0 (by decide) ?_
  refine lv_aload_n hx hb dX1_pickPages_1 rfl (lv_at hl 0 rfl) ?_
  obtain ⟨v2, hq1, hf⟩ := xb1_e hf
  refine x_callVi (As := []) (rest := [.int (5 : Int32)]) C hm (c_X1_freePages l E b L_u0 M hq1) rfl (cx_Heap (L_u0 0 _ rfl)) tc_X1_freePages tm_RX1_180 ti_X1_freePages ts_X1_freePages tn_RX1 td_X1_freePages rfl rfl ⟨Nat.le_of_ble_eq_true rfl, Nat.le_of_ble_eq_true rfl⟩ rfl hl.1 rfl (Nat.le_of_ble_eq_true rfl) ⟨Nat.zero_le _, Nat.zero_le _⟩ dX1_pickPages_2 (fun H locs hP3 hm => ?_)
  refine x_callSi (As := [.int v2]) (rest := [.int (5 : Int32)]) C hm (c_J6_bitCount_0f7a4 l E b M v2 rfl) tc_J6_bitCount_0f7a4 tm_RX1_169 tz_J6_bitCount_0f7a4 tn_RJ6 td_J6_bitCount_0f7a4 rfl rfl ⟨Nat.le_of_ble_eq_true rfl, Nat.le_of_ble_eq_true rfl⟩ rfl hl.1 rfl (Nat.le_of_ble_eq_true rfl) ⟨Nat.zero_le _, Nat.zero_le _⟩ dX1_pickPages_5 (fun H locs hP4 hm => ?_)
  refine lv_imul hx hb dX1_pickPages_8 ?_
  refine lv_topi (fun v5 ev5 => ?_)
  have hf := xlet_e ev5 hf
  refine lv_istore_n (lv' := [(3, .int v5), (0, .ref (b + u0)), (1, .ref (b + 1004)), (2, xrf b u2)]) hx hb dX1_pickPages_9 rfl hl (by decide) (by cases u2 <;> rfl) (fun ls hl => ?_)
  refine lv_iconst (v := (0 : Int32)) hx hb dX1_pickPages_10 (by decide) ?_
  refine lv_istore (lv' := [(4, .int (0 : Int32)), (3, .int v5), (0, .ref (b + u0)), (1, .ref (b + 1004)), (2, xrf b u2)]) hx hb dX1_pickPages_11 hl (by decide) (by cases u2 <;> rfl) (fun ls hl => ?_)
  refine lv_iconst (v := (1 : Int32)) hx hb dX1_pickPages_13 (by decide) ?_
  refine lv_istore (lv' := [(5, .int (1 : Int32)), (4, .int (0 : Int32)), (3, .int v5), (0, .ref (b + u0)), (1, .ref (b + 1004)), (2, xrf b u2)]) hx hb dX1_pickPages_14 hl (by decide) (by cases u2 <;> rfl) (fun ls hl => ?_)
  obtain ⟨v50, M51, hq, hf⟩ := xb2_e hf
  refine j_X1_pickPages_16 C L_u0 hQ_u2 (fun H locs ls hm hl => ?_) xfuel M v5 (0 : Int32) (1 : Int32) H locs ls hq hm (lv_sub hl [3, 4, 5, 2, 1, 0] rfl)
  refine lv_iload hx hb dX1_pickPages_105 (lv_at hl 0 rfl) ?_
  cases hf
  exact x_iret C hm trivial dX1_pickPages_107
/-! ColouredHeap$Heap.storeField(III)Z -/
theorem dX1_storeField_0 : decode cX1_storeField 0 = .ok (.aload_n 0, 1) := by decide +kernel
theorem dX1_storeField_1 : decode cX1_storeField 1 = .ok (.iload_n 1, 1) := by decide +kernel
theorem dX1_storeField_2 : decode cX1_storeField 2 = .ok (.iload_n 2, 1) := by decide +kernel
theorem dX1_storeField_3 : decode cX1_storeField 3 = .ok (.invokevirtual 150, 3) := by decide +kernel
theorem dX1_storeField_6 : decode cX1_storeField 6 = .ok (.istore 4, 2) := by decide +kernel
theorem dX1_storeField_8 : decode cX1_storeField 8 = .ok (.iload 4, 2) := by decide +kernel
theorem dX1_storeField_10 : decode cX1_storeField 10 = .ok (.invokestatic 90, 3) := by decide +kernel
theorem dX1_storeField_13 : decode cX1_storeField 13 = .ok (.ifCond .eq 10, 3) := by decide +kernel
theorem dX1_storeField_16 : decode cX1_storeField 16 = .ok (.iload_n 3, 1) := by decide +kernel
theorem dX1_storeField_17 : decode cX1_storeField 17 = .ok (.invokestatic 98, 3) := by decide +kernel
theorem dX1_storeField_20 : decode cX1_storeField 20 = .ok (.ifCond .ne 5, 3) := by decide +kernel
theorem dX1_storeField_23 : decode cX1_storeField 23 = .ok (.iconst 0, 1) := by decide +kernel
theorem dX1_storeField_24 : decode cX1_storeField 24 = .ok (.ireturn, 1) := by decide +kernel
theorem dX1_storeField_25 : decode cX1_storeField 25 = .ok (.aload_n 0, 1) := by decide +kernel
theorem dX1_storeField_26 : decode cX1_storeField 26 = .ok (.getfield 9, 3) := by decide +kernel
theorem dX1_storeField_29 : decode cX1_storeField 29 = .ok (.iload 4, 2) := by decide +kernel
theorem dX1_storeField_31 : decode cX1_storeField 31 = .ok (.aload_n 0, 1) := by decide +kernel
theorem dX1_storeField_32 : decode cX1_storeField 32 = .ok (.getfield 33, 3) := by decide +kernel
theorem dX1_storeField_35 : decode cX1_storeField 35 = .ok (.iload_n 3, 1) := by decide +kernel
theorem dX1_storeField_36 : decode cX1_storeField 36 = .ok (.iaload, 1) := by decide +kernel
theorem dX1_storeField_37 : decode cX1_storeField 37 = .ok (.iastore, 1) := by decide +kernel
theorem dX1_storeField_38 : decode cX1_storeField 38 = .ok (.iconst 1, 1) := by decide +kernel
theorem dX1_storeField_39 : decode cX1_storeField 39 = .ok (.ireturn, 1) := by decide +kernel
def f_X1_storeField (u0 : Nat) (M : xm) (a1 : Int32) (a2 : Int32) (a3 : Int32) : Option (Int32 × xm) := xb1 (f_X1_fieldWord u0 M a1 a2) (fun v2 => (if (f_X9_isAddress v2) = 0 then some ((0 : Int32), M) else (if (f_X9_isRoot a3) = 0 then some ((0 : Int32), M) else if xin a3 6 = true then if xin v2 64 = true then xlet (up2 M (u0 + 1) (Int32.toNatClampNeg v2) (M (u0 + 8) (Int32.toNatClampNeg a3))) (fun M10 => some ((1 : Int32), M10)) else none else none)))
set_option maxHeartbeats 4000000 in
set_option maxRecDepth 20000 in
theorem c_X1_storeField (l : Launch) (E : xE) (b : Nat) {u0 : Nat} (L_u0 : lat u0 pHeap) (M : xm) (a1 : Int32) (a2 : Int32) (a3 : Int32) {r : Int32} {M' : xm} (hf : f_X1_storeField u0 M a1 a2 a3 = some (r, M')) :
    xMet l E b NX yX1_storeField cX1_storeField 5 (some .boolean) (xR 4) [.ref (b + u0), .int a1, .int a2, .int a3] (cX E b M) (some (.int r)) (xbo r = true) (cX E b M') := by
  refine xMet.ofW (own := RX1) (by decide) rfl (Nat.le_of_ble_eq_true rfl) ?_
  intro p e s m below meth c H locs ls C hm hl
  have hx := C.1.1
  have hb := C.1.2.1
  have hl : lv_has ls 5 [(0, .ref (b + u0)), (1, .int a1), (2, .int a2), (3, .int a3)] := hl
  unfold f_X1_storeField at hf
  refine lv_aload_n hx hb dX1_storeField_0 rfl (lv_at hl 0 rfl) ?_
  refine lv_iload_n hx hb dX1_storeField_1 rfl (lv_at hl 1 rfl) ?_
  refine lv_iload_n hx hb dX1_storeField_2 rfl (lv_at hl 2 rfl) ?_
  obtain ⟨v2, hq1, hf⟩ := xb1_e hf
  refine x_callVi (As := [.int a1, .int a2]) (rest := []) C hm (c_X1_fieldWord l E b L_u0 M a1 a2 hq1) rfl (cx_Heap (L_u0 0 _ rfl)) tc_X1_fieldWord tm_RX1_150 ti_X1_fieldWord ts_X1_fieldWord tn_RX1 td_X1_fieldWord rfl rfl ⟨Nat.le_of_ble_eq_true rfl, Nat.le_of_ble_eq_true rfl⟩ rfl hl.1 rfl (Nat.le_of_ble_eq_true rfl) ⟨Nat.zero_le _, Nat.zero_le _⟩ dX1_storeField_3 (fun H locs hP3 hm => ?_)
  refine lv_istore (lv' := [(4, .int v2), (0, .ref (b + u0)), (1, .int a1), (2, .int a2), (3, .int a3)]) hx hb dX1_storeField_6 hl (by decide) rfl (fun ls hl => ?_)
  refine lv_iload hx hb dX1_storeField_8 (lv_at hl 0 rfl) ?_
  refine x_callSNi (As := [.int v2]) (rest := []) C hm (c_X9_isAddress l E b M v2 rfl) tc_X9_isAddress (by decide +kernel : (RX1, 90, yX9_isAddress, "ColouredHeap") ∈ xNest) tz_X9_isAddress tn_RX9 td_X9_isAddress rfl rfl ⟨Nat.le_of_ble_eq_true rfl, Nat.le_of_ble_eq_true rfl⟩ rfl hl.1 rfl (Nat.le_of_ble_eq_true rfl) ⟨Nat.zero_le _, Nat.zero_le _⟩ dX1_storeField_10 (fun H locs hP4 hm => ?_)
  refine lv_if_eq (tgt := 23) hx hb dX1_storeField_13 (by decide) (fun hc5 => ?_) (fun hc5 => ?_)
  · have hf := xif_t hc5 hf
    refine lv_iconst (v := (0 : Int32)) hx hb dX1_storeField_23 (by decide) ?_
    cases hf
    exact x_zret C hm (by decide) (by decide) dX1_storeField_24
  have hf := xif_f hc5 hf
  refine lv_iload_n hx hb dX1_storeField_16 rfl (lv_at hl 4 rfl) ?_
  refine x_callSNi (As := [.int a3]) (rest := []) C hm (c_X9_isRoot l E b M a3 rfl) tc_X9_isRoot (by decide +kernel : (RX1, 98, yX9_isRoot, "ColouredHeap") ∈ xNest) tz_X9_isRoot tn_RX9 td_X9_isRoot rfl rfl ⟨Nat.le_of_ble_eq_true rfl, Nat.le_of_ble_eq_true rfl⟩ rfl hl.1 rfl (Nat.le_of_ble_eq_true rfl) ⟨Nat.zero_le _, Nat.zero_le _⟩ dX1_storeField_17 (fun H locs hP6 hm => ?_)
  refine lv_if_ne (tgt := 25) hx hb dX1_storeField_20 (by decide) (fun hc7 => ?_) (fun hc7 => ?_)
  rotate_left
  · have hf := xif_t hc7 hf
    refine lv_iconst (v := (0 : Int32)) hx hb dX1_storeField_23 (by decide) ?_
    cases hf
    exact x_zret C hm (by decide) (by decide) dX1_storeField_24
  have hf := xif_f hc7 hf
  refine lv_aload_n hx hb dX1_storeField_25 rfl (lv_at hl 1 rfl) ?_
  refine x_get C hm inX1 rfl 0 (by decide) tf_RX1_9 (cx_Heap (L_u0 0 _ rfl)) rfl dX1_storeField_26 ?_
  refine lv_iload hx hb dX1_storeField_29 (lv_at hl 0 rfl) ?_
  refine lv_aload_n hx hb dX1_storeField_31 rfl (lv_at hl 1 rfl) ?_
  refine x_get C hm inX1 rfl 7 (by decide) tf_RX1_33 (cx_Heap (L_u0 0 _ rfl)) rfl dX1_storeField_32 ?_
  refine lv_iload_n hx hb dX1_storeField_35 rfl (lv_at hl 4 rfl) ?_
  obtain ⟨hi8, hf⟩ := xif_s hf
  refine x_iald (j := (Int32.toNatClampNeg a3)) C hm (cx_I (L_u0 8 _ rfl)) hi8 dX1_storeField_36 rfl ?_
  obtain ⟨hi9, hf⟩ := xif_s hf
  obtain ⟨M10, eM10, hf⟩ := xlet_x hf
  refine x_iast (j := (Int32.toNatClampNeg v2)) (cf' := cX E b M10) C hm (cx_I (L_u0 1 _ rfl)) hi9 dX1_storeField_37 rfl (by rw [eM10]; exact cu_I (L_u0 1 _ rfl)) (by rw [eM10]; exact cX_o) (fun H locs hm => ?_)
  refine lv_iconst (v := (1 : Int32)) hx hb dX1_storeField_38 (by decide) ?_
  cases hf
  exact x_zret C hm (by decide) (by decide) dX1_storeField_39
/-! ColouredHeap$Heap.takeOver(LColouredHeap$Heap;)V -/
theorem dX1_takeOver_0 : decode cX1_takeOver 0 = .ok (.aload_n 1, 1) := by decide +kernel
theorem dX1_takeOver_1 : decode cX1_takeOver 1 = .ok (.getfield 9, 3) := by decide +kernel
theorem dX1_takeOver_4 : decode cX1_takeOver 4 = .ok (.iconst 0, 1) := by decide +kernel
theorem dX1_takeOver_5 : decode cX1_takeOver 5 = .ok (.aload_n 0, 1) := by decide +kernel
theorem dX1_takeOver_6 : decode cX1_takeOver 6 = .ok (.getfield 9, 3) := by decide +kernel
theorem dX1_takeOver_9 : decode cX1_takeOver 9 = .ok (.iconst 0, 1) := by decide +kernel
theorem dX1_takeOver_10 : decode cX1_takeOver 10 = .ok (.bipush 64, 2) := by decide +kernel
theorem dX1_takeOver_12 : decode cX1_takeOver 12 = .ok (.invokestatic 80, 3) := by decide +kernel
theorem dX1_takeOver_15 : decode cX1_takeOver 15 = .ok (.aload_n 1, 1) := by decide +kernel
theorem dX1_takeOver_16 : decode cX1_takeOver 16 = .ok (.getfield 15, 3) := by decide +kernel
theorem dX1_takeOver_19 : decode cX1_takeOver 19 = .ok (.iconst 0, 1) := by decide +kernel
theorem dX1_takeOver_20 : decode cX1_takeOver 20 = .ok (.aload_n 0, 1) := by decide +kernel
theorem dX1_takeOver_21 : decode cX1_takeOver 21 = .ok (.getfield 15, 3) := by decide +kernel
theorem dX1_takeOver_24 : decode cX1_takeOver 24 = .ok (.iconst 0, 1) := by decide +kernel
theorem dX1_takeOver_25 : decode cX1_takeOver 25 = .ok (.bipush 64, 2) := by decide +kernel
theorem dX1_takeOver_27 : decode cX1_takeOver 27 = .ok (.invokestatic 80, 3) := by decide +kernel
theorem dX1_takeOver_30 : decode cX1_takeOver 30 = .ok (.aload_n 1, 1) := by decide +kernel
theorem dX1_takeOver_31 : decode cX1_takeOver 31 = .ok (.getfield 18, 3) := by decide +kernel
theorem dX1_takeOver_34 : decode cX1_takeOver 34 = .ok (.iconst 0, 1) := by decide +kernel
theorem dX1_takeOver_35 : decode cX1_takeOver 35 = .ok (.aload_n 0, 1) := by decide +kernel
theorem dX1_takeOver_36 : decode cX1_takeOver 36 = .ok (.getfield 18, 3) := by decide +kernel
theorem dX1_takeOver_39 : decode cX1_takeOver 39 = .ok (.iconst 0, 1) := by decide +kernel
theorem dX1_takeOver_40 : decode cX1_takeOver 40 = .ok (.bipush 64, 2) := by decide +kernel
theorem dX1_takeOver_42 : decode cX1_takeOver 42 = .ok (.invokestatic 80, 3) := by decide +kernel
theorem dX1_takeOver_45 : decode cX1_takeOver 45 = .ok (.aload_n 1, 1) := by decide +kernel
theorem dX1_takeOver_46 : decode cX1_takeOver 46 = .ok (.getfield 21, 3) := by decide +kernel
theorem dX1_takeOver_49 : decode cX1_takeOver 49 = .ok (.iconst 0, 1) := by decide +kernel
theorem dX1_takeOver_50 : decode cX1_takeOver 50 = .ok (.aload_n 0, 1) := by decide +kernel
theorem dX1_takeOver_51 : decode cX1_takeOver 51 = .ok (.getfield 21, 3) := by decide +kernel
theorem dX1_takeOver_54 : decode cX1_takeOver 54 = .ok (.iconst 0, 1) := by decide +kernel
theorem dX1_takeOver_55 : decode cX1_takeOver 55 = .ok (.bipush 64, 2) := by decide +kernel
theorem dX1_takeOver_57 : decode cX1_takeOver 57 = .ok (.invokestatic 80, 3) := by decide +kernel
theorem dX1_takeOver_60 : decode cX1_takeOver 60 = .ok (.aload_n 1, 1) := by decide +kernel
theorem dX1_takeOver_61 : decode cX1_takeOver 61 = .ok (.getfield 24, 3) := by decide +kernel
theorem dX1_takeOver_64 : decode cX1_takeOver 64 = .ok (.iconst 0, 1) := by decide +kernel
theorem dX1_takeOver_65 : decode cX1_takeOver 65 = .ok (.aload_n 0, 1) := by decide +kernel
theorem dX1_takeOver_66 : decode cX1_takeOver 66 = .ok (.getfield 24, 3) := by decide +kernel
theorem dX1_takeOver_69 : decode cX1_takeOver 69 = .ok (.iconst 0, 1) := by decide +kernel
theorem dX1_takeOver_70 : decode cX1_takeOver 70 = .ok (.bipush 8, 2) := by decide +kernel
theorem dX1_takeOver_72 : decode cX1_takeOver 72 = .ok (.invokestatic 80, 3) := by decide +kernel
theorem dX1_takeOver_75 : decode cX1_takeOver 75 = .ok (.aload_n 1, 1) := by decide +kernel
theorem dX1_takeOver_76 : decode cX1_takeOver 76 = .ok (.getfield 27, 3) := by decide +kernel
theorem dX1_takeOver_79 : decode cX1_takeOver 79 = .ok (.iconst 0, 1) := by decide +kernel
theorem dX1_takeOver_80 : decode cX1_takeOver 80 = .ok (.aload_n 0, 1) := by decide +kernel
theorem dX1_takeOver_81 : decode cX1_takeOver 81 = .ok (.getfield 27, 3) := by decide +kernel
theorem dX1_takeOver_84 : decode cX1_takeOver 84 = .ok (.iconst 0, 1) := by decide +kernel
theorem dX1_takeOver_85 : decode cX1_takeOver 85 = .ok (.bipush 8, 2) := by decide +kernel
theorem dX1_takeOver_87 : decode cX1_takeOver 87 = .ok (.invokestatic 80, 3) := by decide +kernel
theorem dX1_takeOver_90 : decode cX1_takeOver 90 = .ok (.aload_n 1, 1) := by decide +kernel
theorem dX1_takeOver_91 : decode cX1_takeOver 91 = .ok (.getfield 30, 3) := by decide +kernel
theorem dX1_takeOver_94 : decode cX1_takeOver 94 = .ok (.iconst 0, 1) := by decide +kernel
theorem dX1_takeOver_95 : decode cX1_takeOver 95 = .ok (.aload_n 0, 1) := by decide +kernel
theorem dX1_takeOver_96 : decode cX1_takeOver 96 = .ok (.getfield 30, 3) := by decide +kernel
theorem dX1_takeOver_99 : decode cX1_takeOver 99 = .ok (.iconst 0, 1) := by decide +kernel
theorem dX1_takeOver_100 : decode cX1_takeOver 100 = .ok (.bipush 8, 2) := by decide +kernel
theorem dX1_takeOver_102 : decode cX1_takeOver 102 = .ok (.invokestatic 80, 3) := by decide +kernel
theorem dX1_takeOver_105 : decode cX1_takeOver 105 = .ok (.aload_n 1, 1) := by decide +kernel
theorem dX1_takeOver_106 : decode cX1_takeOver 106 = .ok (.getfield 33, 3) := by decide +kernel
theorem dX1_takeOver_109 : decode cX1_takeOver 109 = .ok (.iconst 0, 1) := by decide +kernel
theorem dX1_takeOver_110 : decode cX1_takeOver 110 = .ok (.aload_n 0, 1) := by decide +kernel
theorem dX1_takeOver_111 : decode cX1_takeOver 111 = .ok (.getfield 33, 3) := by decide +kernel
theorem dX1_takeOver_114 : decode cX1_takeOver 114 = .ok (.iconst 0, 1) := by decide +kernel
theorem dX1_takeOver_115 : decode cX1_takeOver 115 = .ok (.bipush 6, 2) := by decide +kernel
theorem dX1_takeOver_117 : decode cX1_takeOver 117 = .ok (.invokestatic 80, 3) := by decide +kernel
theorem dX1_takeOver_120 : decode cX1_takeOver 120 = .ok (.aload_n 1, 1) := by decide +kernel
theorem dX1_takeOver_121 : decode cX1_takeOver 121 = .ok (.getfield 36, 3) := by decide +kernel
theorem dX1_takeOver_124 : decode cX1_takeOver 124 = .ok (.iconst 0, 1) := by decide +kernel
theorem dX1_takeOver_125 : decode cX1_takeOver 125 = .ok (.aload_n 0, 1) := by decide +kernel
theorem dX1_takeOver_126 : decode cX1_takeOver 126 = .ok (.getfield 36, 3) := by decide +kernel
theorem dX1_takeOver_129 : decode cX1_takeOver 129 = .ok (.iconst 0, 1) := by decide +kernel
theorem dX1_takeOver_130 : decode cX1_takeOver 130 = .ok (.iconst 2, 1) := by decide +kernel
theorem dX1_takeOver_131 : decode cX1_takeOver 131 = .ok (.invokestatic 80, 3) := by decide +kernel
theorem dX1_takeOver_134 : decode cX1_takeOver 134 = .ok (.aload_n 1, 1) := by decide +kernel
theorem dX1_takeOver_135 : decode cX1_takeOver 135 = .ok (.getfield 39, 3) := by decide +kernel
theorem dX1_takeOver_138 : decode cX1_takeOver 138 = .ok (.iconst 0, 1) := by decide +kernel
theorem dX1_takeOver_139 : decode cX1_takeOver 139 = .ok (.aload_n 0, 1) := by decide +kernel
theorem dX1_takeOver_140 : decode cX1_takeOver 140 = .ok (.getfield 39, 3) := by decide +kernel
theorem dX1_takeOver_143 : decode cX1_takeOver 143 = .ok (.iconst 0, 1) := by decide +kernel
theorem dX1_takeOver_144 : decode cX1_takeOver 144 = .ok (.iconst 2, 1) := by decide +kernel
theorem dX1_takeOver_145 : decode cX1_takeOver 145 = .ok (.invokestatic 80, 3) := by decide +kernel
theorem dX1_takeOver_148 : decode cX1_takeOver 148 = .ok (.aload_n 1, 1) := by decide +kernel
theorem dX1_takeOver_149 : decode cX1_takeOver 149 = .ok (.getfield 42, 3) := by decide +kernel
theorem dX1_takeOver_152 : decode cX1_takeOver 152 = .ok (.iconst 0, 1) := by decide +kernel
theorem dX1_takeOver_153 : decode cX1_takeOver 153 = .ok (.aload_n 0, 1) := by decide +kernel
theorem dX1_takeOver_154 : decode cX1_takeOver 154 = .ok (.getfield 42, 3) := by decide +kernel
theorem dX1_takeOver_157 : decode cX1_takeOver 157 = .ok (.iconst 0, 1) := by decide +kernel
theorem dX1_takeOver_158 : decode cX1_takeOver 158 = .ok (.iconst 2, 1) := by decide +kernel
theorem dX1_takeOver_159 : decode cX1_takeOver 159 = .ok (.invokestatic 80, 3) := by decide +kernel
theorem dX1_takeOver_162 : decode cX1_takeOver 162 = .ok (.aload_n 1, 1) := by decide +kernel
theorem dX1_takeOver_163 : decode cX1_takeOver 163 = .ok (.getfield 45, 3) := by decide +kernel
theorem dX1_takeOver_166 : decode cX1_takeOver 166 = .ok (.iconst 0, 1) := by decide +kernel
theorem dX1_takeOver_167 : decode cX1_takeOver 167 = .ok (.aload_n 0, 1) := by decide +kernel
theorem dX1_takeOver_168 : decode cX1_takeOver 168 = .ok (.getfield 45, 3) := by decide +kernel
theorem dX1_takeOver_171 : decode cX1_takeOver 171 = .ok (.iconst 0, 1) := by decide +kernel
theorem dX1_takeOver_172 : decode cX1_takeOver 172 = .ok (.iconst 2, 1) := by decide +kernel
theorem dX1_takeOver_173 : decode cX1_takeOver 173 = .ok (.invokestatic 80, 3) := by decide +kernel
theorem dX1_takeOver_176 : decode cX1_takeOver 176 = .ok (.aload_n 0, 1) := by decide +kernel
theorem dX1_takeOver_177 : decode cX1_takeOver 177 = .ok (.getfield 51, 3) := by decide +kernel
theorem dX1_takeOver_180 : decode cX1_takeOver 180 = .ok (.aload_n 1, 1) := by decide +kernel
theorem dX1_takeOver_181 : decode cX1_takeOver 181 = .ok (.getfield 51, 3) := by decide +kernel
theorem dX1_takeOver_184 : decode cX1_takeOver 184 = .ok (.invokevirtual 86, 3) := by decide +kernel
theorem dX1_takeOver_187 : decode cX1_takeOver 187 = .ok (.aload_n 0, 1) := by decide +kernel
theorem dX1_takeOver_188 : decode cX1_takeOver 188 = .ok (.aload_n 1, 1) := by decide +kernel
theorem dX1_takeOver_189 : decode cX1_takeOver 189 = .ok (.getfield 55, 3) := by decide +kernel
theorem dX1_takeOver_192 : decode cX1_takeOver 192 = .ok (.putfield 55, 3) := by decide +kernel
theorem dX1_takeOver_195 : decode cX1_takeOver 195 = .ok (.aload_n 0, 1) := by decide +kernel
theorem dX1_takeOver_196 : decode cX1_takeOver 196 = .ok (.aload_n 1, 1) := by decide +kernel
theorem dX1_takeOver_197 : decode cX1_takeOver 197 = .ok (.getfield 59, 3) := by decide +kernel
theorem dX1_takeOver_200 : decode cX1_takeOver 200 = .ok (.putfield 59, 3) := by decide +kernel
theorem dX1_takeOver_203 : decode cX1_takeOver 203 = .ok (.aload_n 0, 1) := by decide +kernel
theorem dX1_takeOver_204 : decode cX1_takeOver 204 = .ok (.aload_n 1, 1) := by decide +kernel
theorem dX1_takeOver_205 : decode cX1_takeOver 205 = .ok (.getfield 62, 3) := by decide +kernel
theorem dX1_takeOver_208 : decode cX1_takeOver 208 = .ok (.putfield 62, 3) := by decide +kernel
theorem dX1_takeOver_211 : decode cX1_takeOver 211 = .ok (.aload_n 0, 1) := by decide +kernel
theorem dX1_takeOver_212 : decode cX1_takeOver 212 = .ok (.aload_n 1, 1) := by decide +kernel
theorem dX1_takeOver_213 : decode cX1_takeOver 213 = .ok (.getfield 65, 3) := by decide +kernel
theorem dX1_takeOver_216 : decode cX1_takeOver 216 = .ok (.putfield 65, 3) := by decide +kernel
theorem dX1_takeOver_219 : decode cX1_takeOver 219 = .ok (.aload_n 0, 1) := by decide +kernel
theorem dX1_takeOver_220 : decode cX1_takeOver 220 = .ok (.aload_n 1, 1) := by decide +kernel
theorem dX1_takeOver_221 : decode cX1_takeOver 221 = .ok (.getfield 68, 3) := by decide +kernel
theorem dX1_takeOver_224 : decode cX1_takeOver 224 = .ok (.putfield 68, 3) := by decide +kernel
theorem dX1_takeOver_227 : decode cX1_takeOver 227 = .ok (.aload_n 0, 1) := by decide +kernel
theorem dX1_takeOver_228 : decode cX1_takeOver 228 = .ok (.aload_n 1, 1) := by decide +kernel
theorem dX1_takeOver_229 : decode cX1_takeOver 229 = .ok (.getfield 71, 3) := by decide +kernel
theorem dX1_takeOver_232 : decode cX1_takeOver 232 = .ok (.putfield 71, 3) := by decide +kernel
theorem dX1_takeOver_235 : decode cX1_takeOver 235 = .ok (.return_, 1) := by decide +kernel
def f_X1_takeOver (u0 : Nat) (u1 : Nat) (M : xm) : Option (xm) := xlet (xcopy M (u1 + 1) (u0 + 1) 64) (fun M1 => xlet (xcopy M1 (u1 + 2) (u0 + 2) 64) (fun M2 => xlet (xcopy M2 (u1 + 3) (u0 + 3) 64) (fun M3 => xlet (xcopy M3 (u1 + 4) (u0 + 4) 64) (fun M4 => xlet (xcopy M4 (u1 + 5) (u0 + 5) 8) (fun M5 => xlet (xcopy M5 (u1 + 6) (u0 + 6) 8) (fun M6 => xlet (xcopy M6 (u1 + 7) (u0 + 7) 8) (fun M7 => xlet (xcopy M7 (u1 + 8) (u0 + 8) 6) (fun M8 => xlet (xcopy M8 (u1 + 9) (u0 + 9) 2) (fun M9 => xlet (xcopy M9 (u1 + 10) (u0 + 10) 2) (fun M10 => xlet (xcopy M10 (u1 + 11) (u0 + 11) 2) (fun M11 => xlet (xcopy M11 (u1 + 12) (u0 + 12) 2) (fun M12 => xb1 (f_X0_takeOver (u0 + 13) (u1 + 13) M12) (fun M14 => xlet (up2 M14 u0 13 (M14 u1 13)) (fun M16 => xlet (up2 M16 u0 14 (M16 u1 14)) (fun M17 => xlet (up2 M17 u0 15 (M17 u1 15)) (fun M18 => xlet (up2 M18 u0 16 (M18 u1 16)) (fun M19 => xlet (up2 M19 u0 17 (M19 u1 17)) (fun M20 => xlet (up2 M20 u0 18 (M20 u1 18)) (fun M21 => some M21)))))))))))))))))))
set_option maxHeartbeats 4000000 in
set_option maxRecDepth 20000 in
theorem c_X1_takeOver (l : Launch) (E : xE) (b : Nat) {u0 : Nat} (L_u0 : lat u0 pHeap) {u1 : Nat} (L_u1 : lat u1 pHeap) (M : xm) {M' : xm} (hf : f_X1_takeOver u0 u1 M = some M') :
    xMet l E b NX yX1_takeOver cX1_takeOver 2 none (xR 3) [.ref (b + u0), .ref (b + u1)] (cX E b M) none True (cX E b M') := by
  refine xMet.ofW (own := RX1) (by decide) rfl (Nat.le_of_ble_eq_true rfl) ?_
  intro p e s m below meth c H locs ls C hm hl
  have hx := C.1.1
  have hb := C.1.2.1
  have hl : lv_has ls 2 [(0, .ref (b + u0)), (1, .ref (b + u1))] := hl
  unfold f_X1_takeOver at hf
  refine lv_aload_n hx hb dX1_takeOver_0 rfl (lv_at hl 1 rfl) ?_
  refine x_get C hm inX1 rfl 0 (by decide) tf_RX1_9 (cx_Heap (L_u1 0 _ rfl)) rfl dX1_takeOver_1 ?_
  refine lv_iconst (v := (0 : Int32)) hx hb dX1_takeOver_4 (by decide) ?_
  refine lv_aload_n hx hb dX1_takeOver_5 rfl (lv_at hl 0 rfl) ?_
  refine x_get C hm inX1 rfl 0 (by decide) tf_RX1_9 (cx_Heap (L_u0 0 _ rfl)) rfl dX1_takeOver_6 ?_
  refine lv_iconst (v := (0 : Int32)) hx hb dX1_takeOver_9 (by decide) ?_
  refine lv_bipush (v := (64 : Int32)) hx hb dX1_takeOver_10 (by decide) ?_
  obtain ⟨M1, eM1, hf⟩ := xlet_x hf
  refine x_copy (cf' := cX E b M1) C hm hl.1 (C.1.2.2.2.2 _ tm_RX1_80) (C.1.2.2.2.2 _ tv_arraycopy) (C.1.2.2.2.2 _ tz_arraycopy) (C.1.2.2.2.2 _ tn_System) (cx_I (L_u1 1 _ rfl)) (cx_I (L_u0 1 _ rfl)) (n := (64 : Int32)) (by decide) rfl (by decide) (by decide) (Nat.le_of_ble_eq_true rfl) (Nat.le_of_ble_eq_true rfl) dX1_takeOver_12 (by rw [eM1]; exact cc_I (L_u0 1 _ rfl)) (by rw [eM1]; exact cc_o) (fun H locs hm => ?_)
  refine lv_aload_n hx hb dX1_takeOver_15 rfl (lv_at hl 1 rfl) ?_
  refine x_get C hm inX1 rfl 1 (by decide) tf_RX1_15 (cx_Heap (L_u1 0 _ rfl)) rfl dX1_takeOver_16 ?_
  refine lv_iconst (v := (0 : Int32)) hx hb dX1_takeOver_19 (by decide) ?_
  refine lv_aload_n hx hb dX1_takeOver_20 rfl (lv_at hl 0 rfl) ?_
  refine x_get C hm inX1 rfl 1 (by decide) tf_RX1_15 (cx_Heap (L_u0 0 _ rfl)) rfl dX1_takeOver_21 ?_
  refine lv_iconst (v := (0 : Int32)) hx hb dX1_takeOver_24 (by decide) ?_
  refine lv_bipush (v := (64 : Int32)) hx hb dX1_takeOver_25 (by decide) ?_
  obtain ⟨M2, eM2, hf⟩ := xlet_x hf
  refine x_copy (cf' := cX E b M2) C hm hl.1 (C.1.2.2.2.2 _ tm_RX1_80) (C.1.2.2.2.2 _ tv_arraycopy) (C.1.2.2.2.2 _ tz_arraycopy) (C.1.2.2.2.2 _ tn_System) (cx_I (L_u1 2 _ rfl)) (cx_I (L_u0 2 _ rfl)) (n := (64 : Int32)) (by decide) rfl (by decide) (by decide) (Nat.le_of_ble_eq_true rfl) (Nat.le_of_ble_eq_true rfl) dX1_takeOver_27 (by rw [eM2]; exact cc_I (L_u0 2 _ rfl)) (by rw [eM2]; exact cc_o) (fun H locs hm => ?_)
  refine lv_aload_n hx hb dX1_takeOver_30 rfl (lv_at hl 1 rfl) ?_
  refine x_get C hm inX1 rfl 2 (by decide) tf_RX1_18 (cx_Heap (L_u1 0 _ rfl)) rfl dX1_takeOver_31 ?_
  refine lv_iconst (v := (0 : Int32)) hx hb dX1_takeOver_34 (by decide) ?_
  refine lv_aload_n hx hb dX1_takeOver_35 rfl (lv_at hl 0 rfl) ?_
  refine x_get C hm inX1 rfl 2 (by decide) tf_RX1_18 (cx_Heap (L_u0 0 _ rfl)) rfl dX1_takeOver_36 ?_
  refine lv_iconst (v := (0 : Int32)) hx hb dX1_takeOver_39 (by decide) ?_
  refine lv_bipush (v := (64 : Int32)) hx hb dX1_takeOver_40 (by decide) ?_
  obtain ⟨M3, eM3, hf⟩ := xlet_x hf
  refine x_copy (cf' := cX E b M3) C hm hl.1 (C.1.2.2.2.2 _ tm_RX1_80) (C.1.2.2.2.2 _ tv_arraycopy) (C.1.2.2.2.2 _ tz_arraycopy) (C.1.2.2.2.2 _ tn_System) (cx_I (L_u1 3 _ rfl)) (cx_I (L_u0 3 _ rfl)) (n := (64 : Int32)) (by decide) rfl (by decide) (by decide) (Nat.le_of_ble_eq_true rfl) (Nat.le_of_ble_eq_true rfl) dX1_takeOver_42 (by rw [eM3]; exact cc_I (L_u0 3 _ rfl)) (by rw [eM3]; exact cc_o) (fun H locs hm => ?_)
  refine lv_aload_n hx hb dX1_takeOver_45 rfl (lv_at hl 1 rfl) ?_
  refine x_get C hm inX1 rfl 3 (by decide) tf_RX1_21 (cx_Heap (L_u1 0 _ rfl)) rfl dX1_takeOver_46 ?_
  refine lv_iconst (v := (0 : Int32)) hx hb dX1_takeOver_49 (by decide) ?_
  refine lv_aload_n hx hb dX1_takeOver_50 rfl (lv_at hl 0 rfl) ?_
  refine x_get C hm inX1 rfl 3 (by decide) tf_RX1_21 (cx_Heap (L_u0 0 _ rfl)) rfl dX1_takeOver_51 ?_
  refine lv_iconst (v := (0 : Int32)) hx hb dX1_takeOver_54 (by decide) ?_
  refine lv_bipush (v := (64 : Int32)) hx hb dX1_takeOver_55 (by decide) ?_
  obtain ⟨M4, eM4, hf⟩ := xlet_x hf
  refine x_copy (cf' := cX E b M4) C hm hl.1 (C.1.2.2.2.2 _ tm_RX1_80) (C.1.2.2.2.2 _ tv_arraycopy) (C.1.2.2.2.2 _ tz_arraycopy) (C.1.2.2.2.2 _ tn_System) (cx_I (L_u1 4 _ rfl)) (cx_I (L_u0 4 _ rfl)) (n := (64 : Int32)) (by decide) rfl (by decide) (by decide) (Nat.le_of_ble_eq_true rfl) (Nat.le_of_ble_eq_true rfl) dX1_takeOver_57 (by rw [eM4]; exact cc_I (L_u0 4 _ rfl)) (by rw [eM4]; exact cc_o) (fun H locs hm => ?_)
  refine lv_aload_n hx hb dX1_takeOver_60 rfl (lv_at hl 1 rfl) ?_
  refine x_get C hm inX1 rfl 4 (by decide) tf_RX1_24 (cx_Heap (L_u1 0 _ rfl)) rfl dX1_takeOver_61 ?_
  refine lv_iconst (v := (0 : Int32)) hx hb dX1_takeOver_64 (by decide) ?_
  refine lv_aload_n hx hb dX1_takeOver_65 rfl (lv_at hl 0 rfl) ?_
  refine x_get C hm inX1 rfl 4 (by decide) tf_RX1_24 (cx_Heap (L_u0 0 _ rfl)) rfl dX1_takeOver_66 ?_
  refine lv_iconst (v := (0 : Int32)) hx hb dX1_takeOver_69 (by decide) ?_
  refine lv_bipush (v := (8 : Int32)) hx hb dX1_takeOver_70 (by decide) ?_
  obtain ⟨M5, eM5, hf⟩ := xlet_x hf
  refine x_copy (cf' := cX E b M5) C hm hl.1 (C.1.2.2.2.2 _ tm_RX1_80) (C.1.2.2.2.2 _ tv_arraycopy) (C.1.2.2.2.2 _ tz_arraycopy) (C.1.2.2.2.2 _ tn_System) (cx_I (L_u1 5 _ rfl)) (cx_I (L_u0 5 _ rfl)) (n := (8 : Int32)) (by decide) rfl (by decide) (by decide) (Nat.le_of_ble_eq_true rfl) (Nat.le_of_ble_eq_true rfl) dX1_takeOver_72 (by rw [eM5]; exact cc_I (L_u0 5 _ rfl)) (by rw [eM5]; exact cc_o) (fun H locs hm => ?_)
  refine lv_aload_n hx hb dX1_takeOver_75 rfl (lv_at hl 1 rfl) ?_
  refine x_get C hm inX1 rfl 5 (by decide) tf_RX1_27 (cx_Heap (L_u1 0 _ rfl)) rfl dX1_takeOver_76 ?_
  refine lv_iconst (v := (0 : Int32)) hx hb dX1_takeOver_79 (by decide) ?_
  refine lv_aload_n hx hb dX1_takeOver_80 rfl (lv_at hl 0 rfl) ?_
  refine x_get C hm inX1 rfl 5 (by decide) tf_RX1_27 (cx_Heap (L_u0 0 _ rfl)) rfl dX1_takeOver_81 ?_
  refine lv_iconst (v := (0 : Int32)) hx hb dX1_takeOver_84 (by decide) ?_
  refine lv_bipush (v := (8 : Int32)) hx hb dX1_takeOver_85 (by decide) ?_
  obtain ⟨M6, eM6, hf⟩ := xlet_x hf
  refine x_copy (cf' := cX E b M6) C hm hl.1 (C.1.2.2.2.2 _ tm_RX1_80) (C.1.2.2.2.2 _ tv_arraycopy) (C.1.2.2.2.2 _ tz_arraycopy) (C.1.2.2.2.2 _ tn_System) (cx_I (L_u1 6 _ rfl)) (cx_I (L_u0 6 _ rfl)) (n := (8 : Int32)) (by decide) rfl (by decide) (by decide) (Nat.le_of_ble_eq_true rfl) (Nat.le_of_ble_eq_true rfl) dX1_takeOver_87 (by rw [eM6]; exact cc_I (L_u0 6 _ rfl)) (by rw [eM6]; exact cc_o) (fun H locs hm => ?_)
  refine lv_aload_n hx hb dX1_takeOver_90 rfl (lv_at hl 1 rfl) ?_
  refine x_get C hm inX1 rfl 6 (by decide) tf_RX1_30 (cx_Heap (L_u1 0 _ rfl)) rfl dX1_takeOver_91 ?_
  refine lv_iconst (v := (0 : Int32)) hx hb dX1_takeOver_94 (by decide) ?_
  refine lv_aload_n hx hb dX1_takeOver_95 rfl (lv_at hl 0 rfl) ?_
  refine x_get C hm inX1 rfl 6 (by decide) tf_RX1_30 (cx_Heap (L_u0 0 _ rfl)) rfl dX1_takeOver_96 ?_
  refine lv_iconst (v := (0 : Int32)) hx hb dX1_takeOver_99 (by decide) ?_
  refine lv_bipush (v := (8 : Int32)) hx hb dX1_takeOver_100 (by decide) ?_
  obtain ⟨M7, eM7, hf⟩ := xlet_x hf
  refine x_copy (cf' := cX E b M7) C hm hl.1 (C.1.2.2.2.2 _ tm_RX1_80) (C.1.2.2.2.2 _ tv_arraycopy) (C.1.2.2.2.2 _ tz_arraycopy) (C.1.2.2.2.2 _ tn_System) (cx_I (L_u1 7 _ rfl)) (cx_I (L_u0 7 _ rfl)) (n := (8 : Int32)) (by decide) rfl (by decide) (by decide) (Nat.le_of_ble_eq_true rfl) (Nat.le_of_ble_eq_true rfl) dX1_takeOver_102 (by rw [eM7]; exact cc_I (L_u0 7 _ rfl)) (by rw [eM7]; exact cc_o) (fun H locs hm => ?_)
  refine lv_aload_n hx hb dX1_takeOver_105 rfl (lv_at hl 1 rfl) ?_
  refine x_get C hm inX1 rfl 7 (by decide) tf_RX1_33 (cx_Heap (L_u1 0 _ rfl)) rfl dX1_takeOver_106 ?_
  refine lv_iconst (v := (0 : Int32)) hx hb dX1_takeOver_109 (by decide) ?_
  refine lv_aload_n hx hb dX1_takeOver_110 rfl (lv_at hl 0 rfl) ?_
  refine x_get C hm inX1 rfl 7 (by decide) tf_RX1_33 (cx_Heap (L_u0 0 _ rfl)) rfl dX1_takeOver_111 ?_
  refine lv_iconst (v := (0 : Int32)) hx hb dX1_takeOver_114 (by decide) ?_
  refine lv_bipush (v := (6 : Int32)) hx hb dX1_takeOver_115 (by decide) ?_
  obtain ⟨M8, eM8, hf⟩ := xlet_x hf
  refine x_copy (cf' := cX E b M8) C hm hl.1 (C.1.2.2.2.2 _ tm_RX1_80) (C.1.2.2.2.2 _ tv_arraycopy) (C.1.2.2.2.2 _ tz_arraycopy) (C.1.2.2.2.2 _ tn_System) (cx_I (L_u1 8 _ rfl)) (cx_I (L_u0 8 _ rfl)) (n := (6 : Int32)) (by decide) rfl (by decide) (by decide) (Nat.le_of_ble_eq_true rfl) (Nat.le_of_ble_eq_true rfl) dX1_takeOver_117 (by rw [eM8]; exact cc_I (L_u0 8 _ rfl)) (by rw [eM8]; exact cc_o) (fun H locs hm => ?_)
  refine lv_aload_n hx hb dX1_takeOver_120 rfl (lv_at hl 1 rfl) ?_
  refine x_get C hm inX1 rfl 8 (by decide) tf_RX1_36 (cx_Heap (L_u1 0 _ rfl)) rfl dX1_takeOver_121 ?_
  refine lv_iconst (v := (0 : Int32)) hx hb dX1_takeOver_124 (by decide) ?_
  refine lv_aload_n hx hb dX1_takeOver_125 rfl (lv_at hl 0 rfl) ?_
  refine x_get C hm inX1 rfl 8 (by decide) tf_RX1_36 (cx_Heap (L_u0 0 _ rfl)) rfl dX1_takeOver_126 ?_
  refine lv_iconst (v := (0 : Int32)) hx hb dX1_takeOver_129 (by decide) ?_
  refine lv_iconst (v := (2 : Int32)) hx hb dX1_takeOver_130 (by decide) ?_
  obtain ⟨M9, eM9, hf⟩ := xlet_x hf
  refine x_copy (cf' := cX E b M9) C hm hl.1 (C.1.2.2.2.2 _ tm_RX1_80) (C.1.2.2.2.2 _ tv_arraycopy) (C.1.2.2.2.2 _ tz_arraycopy) (C.1.2.2.2.2 _ tn_System) (cx_I (L_u1 9 _ rfl)) (cx_I (L_u0 9 _ rfl)) (n := (2 : Int32)) (by decide) rfl (by decide) (by decide) (Nat.le_of_ble_eq_true rfl) (Nat.le_of_ble_eq_true rfl) dX1_takeOver_131 (by rw [eM9]; exact cc_I (L_u0 9 _ rfl)) (by rw [eM9]; exact cc_o) (fun H locs hm => ?_)
  refine lv_aload_n hx hb dX1_takeOver_134 rfl (lv_at hl 1 rfl) ?_
  refine x_get C hm inX1 rfl 9 (by decide) tf_RX1_39 (cx_Heap (L_u1 0 _ rfl)) rfl dX1_takeOver_135 ?_
  refine lv_iconst (v := (0 : Int32)) hx hb dX1_takeOver_138 (by decide) ?_
  refine lv_aload_n hx hb dX1_takeOver_139 rfl (lv_at hl 0 rfl) ?_
  refine x_get C hm inX1 rfl 9 (by decide) tf_RX1_39 (cx_Heap (L_u0 0 _ rfl)) rfl dX1_takeOver_140 ?_
  refine lv_iconst (v := (0 : Int32)) hx hb dX1_takeOver_143 (by decide) ?_
  refine lv_iconst (v := (2 : Int32)) hx hb dX1_takeOver_144 (by decide) ?_
  obtain ⟨M10, eM10, hf⟩ := xlet_x hf
  refine x_copy (cf' := cX E b M10) C hm hl.1 (C.1.2.2.2.2 _ tm_RX1_80) (C.1.2.2.2.2 _ tv_arraycopy) (C.1.2.2.2.2 _ tz_arraycopy) (C.1.2.2.2.2 _ tn_System) (cx_I (L_u1 10 _ rfl)) (cx_I (L_u0 10 _ rfl)) (n := (2 : Int32)) (by decide) rfl (by decide) (by decide) (Nat.le_of_ble_eq_true rfl) (Nat.le_of_ble_eq_true rfl) dX1_takeOver_145 (by rw [eM10]; exact cc_I (L_u0 10 _ rfl)) (by rw [eM10]; exact cc_o) (fun H locs hm => ?_)
  refine lv_aload_n hx hb dX1_takeOver_148 rfl (lv_at hl 1 rfl) ?_
  refine x_get C hm inX1 rfl 10 (by decide) tf_RX1_42 (cx_Heap (L_u1 0 _ rfl)) rfl dX1_takeOver_149 ?_
  refine lv_iconst (v := (0 : Int32)) hx hb dX1_takeOver_152 (by decide) ?_
  refine lv_aload_n hx hb dX1_takeOver_153 rfl (lv_at hl 0 rfl) ?_
  refine x_get C hm inX1 rfl 10 (by decide) tf_RX1_42 (cx_Heap (L_u0 0 _ rfl)) rfl dX1_takeOver_154 ?_
  refine lv_iconst (v := (0 : Int32)) hx hb dX1_takeOver_157 (by decide) ?_
  refine lv_iconst (v := (2 : Int32)) hx hb dX1_takeOver_158 (by decide) ?_
  obtain ⟨M11, eM11, hf⟩ := xlet_x hf
  refine x_copy (cf' := cX E b M11) C hm hl.1 (C.1.2.2.2.2 _ tm_RX1_80) (C.1.2.2.2.2 _ tv_arraycopy) (C.1.2.2.2.2 _ tz_arraycopy) (C.1.2.2.2.2 _ tn_System) (cx_I (L_u1 11 _ rfl)) (cx_I (L_u0 11 _ rfl)) (n := (2 : Int32)) (by decide) rfl (by decide) (by decide) (Nat.le_of_ble_eq_true rfl) (Nat.le_of_ble_eq_true rfl) dX1_takeOver_159 (by rw [eM11]; exact cc_I (L_u0 11 _ rfl)) (by rw [eM11]; exact cc_o) (fun H locs hm => ?_)
  refine lv_aload_n hx hb dX1_takeOver_162 rfl (lv_at hl 1 rfl) ?_
  refine x_get C hm inX1 rfl 11 (by decide) tf_RX1_45 (cx_Heap (L_u1 0 _ rfl)) rfl dX1_takeOver_163 ?_
  refine lv_iconst (v := (0 : Int32)) hx hb dX1_takeOver_166 (by decide) ?_
  refine lv_aload_n hx hb dX1_takeOver_167 rfl (lv_at hl 0 rfl) ?_
  refine x_get C hm inX1 rfl 11 (by decide) tf_RX1_45 (cx_Heap (L_u0 0 _ rfl)) rfl dX1_takeOver_168 ?_
  refine lv_iconst (v := (0 : Int32)) hx hb dX1_takeOver_171 (by decide) ?_
  refine lv_iconst (v := (2 : Int32)) hx hb dX1_takeOver_172 (by decide) ?_
  obtain ⟨M12, eM12, hf⟩ := xlet_x hf
  refine x_copy (cf' := cX E b M12) C hm hl.1 (C.1.2.2.2.2 _ tm_RX1_80) (C.1.2.2.2.2 _ tv_arraycopy) (C.1.2.2.2.2 _ tz_arraycopy) (C.1.2.2.2.2 _ tn_System) (cx_I (L_u1 12 _ rfl)) (cx_I (L_u0 12 _ rfl)) (n := (2 : Int32)) (by decide) rfl (by decide) (by decide) (Nat.le_of_ble_eq_true rfl) (Nat.le_of_ble_eq_true rfl) dX1_takeOver_173 (by rw [eM12]; exact cc_I (L_u0 12 _ rfl)) (by rw [eM12]; exact cc_o) (fun H locs hm => ?_)
  refine lv_aload_n hx hb dX1_takeOver_176 rfl (lv_at hl 0 rfl) ?_
  refine x_get C hm inX1 rfl 12 (by decide) tf_RX1_51 (cx_Heap (L_u0 0 _ rfl)) rfl dX1_takeOver_177 ?_
  refine lv_aload_n hx hb dX1_takeOver_180 rfl (lv_at hl 1 rfl) ?_
  refine x_get C hm inX1 rfl 12 (by decide) tf_RX1_51 (cx_Heap (L_u1 0 _ rfl)) rfl dX1_takeOver_181 ?_
  obtain ⟨M14, hq13, hf⟩ := xb1_e hf
  refine x_callVv (As := [.ref (b + (u1 + 13))]) (rest := []) C hm (c_X0_takeOver l E b (lat_book L_u0) (lat_book L_u1) M12 hq13) rfl (cx_Book ((lat_book L_u0) 0 _ rfl)) tc_X0_takeOver tm_RX1_86 ti_X0_takeOver ts_X0_takeOver tn_RX0 td_X0_takeOver rfl rfl ⟨Nat.le_of_ble_eq_true rfl, Nat.le_of_ble_eq_true rfl⟩ rfl hl.1 rfl (Nat.le_of_ble_eq_true rfl) ⟨Nat.zero_le _, Nat.zero_le _⟩ dX1_takeOver_184 (fun H locs hP15 hm => ?_)
  refine lv_aload_n hx hb dX1_takeOver_187 rfl (lv_at hl 0 rfl) ?_
  refine lv_aload_n hx hb dX1_takeOver_188 rfl (lv_at hl 1 rfl) ?_
  refine x_get C hm inX1 rfl 13 (by decide) tf_RX1_55 (cx_Heap (L_u1 0 _ rfl)) rfl dX1_takeOver_189 ?_
  obtain ⟨M16, eM16, hf⟩ := xlet_x hf
  refine x_put (cf' := cX E b M16) C hm inX1 tyX1 tyX1_ok nmX1 rfl 13 (by decide) tf_RX1_55 rfl rfl rfl (cx_Heap (L_u0 0 _ rfl)) (Nat.le_of_ble_eq_true rfl) (by rw [eM16]; exact cu_Heap_13 (L_u0 0 _ rfl)) (by rw [eM16]; exact cX_o) dX1_takeOver_192 (fun H locs hm => ?_)
  refine lv_aload_n hx hb dX1_takeOver_195 rfl (lv_at hl 0 rfl) ?_
  refine lv_aload_n hx hb dX1_takeOver_196 rfl (lv_at hl 1 rfl) ?_
  refine x_get C hm inX1 rfl 14 (by decide) tf_RX1_59 (cx_Heap (L_u1 0 _ rfl)) rfl dX1_takeOver_197 ?_
  obtain ⟨M17, eM17, hf⟩ := xlet_x hf
  refine x_put (cf' := cX E b M17) C hm inX1 tyX1 tyX1_ok nmX1 rfl 14 (by decide) tf_RX1_59 rfl rfl rfl (cx_Heap (L_u0 0 _ rfl)) (Nat.le_of_ble_eq_true rfl) (by rw [eM17]; exact cu_Heap_14 (L_u0 0 _ rfl)) (by rw [eM17]; exact cX_o) dX1_takeOver_200 (fun H locs hm => ?_)
  refine lv_aload_n hx hb dX1_takeOver_203 rfl (lv_at hl 0 rfl) ?_
  refine lv_aload_n hx hb dX1_takeOver_204 rfl (lv_at hl 1 rfl) ?_
  refine x_get C hm inX1 rfl 15 (by decide) tf_RX1_62 (cx_Heap (L_u1 0 _ rfl)) rfl dX1_takeOver_205 ?_
  obtain ⟨M18, eM18, hf⟩ := xlet_x hf
  refine x_put (cf' := cX E b M18) C hm inX1 tyX1 tyX1_ok nmX1 rfl 15 (by decide) tf_RX1_62 rfl rfl rfl (cx_Heap (L_u0 0 _ rfl)) (Nat.le_of_ble_eq_true rfl) (by rw [eM18]; exact cu_Heap_15 (L_u0 0 _ rfl)) (by rw [eM18]; exact cX_o) dX1_takeOver_208 (fun H locs hm => ?_)
  refine lv_aload_n hx hb dX1_takeOver_211 rfl (lv_at hl 0 rfl) ?_
  refine lv_aload_n hx hb dX1_takeOver_212 rfl (lv_at hl 1 rfl) ?_
  refine x_get C hm inX1 rfl 16 (by decide) tf_RX1_65 (cx_Heap (L_u1 0 _ rfl)) rfl dX1_takeOver_213 ?_
  obtain ⟨M19, eM19, hf⟩ := xlet_x hf
  refine x_put (cf' := cX E b M19) C hm inX1 tyX1 tyX1_ok nmX1 rfl 16 (by decide) tf_RX1_65 rfl rfl rfl (cx_Heap (L_u0 0 _ rfl)) (Nat.le_of_ble_eq_true rfl) (by rw [eM19]; exact cu_Heap_16 (L_u0 0 _ rfl)) (by rw [eM19]; exact cX_o) dX1_takeOver_216 (fun H locs hm => ?_)
  refine lv_aload_n hx hb dX1_takeOver_219 rfl (lv_at hl 0 rfl) ?_
  refine lv_aload_n hx hb dX1_takeOver_220 rfl (lv_at hl 1 rfl) ?_
  refine x_get C hm inX1 rfl 17 (by decide) tf_RX1_68 (cx_Heap (L_u1 0 _ rfl)) rfl dX1_takeOver_221 ?_
  obtain ⟨M20, eM20, hf⟩ := xlet_x hf
  refine x_put (cf' := cX E b M20) C hm inX1 tyX1 tyX1_ok nmX1 rfl 17 (by decide) tf_RX1_68 rfl rfl rfl (cx_Heap (L_u0 0 _ rfl)) (Nat.le_of_ble_eq_true rfl) (by rw [eM20]; exact cu_Heap_17 (L_u0 0 _ rfl)) (by rw [eM20]; exact cX_o) dX1_takeOver_224 (fun H locs hm => ?_)
  refine lv_aload_n hx hb dX1_takeOver_227 rfl (lv_at hl 0 rfl) ?_
  refine lv_aload_n hx hb dX1_takeOver_228 rfl (lv_at hl 1 rfl) ?_
  refine x_get C hm inX1 rfl 18 (by decide) tf_RX1_71 (cx_Heap (L_u1 0 _ rfl)) rfl dX1_takeOver_229 ?_
  obtain ⟨M21, eM21, hf⟩ := xlet_x hf
  refine x_put (cf' := cX E b M21) C hm inX1 tyX1 tyX1_ok nmX1 rfl 18 (by decide) tf_RX1_71 rfl rfl rfl (cx_Heap (L_u0 0 _ rfl)) (Nat.le_of_ble_eq_true rfl) (by rw [eM21]; exact cu_Heap_18 (L_u0 0 _ rfl)) (by rw [eM21]; exact cX_o) dX1_takeOver_232 (fun H locs hm => ?_)
  cases hf
  exact x_vret C hm trivial dX1_takeOver_235
/-! ColouredHeap$Heap.turnToMarking()V -/
theorem dX1_turnToMarking_0 : decode cX1_turnToMarking 0 = .ok (.aload_n 0, 1) := by decide +kernel
theorem dX1_turnToMarking_1 : decode cX1_turnToMarking 1 = .ok (.iconst 1, 1) := by decide +kernel
theorem dX1_turnToMarking_2 : decode cX1_turnToMarking 2 = .ok (.aload_n 0, 1) := by decide +kernel
theorem dX1_turnToMarking_3 : decode cX1_turnToMarking 3 = .ok (.getfield 65, 3) := by decide +kernel
theorem dX1_turnToMarking_6 : decode cX1_turnToMarking 6 = .ok (.isub, 1) := by decide +kernel
theorem dX1_turnToMarking_7 : decode cX1_turnToMarking 7 = .ok (.putfield 65, 3) := by decide +kernel
theorem dX1_turnToMarking_10 : decode cX1_turnToMarking 10 = .ok (.aload_n 0, 1) := by decide +kernel
theorem dX1_turnToMarking_11 : decode cX1_turnToMarking 11 = .ok (.aload_n 0, 1) := by decide +kernel
theorem dX1_turnToMarking_12 : decode cX1_turnToMarking 12 = .ok (.getfield 65, 3) := by decide +kernel
theorem dX1_turnToMarking_15 : decode cX1_turnToMarking 15 = .ok (.putfield 62, 3) := by decide +kernel
theorem dX1_turnToMarking_18 : decode cX1_turnToMarking 18 = .ok (.aload_n 0, 1) := by decide +kernel
theorem dX1_turnToMarking_19 : decode cX1_turnToMarking 19 = .ok (.iconst 1, 1) := by decide +kernel
theorem dX1_turnToMarking_20 : decode cX1_turnToMarking 20 = .ok (.putfield 59, 3) := by decide +kernel
theorem dX1_turnToMarking_23 : decode cX1_turnToMarking 23 = .ok (.aload_n 0, 1) := by decide +kernel
theorem dX1_turnToMarking_24 : decode cX1_turnToMarking 24 = .ok (.getfield 18, 3) := by decide +kernel
theorem dX1_turnToMarking_27 : decode cX1_turnToMarking 27 = .ok (.iconst 0, 1) := by decide +kernel
theorem dX1_turnToMarking_28 : decode cX1_turnToMarking 28 = .ok (.invokestatic 74, 3) := by decide +kernel
theorem dX1_turnToMarking_31 : decode cX1_turnToMarking 31 = .ok (.aload_n 0, 1) := by decide +kernel
theorem dX1_turnToMarking_32 : decode cX1_turnToMarking 32 = .ok (.getfield 24, 3) := by decide +kernel
theorem dX1_turnToMarking_35 : decode cX1_turnToMarking 35 = .ok (.iconst 0, 1) := by decide +kernel
theorem dX1_turnToMarking_36 : decode cX1_turnToMarking 36 = .ok (.invokestatic 74, 3) := by decide +kernel
theorem dX1_turnToMarking_39 : decode cX1_turnToMarking 39 = .ok (.aload_n 0, 1) := by decide +kernel
theorem dX1_turnToMarking_40 : decode cX1_turnToMarking 40 = .ok (.iconst 0, 1) := by decide +kernel
theorem dX1_turnToMarking_41 : decode cX1_turnToMarking 41 = .ok (.putfield 55, 3) := by decide +kernel
theorem dX1_turnToMarking_44 : decode cX1_turnToMarking 44 = .ok (.aload_n 0, 1) := by decide +kernel
theorem dX1_turnToMarking_45 : decode cX1_turnToMarking 45 = .ok (.getfield 51, 3) := by decide +kernel
theorem dX1_turnToMarking_48 : decode cX1_turnToMarking 48 = .ok (.aload_n 0, 1) := by decide +kernel
theorem dX1_turnToMarking_49 : decode cX1_turnToMarking 49 = .ok (.getfield 68, 3) := by decide +kernel
theorem dX1_turnToMarking_52 : decode cX1_turnToMarking 52 = .ok (.iconst 1, 1) := by decide +kernel
theorem dX1_turnToMarking_53 : decode cX1_turnToMarking 53 = .ok (.aload_n 0, 1) := by decide +kernel
theorem dX1_turnToMarking_54 : decode cX1_turnToMarking 54 = .ok (.getfield 62, 3) := by decide +kernel
theorem dX1_turnToMarking_57 : decode cX1_turnToMarking 57 = .ok (.invokevirtual 121, 3) := by decide +kernel
theorem dX1_turnToMarking_60 : decode cX1_turnToMarking 60 = .ok (.return_, 1) := by decide +kernel
def f_X1_turnToMarking (u0 : Nat) (M : xm) : Option (xm) := xlet (up2 M u0 16 ((1 : Int32) - (M u0 16))) (fun M1 => xlet (up2 M1 u0 15 (M1 u0 16)) (fun M2 => xlet (up2 M2 u0 14 (1 : Int32)) (fun M3 => xb1 (f_J7_fill_53178 (u0 + 3) 64 M3 (0 : Int32)) (fun M5 => xb1 (f_J7_fill_53178 (u0 + 5) 8 M5 (0 : Int32)) (fun M8 => xlet (up2 M8 u0 13 (0 : Int32)) (fun M10 => xb1 (f_X0_write (u0 + 13) M10 (M10 u0 17) (1 : Int32) (M10 u0 15)) (fun M12 => some M12)))))))
set_option maxHeartbeats 4000000 in
set_option maxRecDepth 20000 in
theorem c_X1_turnToMarking (l : Launch) (E : xE) (b : Nat) {u0 : Nat} (L_u0 : lat u0 pHeap) (M : xm) {M' : xm} (hf : f_X1_turnToMarking u0 M = some M') :
    xMet l E b NX yX1_turnToMarking cX1_turnToMarking 1 none (xR 2) [.ref (b + u0)] (cX E b M) none True (cX E b M') := by
  refine xMet.ofW (own := RX1) (by decide) rfl (Nat.le_of_ble_eq_true rfl) ?_
  intro p e s m below meth c H locs ls C hm hl
  have hx := C.1.1
  have hb := C.1.2.1
  have hl : lv_has ls 1 [(0, .ref (b + u0))] := hl
  unfold f_X1_turnToMarking at hf
  refine lv_aload_n hx hb dX1_turnToMarking_0 rfl (lv_at hl 0 rfl) ?_
  refine lv_iconst (v := (1 : Int32)) hx hb dX1_turnToMarking_1 (by decide) ?_
  refine lv_aload_n hx hb dX1_turnToMarking_2 rfl (lv_at hl 0 rfl) ?_
  refine x_get C hm inX1 rfl 16 (by decide) tf_RX1_65 (cx_Heap (L_u0 0 _ rfl)) rfl dX1_turnToMarking_3 ?_
  refine lv_isub hx hb dX1_turnToMarking_6 ?_
  obtain ⟨M1, eM1, hf⟩ := xlet_x hf
  refine x_put (cf' := cX E b M1) C hm inX1 tyX1 tyX1_ok nmX1 rfl 16 (by decide) tf_RX1_65 rfl rfl rfl (cx_Heap (L_u0 0 _ rfl)) (Nat.le_of_ble_eq_true rfl) (by rw [eM1]; exact cu_Heap_16 (L_u0 0 _ rfl)) (by rw [eM1]; exact cX_o) dX1_turnToMarking_7 (fun H locs hm => ?_)
  refine lv_aload_n hx hb dX1_turnToMarking_10 rfl (lv_at hl 0 rfl) ?_
  refine lv_aload_n hx hb dX1_turnToMarking_11 rfl (lv_at hl 0 rfl) ?_
  refine x_get C hm inX1 rfl 16 (by decide) tf_RX1_65 (cx_Heap (L_u0 0 _ rfl)) rfl dX1_turnToMarking_12 ?_
  obtain ⟨M2, eM2, hf⟩ := xlet_x hf
  refine x_put (cf' := cX E b M2) C hm inX1 tyX1 tyX1_ok nmX1 rfl 15 (by decide) tf_RX1_62 rfl rfl rfl (cx_Heap (L_u0 0 _ rfl)) (Nat.le_of_ble_eq_true rfl) (by rw [eM2]; exact cu_Heap_15 (L_u0 0 _ rfl)) (by rw [eM2]; exact cX_o) dX1_turnToMarking_15 (fun H locs hm => ?_)
  refine lv_aload_n hx hb dX1_turnToMarking_18 rfl (lv_at hl 0 rfl) ?_
  refine lv_iconst (v := (1 : Int32)) hx hb dX1_turnToMarking_19 (by decide) ?_
  obtain ⟨M3, eM3, hf⟩ := xlet_x hf
  refine x_put (cf' := cX E b M3) C hm inX1 tyX1 tyX1_ok nmX1 rfl 14 (by decide) tf_RX1_59 rfl rfl rfl (cx_Heap (L_u0 0 _ rfl)) (Nat.le_of_ble_eq_true rfl) (by rw [eM3]; exact cu_Heap_14 (L_u0 0 _ rfl)) (by rw [eM3]; exact cX_o) dX1_turnToMarking_20 (fun H locs hm => ?_)
  refine lv_aload_n hx hb dX1_turnToMarking_23 rfl (lv_at hl 0 rfl) ?_
  refine x_get C hm inX1 rfl 2 (by decide) tf_RX1_18 (cx_Heap (L_u0 0 _ rfl)) rfl dX1_turnToMarking_24 ?_
  refine lv_iconst (v := (0 : Int32)) hx hb dX1_turnToMarking_27 (by decide) ?_
  obtain ⟨M5, hq4, hf⟩ := xb1_e hf
  refine x_callSv (As := [.ref (b + (u0 + 3)), .int (0 : Int32)]) (rest := []) C hm (c_J7_fill_53178 l E b (L_u0 3 _ rfl) M3 (0 : Int32) hq4) tc_J7_fill_53178 tm_RX1_74 tz_J7_fill_53178 tn_RJ7 td_J7_fill_53178 rfl rfl ⟨Nat.le_of_ble_eq_true rfl, Nat.le_of_ble_eq_true rfl⟩ rfl hl.1 rfl (Nat.le_of_ble_eq_true rfl) ⟨Nat.zero_le _, Nat.zero_le _⟩ dX1_turnToMarking_28 (fun H locs hP6 hm => ?_)
  refine lv_aload_n hx hb dX1_turnToMarking_31 rfl (lv_at hl 0 rfl) ?_
  refine x_get C hm inX1 rfl 4 (by decide) tf_RX1_24 (cx_Heap (L_u0 0 _ rfl)) rfl dX1_turnToMarking_32 ?_
  refine lv_iconst (v := (0 : Int32)) hx hb dX1_turnToMarking_35 (by decide) ?_
  obtain ⟨M8, hq7, hf⟩ := xb1_e hf
  refine x_callSv (As := [.ref (b + (u0 + 5)), .int (0 : Int32)]) (rest := []) C hm (c_J7_fill_53178 l E b (L_u0 5 _ rfl) M5 (0 : Int32) hq7) tc_J7_fill_53178 tm_RX1_74 tz_J7_fill_53178 tn_RJ7 td_J7_fill_53178 rfl rfl ⟨Nat.le_of_ble_eq_true rfl, Nat.le_of_ble_eq_true rfl⟩ rfl hl.1 rfl (Nat.le_of_ble_eq_true rfl) ⟨Nat.zero_le _, Nat.zero_le _⟩ dX1_turnToMarking_36 (fun H locs hP9 hm => ?_)
  refine lv_aload_n hx hb dX1_turnToMarking_39 rfl (lv_at hl 0 rfl) ?_
  refine lv_iconst (v := (0 : Int32)) hx hb dX1_turnToMarking_40 (by decide) ?_
  obtain ⟨M10, eM10, hf⟩ := xlet_x hf
  refine x_put (cf' := cX E b M10) C hm inX1 tyX1 tyX1_ok nmX1 rfl 13 (by decide) tf_RX1_55 rfl rfl rfl (cx_Heap (L_u0 0 _ rfl)) (Nat.le_of_ble_eq_true rfl) (by rw [eM10]; exact cu_Heap_13 (L_u0 0 _ rfl)) (by rw [eM10]; exact cX_o) dX1_turnToMarking_41 (fun H locs hm => ?_)
  refine lv_aload_n hx hb dX1_turnToMarking_44 rfl (lv_at hl 0 rfl) ?_
  refine x_get C hm inX1 rfl 12 (by decide) tf_RX1_51 (cx_Heap (L_u0 0 _ rfl)) rfl dX1_turnToMarking_45 ?_
  refine lv_aload_n hx hb dX1_turnToMarking_48 rfl (lv_at hl 0 rfl) ?_
  refine x_get C hm inX1 rfl 17 (by decide) tf_RX1_68 (cx_Heap (L_u0 0 _ rfl)) rfl dX1_turnToMarking_49 ?_
  refine lv_iconst (v := (1 : Int32)) hx hb dX1_turnToMarking_52 (by decide) ?_
  refine lv_aload_n hx hb dX1_turnToMarking_53 rfl (lv_at hl 0 rfl) ?_
  refine x_get C hm inX1 rfl 15 (by decide) tf_RX1_62 (cx_Heap (L_u0 0 _ rfl)) rfl dX1_turnToMarking_54 ?_
  obtain ⟨M12, hq11, hf⟩ := xb1_e hf
  refine x_callVv (As := [.int (M10 u0 17), .int (1 : Int32), .int (M10 u0 15)]) (rest := []) C hm (c_X0_write l E b (lat_book L_u0) M10 (M10 u0 17) (1 : Int32) (M10 u0 15) hq11) rfl (cx_Book ((lat_book L_u0) 0 _ rfl)) tc_X0_write tm_RX1_121 ti_X0_write ts_X0_write tn_RX0 td_X0_write rfl rfl ⟨Nat.le_of_ble_eq_true rfl, Nat.le_of_ble_eq_true rfl⟩ rfl hl.1 rfl (Nat.le_of_ble_eq_true rfl) ⟨Nat.zero_le _, Nat.zero_le _⟩ dX1_turnToMarking_57 (fun H locs hP13 hm => ?_)
  cases hf
  exact x_vret C hm trivial dX1_turnToMarking_60
/-! ColouredHeap$Heap.turnToMoving(LColouredHeap$Law;LColouredHeap$Text;)I -/
theorem dX1_turnToMoving_0 : decode cX1_turnToMoving 0 = .ok (.aload_n 0, 1) := by decide +kernel
theorem dX1_turnToMoving_1 : decode cX1_turnToMoving 1 = .ok (.getfield 15, 3) := by decide +kernel
theorem dX1_turnToMoving_4 : decode cX1_turnToMoving 4 = .ok (.iconst (-1), 1) := by decide +kernel
theorem dX1_turnToMoving_5 : decode cX1_turnToMoving 5 = .ok (.invokestatic 74, 3) := by decide +kernel
theorem dX1_turnToMoving_8 : decode cX1_turnToMoving 8 = .ok (.aload_n 0, 1) := by decide +kernel
theorem dX1_turnToMoving_9 : decode cX1_turnToMoving 9 = .ok (.invokevirtual 162, 3) := by decide +kernel
theorem dX1_turnToMoving_12 : decode cX1_turnToMoving 12 = .ok (.aload_n 0, 1) := by decide +kernel
theorem dX1_turnToMoving_13 : decode cX1_turnToMoving 13 = .ok (.iconst 2, 1) := by decide +kernel
theorem dX1_turnToMoving_14 : decode cX1_turnToMoving 14 = .ok (.putfield 62, 3) := by decide +kernel
theorem dX1_turnToMoving_17 : decode cX1_turnToMoving 17 = .ok (.aload_n 0, 1) := by decide +kernel
theorem dX1_turnToMoving_18 : decode cX1_turnToMoving 18 = .ok (.iconst 2, 1) := by decide +kernel
theorem dX1_turnToMoving_19 : decode cX1_turnToMoving 19 = .ok (.putfield 59, 3) := by decide +kernel
theorem dX1_turnToMoving_22 : decode cX1_turnToMoving 22 = .ok (.aload_n 0, 1) := by decide +kernel
theorem dX1_turnToMoving_23 : decode cX1_turnToMoving 23 = .ok (.aload_n 1, 1) := by decide +kernel
theorem dX1_turnToMoving_24 : decode cX1_turnToMoving 24 = .ok (.aload_n 2, 1) := by decide +kernel
theorem dX1_turnToMoving_25 : decode cX1_turnToMoving 25 = .ok (.invokevirtual 165, 3) := by decide +kernel
theorem dX1_turnToMoving_28 : decode cX1_turnToMoving 28 = .ok (.istore_n 3, 1) := by decide +kernel
theorem dX1_turnToMoving_29 : decode cX1_turnToMoving 29 = .ok (.aload_n 0, 1) := by decide +kernel
theorem dX1_turnToMoving_30 : decode cX1_turnToMoving 30 = .ok (.getfield 36, 3) := by decide +kernel
theorem dX1_turnToMoving_33 : decode cX1_turnToMoving 33 = .ok (.iconst 1, 1) := by decide +kernel
theorem dX1_turnToMoving_34 : decode cX1_turnToMoving 34 = .ok (.iconst (-1), 1) := by decide +kernel
theorem dX1_turnToMoving_35 : decode cX1_turnToMoving 35 = .ok (.iastore, 1) := by decide +kernel
theorem dX1_turnToMoving_36 : decode cX1_turnToMoving 36 = .ok (.aload_n 0, 1) := by decide +kernel
theorem dX1_turnToMoving_37 : decode cX1_turnToMoving 37 = .ok (.getfield 51, 3) := by decide +kernel
theorem dX1_turnToMoving_40 : decode cX1_turnToMoving 40 = .ok (.aload_n 0, 1) := by decide +kernel
theorem dX1_turnToMoving_41 : decode cX1_turnToMoving 41 = .ok (.getfield 68, 3) := by decide +kernel
theorem dX1_turnToMoving_44 : decode cX1_turnToMoving 44 = .ok (.iconst 2, 1) := by decide +kernel
theorem dX1_turnToMoving_45 : decode cX1_turnToMoving 45 = .ok (.iload_n 3, 1) := by decide +kernel
theorem dX1_turnToMoving_46 : decode cX1_turnToMoving 46 = .ok (.invokevirtual 121, 3) := by decide +kernel
theorem dX1_turnToMoving_49 : decode cX1_turnToMoving 49 = .ok (.iload_n 3, 1) := by decide +kernel
theorem dX1_turnToMoving_50 : decode cX1_turnToMoving 50 = .ok (.invokestatic 169, 3) := by decide +kernel
theorem dX1_turnToMoving_53 : decode cX1_turnToMoving 53 = .ok (.ireturn, 1) := by decide +kernel
def f_X1_turnToMoving (u0 : Nat) (u2 : Option Nat) (M : xm) : Option (Int32 × xm) := xb1 (f_J7_fill_53178 (u0 + 2) 64 M (-1 : Int32)) (fun M2 => xb1 (f_X1_freePagesWithoutLife u0 M2) (fun M5 => xlet (up2 M5 u0 15 (2 : Int32)) (fun M7 => xlet (up2 M7 u0 14 (2 : Int32)) (fun M8 => xb2 (f_X1_pickPages u0 u2 M8) (fun v10 M11 => xlet (up2 M11 (u0 + 9) 1 (-1 : Int32)) (fun M13 => xb1 (f_X0_write (u0 + 13) M13 (M13 u0 17) (2 : Int32) v10) (fun M15 => some ((f_J6_bitCount_0f7a4 v10), M15))))))))
set_option maxHeartbeats 4000000 in
set_option maxRecDepth 20000 in
theorem c_X1_turnToMoving (l : Launch) (E : xE) (b : Nat) {u0 : Nat} (L_u0 : lat u0 pHeap) {u2 : Option Nat} (hQ_u2 : ∀ k, u2 = some k → lat k pText) (M : xm) {r : Int32} {M' : xm} (hf : f_X1_turnToMoving u0 u2 M = some (r, M')) :
    xMet l E b NX yX1_turnToMoving cX1_turnToMoving 4 (some .int) (xR 6) [.ref (b + u0), .ref (b + 1004), xrf b u2] (cX E b M) (some (.int r)) True (cX E b M') := by
  refine xMet.ofW (own := RX1) (by decide) rfl (by cases u2 <;> exact Nat.le_of_ble_eq_true rfl) ?_
  intro p e s m below meth c H locs ls C hm hl
  have hx := C.1.1
  have hb := C.1.2.1
  have hl : lv_has ls 4 [(0, .ref (b + u0)), (1, .ref (b + 1004)), (2, xrf b u2)] := (by cases u2 <;> exact hl)
  unfold f_X1_turnToMoving at hf
  refine lv_aload_n hx hb dX1_turnToMoving_0 rfl (lv_at hl 0 rfl) ?_
  refine x_get C hm inX1 rfl 1 (by decide) tf_RX1_15 (cx_Heap (L_u0 0 _ rfl)) rfl dX1_turnToMoving_1 ?_
  refine lv_iconst (v := (-1 : Int32)) hx hb dX1_turnToMoving_4 (by decide) ?_
  obtain ⟨M2, hq1, hf⟩ := xb1_e hf
  refine x_callSv (As := [.ref (b + (u0 + 2)), .int (-1 : Int32)]) (rest := []) C hm (c_J7_fill_53178 l E b (L_u0 2 _ rfl) M (-1 : Int32) hq1) tc_J7_fill_53178 tm_RX1_74 tz_J7_fill_53178 tn_RJ7 td_J7_fill_53178 rfl rfl ⟨Nat.le_of_ble_eq_true rfl, Nat.le_of_ble_eq_true rfl⟩ rfl hl.1 rfl (Nat.le_of_ble_eq_true rfl) ⟨Nat.zero_le _, Nat.zero_le _⟩ dX1_turnToMoving_5 (fun H locs hP3 hm => ?_)
  refine lv_aload_n hx hb dX1_turnToMoving_8 rfl (lv_at hl 0 rfl) ?_
  obtain ⟨M5, hq4, hf⟩ := xb1_e hf
  refine x_callVv (As := []) (rest := []) C hm (c_X1_freePagesWithoutLife l E b L_u0 M2 hq4) rfl (cx_Heap (L_u0 0 _ rfl)) tc_X1_freePagesWithoutLife tm_RX1_162 ti_X1_freePagesWithoutLife ts_X1_freePagesWithoutLife tn_RX1 td_X1_freePagesWithoutLife rfl rfl ⟨Nat.le_of_ble_eq_true rfl, Nat.le_of_ble_eq_true rfl⟩ rfl hl.1 rfl (Nat.le_of_ble_eq_true rfl) ⟨Nat.zero_le _, Nat.zero_le _⟩ dX1_turnToMoving_9 (fun H locs hP6 hm => ?_)
  refine lv_aload_n hx hb dX1_turnToMoving_12 rfl (lv_at hl 0 rfl) ?_
  refine lv_iconst (v := (2 : Int32)) hx hb dX1_turnToMoving_13 (by decide) ?_
  obtain ⟨M7, eM7, hf⟩ := xlet_x hf
  refine x_put (cf' := cX E b M7) C hm inX1 tyX1 tyX1_ok nmX1 rfl 15 (by decide) tf_RX1_62 rfl rfl rfl (cx_Heap (L_u0 0 _ rfl)) (Nat.le_of_ble_eq_true rfl) (by rw [eM7]; exact cu_Heap_15 (L_u0 0 _ rfl)) (by rw [eM7]; exact cX_o) dX1_turnToMoving_14 (fun H locs hm => ?_)
  refine lv_aload_n hx hb dX1_turnToMoving_17 rfl (lv_at hl 0 rfl) ?_
  refine lv_iconst (v := (2 : Int32)) hx hb dX1_turnToMoving_18 (by decide) ?_
  obtain ⟨M8, eM8, hf⟩ := xlet_x hf
  refine x_put (cf' := cX E b M8) C hm inX1 tyX1 tyX1_ok nmX1 rfl 14 (by decide) tf_RX1_59 rfl rfl rfl (cx_Heap (L_u0 0 _ rfl)) (Nat.le_of_ble_eq_true rfl) (by rw [eM8]; exact cu_Heap_14 (L_u0 0 _ rfl)) (by rw [eM8]; exact cX_o) dX1_turnToMoving_19 (fun H locs hm => ?_)
  refine lv_aload_n hx hb dX1_turnToMoving_22 rfl (lv_at hl 0 rfl) ?_
  refine lv_aload_n hx hb dX1_turnToMoving_23 rfl (lv_at hl 1 rfl) ?_
  refine x_aloadQ_n (b := b) (o := u2) hx hb dX1_turnToMoving_24 rfl (lv_at hl 2 rfl) ?_
  obtain ⟨v10, M11, hq9, hf⟩ := xb2_e hf
  refine x_callVi (As := [.ref (b + 1004), xrf b u2]) (rest := []) C hm (c_X1_pickPages l E b L_u0 hQ_u2 M8 hq9) rfl (cx_Heap (L_u0 0 _ rfl)) tc_X1_pickPages tm_RX1_165 ti_X1_pickPages ts_X1_pickPages tn_RX1 td_X1_pickPages rfl rfl ⟨Nat.le_of_ble_eq_true rfl, Nat.le_of_ble_eq_true rfl⟩ rfl hl.1 rfl (Nat.le_of_ble_eq_true rfl) ⟨Nat.zero_le _, Nat.zero_le _⟩ dX1_turnToMoving_25 (fun H locs hP12 hm => ?_)
  refine lv_istore_n (lv' := [(3, .int v10), (0, .ref (b + u0)), (1, .ref (b + 1004)), (2, xrf b u2)]) hx hb dX1_turnToMoving_28 rfl hl (by decide) (by cases u2 <;> rfl) (fun ls hl => ?_)
  refine lv_aload_n hx hb dX1_turnToMoving_29 rfl (lv_at hl 1 rfl) ?_
  refine x_get C hm inX1 rfl 8 (by decide) tf_RX1_36 (cx_Heap (L_u0 0 _ rfl)) rfl dX1_turnToMoving_30 ?_
  refine lv_iconst (v := (1 : Int32)) hx hb dX1_turnToMoving_33 (by decide) ?_
  refine lv_iconst (v := (-1 : Int32)) hx hb dX1_turnToMoving_34 (by decide) ?_
  obtain ⟨M13, eM13, hf⟩ := xlet_x hf
  refine x_iast (j := 1) (cf' := cX E b M13) C hm (cx_I (L_u0 9 _ rfl)) (by decide) dX1_turnToMoving_35 (by decide) (by rw [eM13]; exact cu_I (L_u0 9 _ rfl)) (by rw [eM13]; exact cX_o) (fun H locs hm => ?_)
  refine lv_aload_n hx hb dX1_turnToMoving_36 rfl (lv_at hl 1 rfl) ?_
  refine x_get C hm inX1 rfl 12 (by decide) tf_RX1_51 (cx_Heap (L_u0 0 _ rfl)) rfl dX1_turnToMoving_37 ?_
  refine lv_aload_n hx hb dX1_turnToMoving_40 rfl (lv_at hl 1 rfl) ?_
  refine x_get C hm inX1 rfl 17 (by decide) tf_RX1_68 (cx_Heap (L_u0 0 _ rfl)) rfl dX1_turnToMoving_41 ?_
  refine lv_iconst (v := (2 : Int32)) hx hb dX1_turnToMoving_44 (by decide) ?_
  refine lv_iload_n hx hb dX1_turnToMoving_45 rfl (lv_at hl 0 rfl) ?_
  obtain ⟨M15, hq14, hf⟩ := xb1_e hf
  refine x_callVv (As := [.int (M13 u0 17), .int (2 : Int32), .int v10]) (rest := []) C hm (c_X0_write l E b (lat_book L_u0) M13 (M13 u0 17) (2 : Int32) v10 hq14) rfl (cx_Book ((lat_book L_u0) 0 _ rfl)) tc_X0_write tm_RX1_121 ti_X0_write ts_X0_write tn_RX0 td_X0_write rfl rfl ⟨Nat.le_of_ble_eq_true rfl, Nat.le_of_ble_eq_true rfl⟩ rfl hl.1 rfl (Nat.le_of_ble_eq_true rfl) ⟨Nat.zero_le _, Nat.zero_le _⟩ dX1_turnToMoving_46 (fun H locs hP16 hm => ?_)
  refine lv_iload_n hx hb dX1_turnToMoving_49 rfl (lv_at hl 0 rfl) ?_
  refine x_callSi (As := [.int v10]) (rest := []) C hm (c_J6_bitCount_0f7a4 l E b M15 v10 rfl) tc_J6_bitCount_0f7a4 tm_RX1_169 tz_J6_bitCount_0f7a4 tn_RJ6 td_J6_bitCount_0f7a4 rfl rfl ⟨Nat.le_of_ble_eq_true rfl, Nat.le_of_ble_eq_true rfl⟩ rfl hl.1 rfl (Nat.le_of_ble_eq_true rfl) ⟨Nat.zero_le _, Nat.zero_le _⟩ dX1_turnToMoving_50 (fun H locs hP17 hm => ?_)
  cases hf
  exact x_iret C hm trivial dX1_turnToMoving_53
/-! ColouredHeap$Heap.tick(LColouredHeap$Law;LColouredHeap$Text;)V -/
theorem dX1_tick_0 : decode cX1_tick 0 = .ok (.aload_n 0, 1) := by decide +kernel
theorem dX1_tick_1 : decode cX1_tick 1 = .ok (.getfield 59, 3) := by decide +kernel
theorem dX1_tick_4 : decode cX1_tick 4 = .ok (.iconst 2, 1) := by decide +kernel
theorem dX1_tick_5 : decode cX1_tick 5 = .ok (.if_icmp .ne 10, 3) := by decide +kernel
theorem dX1_tick_8 : decode cX1_tick 8 = .ok (.aload_n 0, 1) := by decide +kernel
theorem dX1_tick_9 : decode cX1_tick 9 = .ok (.invokevirtual 192, 3) := by decide +kernel
theorem dX1_tick_12 : decode cX1_tick 12 = .ok (.goto 61, 3) := by decide +kernel
theorem dX1_tick_15 : decode cX1_tick 15 = .ok (.aload_n 0, 1) := by decide +kernel
theorem dX1_tick_16 : decode cX1_tick 16 = .ok (.getfield 59, 3) := by decide +kernel
theorem dX1_tick_19 : decode cX1_tick 19 = .ok (.iconst 1, 1) := by decide +kernel
theorem dX1_tick_20 : decode cX1_tick 20 = .ok (.if_icmp .ne 17, 3) := by decide +kernel
theorem dX1_tick_23 : decode cX1_tick 23 = .ok (.aload_n 0, 1) := by decide +kernel
theorem dX1_tick_24 : decode cX1_tick 24 = .ok (.getfield 55, 3) := by decide +kernel
theorem dX1_tick_27 : decode cX1_tick 27 = .ok (.ifCond .le 10, 3) := by decide +kernel
theorem dX1_tick_30 : decode cX1_tick 30 = .ok (.aload_n 0, 1) := by decide +kernel
theorem dX1_tick_31 : decode cX1_tick 31 = .ok (.invokevirtual 195, 3) := by decide +kernel
theorem dX1_tick_34 : decode cX1_tick 34 = .ok (.goto 39, 3) := by decide +kernel
theorem dX1_tick_37 : decode cX1_tick 37 = .ok (.aload_n 0, 1) := by decide +kernel
theorem dX1_tick_38 : decode cX1_tick 38 = .ok (.invokevirtual 198, 3) := by decide +kernel
theorem dX1_tick_41 : decode cX1_tick 41 = .ok (.ifCond .eq 17, 3) := by decide +kernel
theorem dX1_tick_44 : decode cX1_tick 44 = .ok (.aload_n 0, 1) := by decide +kernel
theorem dX1_tick_45 : decode cX1_tick 45 = .ok (.aload_n 1, 1) := by decide +kernel
theorem dX1_tick_46 : decode cX1_tick 46 = .ok (.aload_n 2, 1) := by decide +kernel
theorem dX1_tick_47 : decode cX1_tick 47 = .ok (.invokevirtual 202, 3) := by decide +kernel
theorem dX1_tick_50 : decode cX1_tick 50 = .ok (.pop, 1) := by decide +kernel
theorem dX1_tick_51 : decode cX1_tick 51 = .ok (.aload_n 0, 1) := by decide +kernel
theorem dX1_tick_52 : decode cX1_tick 52 = .ok (.invokevirtual 205, 3) := by decide +kernel
theorem dX1_tick_55 : decode cX1_tick 55 = .ok (.goto 18, 3) := by decide +kernel
theorem dX1_tick_58 : decode cX1_tick 58 = .ok (.aload_n 0, 1) := by decide +kernel
theorem dX1_tick_59 : decode cX1_tick 59 = .ok (.invokevirtual 208, 3) := by decide +kernel
theorem dX1_tick_62 : decode cX1_tick 62 = .ok (.ifCond .eq 11, 3) := by decide +kernel
theorem dX1_tick_65 : decode cX1_tick 65 = .ok (.aload_n 0, 1) := by decide +kernel
theorem dX1_tick_66 : decode cX1_tick 66 = .ok (.invokevirtual 211, 3) := by decide +kernel
theorem dX1_tick_69 : decode cX1_tick 69 = .ok (.aload_n 0, 1) := by decide +kernel
theorem dX1_tick_70 : decode cX1_tick 70 = .ok (.invokevirtual 205, 3) := by decide +kernel
theorem dX1_tick_73 : decode cX1_tick 73 = .ok (.aload_n 0, 1) := by decide +kernel
theorem dX1_tick_74 : decode cX1_tick 74 = .ok (.dup, 1) := by decide +kernel
theorem dX1_tick_75 : decode cX1_tick 75 = .ok (.getfield 68, 3) := by decide +kernel
theorem dX1_tick_78 : decode cX1_tick 78 = .ok (.iconst 1, 1) := by decide +kernel
theorem dX1_tick_79 : decode cX1_tick 79 = .ok (.iadd, 1) := by decide +kernel
theorem dX1_tick_80 : decode cX1_tick 80 = .ok (.putfield 68, 3) := by decide +kernel
theorem dX1_tick_83 : decode cX1_tick 83 = .ok (.return_, 1) := by decide +kernel
def f_X1_tick (u0 : Nat) (u2 : Option Nat) (M : xm) : Option (xm) := (if (M u0 14) = (2 : Int32) then xb1 (f_X1_moveOne u0 M) (fun M34 => xlet (up2 M34 u0 17 ((M34 u0 17) + (1 : Int32))) (fun M36 => some M36)) else xlet (xb1 (f_X1_canChoose u0 M) (fun v4 => (if v4 = 0 then xb1 (f_X1_canMark u0 M) (fun v8 => (if v8 = 0 then xlet (up2 M u0 17 ((M u0 17) + (1 : Int32))) (fun M11 => some M11) else xb1 (f_X1_turnToMarking u0 M) (fun M13 => xb1 (f_X1_mendRoots u0 M13) (fun M16 => xlet (up2 M16 u0 17 ((M16 u0 17) + (1 : Int32))) (fun M18 => some M18))))) else xb2 (f_X1_turnToMoving u0 u2 M) (fun v20 M21 => xb1 (f_X1_mendRoots u0 M21) (fun M24 => xlet (up2 M24 u0 17 ((M24 u0 17) + (1 : Int32))) (fun M26 => some M26)))))) (fun k2 => (if (M u0 14) = (1 : Int32) then (if (M u0 13) ≤ 0 then k2 else xb1 (f_X1_markOne u0 M) (fun M30 => xlet (up2 M30 u0 17 ((M30 u0 17) + (1 : Int32))) (fun M32 => some M32))) else k2)))
set_option maxHeartbeats 4000000 in
set_option maxRecDepth 20000 in
theorem c_X1_tick (l : Launch) (E : xE) (b : Nat) {u0 : Nat} (L_u0 : lat u0 pHeap) {u2 : Option Nat} (hQ_u2 : ∀ k, u2 = some k → lat k pText) (M : xm) {M' : xm} (hf : f_X1_tick u0 u2 M = some M') :
    xMet l E b NX yX1_tick cX1_tick 3 none (xR 7) [.ref (b + u0), .ref (b + 1004), xrf b u2] (cX E b M) none True (cX E b M') := by
  refine xMet.ofW (own := RX1) (by decide) rfl (by cases u2 <;> exact Nat.le_of_ble_eq_true rfl) ?_
  intro p e s m below meth c H locs ls C hm hl
  have hx := C.1.1
  have hb := C.1.2.1
  have hl : lv_has ls 3 [(0, .ref (b + u0)), (1, .ref (b + 1004)), (2, xrf b u2)] := (by cases u2 <;> exact hl)
  unfold f_X1_tick at hf
  refine lv_aload_n hx hb dX1_tick_0 rfl (lv_at hl 0 rfl) ?_
  refine x_get C hm inX1 rfl 14 (by decide) tf_RX1_59 (cx_Heap (L_u0 0 _ rfl)) rfl dX1_tick_1 ?_
  refine lv_iconst (v := (2 : Int32)) hx hb dX1_tick_4 (by decide) ?_
  refine lv_icmp_ne (tgt := 15) hx hb dX1_tick_5 (by decide) (fun hc1 => ?_) (fun hc1 => ?_)
  rotate_left
  · have hf := xif_t hc1 hf
    refine lv_aload_n hx hb dX1_tick_8 rfl (lv_at hl 0 rfl) ?_
    obtain ⟨M34, hq33, hf⟩ := xb1_e hf
    refine x_callVv (As := []) (rest := []) C hm (c_X1_moveOne l E b L_u0 M hq33) rfl (cx_Heap (L_u0 0 _ rfl)) tc_X1_moveOne tm_RX1_192 ti_X1_moveOne ts_X1_moveOne tn_RX1 td_X1_moveOne rfl rfl ⟨Nat.le_of_ble_eq_true rfl, Nat.le_of_ble_eq_true rfl⟩ rfl hl.1 rfl (Nat.le_of_ble_eq_true rfl) ⟨Nat.zero_le _, Nat.zero_le _⟩ dX1_tick_9 (fun H locs hP35 hm => ?_)
    refine lv_goto (tgt := 73) hx hb dX1_tick_12 (by decide) ?_
    refine lv_aload_n hx hb dX1_tick_73 rfl (lv_at hl 0 rfl) ?_
    refine lv_dup hx hb dX1_tick_74 rfl ?_
    refine x_get C hm inX1 rfl 17 (by decide) tf_RX1_68 (cx_Heap (L_u0 0 _ rfl)) rfl dX1_tick_75 ?_
    refine lv_iconst (v := (1 : Int32)) hx hb dX1_tick_78 (by decide) ?_
    refine lv_iadd hx hb dX1_tick_79 ?_
    obtain ⟨M36, eM36, hf⟩ := xlet_x hf
    refine x_put (cf' := cX E b M36) C hm inX1 tyX1 tyX1_ok nmX1 rfl 17 (by decide) tf_RX1_68 rfl rfl rfl (cx_Heap (L_u0 0 _ rfl)) (Nat.le_of_ble_eq_true rfl) (by rw [eM36]; exact cu_Heap_17 (L_u0 0 _ rfl)) (by rw [eM36]; exact cX_o) dX1_tick_80 (fun H locs hm => ?_)
    cases hf
    exact x_vret C hm trivial dX1_tick_83
  have hf := xif_f hc1 hf
  refine lv_aload_n hx hb dX1_tick_15 rfl (lv_at hl 0 rfl) ?_
  refine x_get C hm inX1 rfl 14 (by decide) tf_RX1_59 (cx_Heap (L_u0 0 _ rfl)) rfl dX1_tick_16 ?_
  refine lv_iconst (v := (1 : Int32)) hx hb dX1_tick_19 (by decide) ?_
  obtain ⟨k2, ek2, hf⟩ := xlet_x hf
  have jk2 : ∀  (H : Heap) (locs : List Loc) (ls : Array Slot), k2 = some M' → xM E b NX (cX E b M) s.heap H locs → lv_has ls 3 [(0, .ref (b + u0)), (1, .ref (b + 1004)), (2, xrf b u2)] → W p l e (xR 7) s m ([.ref (b + u0), .ref (b + 1004), xrf b u2] : List Value).toArray below meth c H locs 0 0 (MQ below (xQ E b NX none True (cX E b M')) ([.ref (b + u0), .ref (b + 1004), xrf b u2] : List Value).toArray s 0 0 (xA b NX)) (F0 m 37 ls []) := by
    intro  H locs ls hf hm hl
    have hf := xap0 ek2 hf
    refine lv_aload_n hx hb dX1_tick_37 rfl (lv_at hl 0 rfl) ?_
    obtain ⟨v4, hq3, hf⟩ := xb1_e hf
    refine x_callVi (As := []) (rest := []) C hm (c_X1_canChoose l E b L_u0 M hq3) rfl (cx_Heap (L_u0 0 _ rfl)) tc_X1_canChoose tm_RX1_198 ti_X1_canChoose ts_X1_canChoose tn_RX1 td_X1_canChoose rfl rfl ⟨Nat.le_of_ble_eq_true rfl, Nat.le_of_ble_eq_true rfl⟩ rfl hl.1 rfl (Nat.le_of_ble_eq_true rfl) ⟨Nat.zero_le _, Nat.zero_le _⟩ dX1_tick_38 (fun H locs hP5 hm => ?_)
    refine lv_if_eq (tgt := 58) hx hb dX1_tick_41 (by decide) (fun hc6 => ?_) (fun hc6 => ?_)
    rotate_left
    · have hf := xif_f hc6 hf
      refine lv_aload_n hx hb dX1_tick_44 rfl (lv_at hl 0 rfl) ?_
      refine lv_aload_n hx hb dX1_tick_45 rfl (lv_at hl 1 rfl) ?_
      refine x_aloadQ_n (b := b) (o := u2) hx hb dX1_tick_46 rfl (lv_at hl 2 rfl) ?_
      obtain ⟨v20, M21, hq19, hf⟩ := xb2_e hf
      refine x_callVi (As := [.ref (b + 1004), xrf b u2]) (rest := []) C hm (c_X1_turnToMoving l E b L_u0 hQ_u2 M hq19) rfl (cx_Heap (L_u0 0 _ rfl)) tc_X1_turnToMoving tm_RX1_202 ti_X1_turnToMoving ts_X1_turnToMoving tn_RX1 td_X1_turnToMoving rfl rfl ⟨Nat.le_of_ble_eq_true rfl, Nat.le_of_ble_eq_true rfl⟩ rfl hl.1 rfl (Nat.le_of_ble_eq_true rfl) ⟨Nat.zero_le _, Nat.zero_le _⟩ dX1_tick_47 (fun H locs hP22 hm => ?_)
      refine lv_pop hx hb dX1_tick_50 rfl ?_
      refine lv_aload_n hx hb dX1_tick_51 rfl (lv_at hl 0 rfl) ?_
      obtain ⟨M24, hq23, hf⟩ := xb1_e hf
      refine x_callVv (As := []) (rest := []) C hm (c_X1_mendRoots l E b L_u0 M21 hq23) rfl (cx_Heap (L_u0 0 _ rfl)) tc_X1_mendRoots tm_RX1_205 ti_X1_mendRoots ts_X1_mendRoots tn_RX1 td_X1_mendRoots rfl rfl ⟨Nat.le_of_ble_eq_true rfl, Nat.le_of_ble_eq_true rfl⟩ rfl hl.1 rfl (Nat.le_of_ble_eq_true rfl) ⟨Nat.zero_le _, Nat.zero_le _⟩ dX1_tick_52 (fun H locs hP25 hm => ?_)
      refine lv_goto (tgt := 73) hx hb dX1_tick_55 (by decide) ?_
      refine lv_aload_n hx hb dX1_tick_73 rfl (lv_at hl 0 rfl) ?_
      refine lv_dup hx hb dX1_tick_74 rfl ?_
      refine x_get C hm inX1 rfl 17 (by decide) tf_RX1_68 (cx_Heap (L_u0 0 _ rfl)) rfl dX1_tick_75 ?_
      refine lv_iconst (v := (1 : Int32)) hx hb dX1_tick_78 (by decide) ?_
      refine lv_iadd hx hb dX1_tick_79 ?_
      obtain ⟨M26, eM26, hf⟩ := xlet_x hf
      refine x_put (cf' := cX E b M26) C hm inX1 tyX1 tyX1_ok nmX1 rfl 17 (by decide) tf_RX1_68 rfl rfl rfl (cx_Heap (L_u0 0 _ rfl)) (Nat.le_of_ble_eq_true rfl) (by rw [eM26]; exact cu_Heap_17 (L_u0 0 _ rfl)) (by rw [eM26]; exact cX_o) dX1_tick_80 (fun H locs hm => ?_)
      cases hf
      exact x_vret C hm trivial dX1_tick_83
    have hf := xif_t hc6 hf
    refine lv_aload_n hx hb dX1_tick_58 rfl (lv_at hl 0 rfl) ?_
    obtain ⟨v8, hq7, hf⟩ := xb1_e hf
    refine x_callVi (As := []) (rest := []) C hm (c_X1_canMark l E b L_u0 M hq7) rfl (cx_Heap (L_u0 0 _ rfl)) tc_X1_canMark tm_RX1_208 ti_X1_canMark ts_X1_canMark tn_RX1 td_X1_canMark rfl rfl ⟨Nat.le_of_ble_eq_true rfl, Nat.le_of_ble_eq_true rfl⟩ rfl hl.1 rfl (Nat.le_of_ble_eq_true rfl) ⟨Nat.zero_le _, Nat.zero_le _⟩ dX1_tick_59 (fun H locs hP9 hm => ?_)
    refine lv_if_eq (tgt := 73) hx hb dX1_tick_62 (by decide) (fun hc10 => ?_) (fun hc10 => ?_)
    · have hf := xif_t hc10 hf
      refine lv_aload_n hx hb dX1_tick_73 rfl (lv_at hl 0 rfl) ?_
      refine lv_dup hx hb dX1_tick_74 rfl ?_
      refine x_get C hm inX1 rfl 17 (by decide) tf_RX1_68 (cx_Heap (L_u0 0 _ rfl)) rfl dX1_tick_75 ?_
      refine lv_iconst (v := (1 : Int32)) hx hb dX1_tick_78 (by decide) ?_
      refine lv_iadd hx hb dX1_tick_79 ?_
      obtain ⟨M11, eM11, hf⟩ := xlet_x hf
      refine x_put (cf' := cX E b M11) C hm inX1 tyX1 tyX1_ok nmX1 rfl 17 (by decide) tf_RX1_68 rfl rfl rfl (cx_Heap (L_u0 0 _ rfl)) (Nat.le_of_ble_eq_true rfl) (by rw [eM11]; exact cu_Heap_17 (L_u0 0 _ rfl)) (by rw [eM11]; exact cX_o) dX1_tick_80 (fun H locs hm => ?_)
      cases hf
      exact x_vret C hm trivial dX1_tick_83
    have hf := xif_f hc10 hf
    refine lv_aload_n hx hb dX1_tick_65 rfl (lv_at hl 0 rfl) ?_
    obtain ⟨M13, hq12, hf⟩ := xb1_e hf
    refine x_callVv (As := []) (rest := []) C hm (c_X1_turnToMarking l E b L_u0 M hq12) rfl (cx_Heap (L_u0 0 _ rfl)) tc_X1_turnToMarking tm_RX1_211 ti_X1_turnToMarking ts_X1_turnToMarking tn_RX1 td_X1_turnToMarking rfl rfl ⟨Nat.le_of_ble_eq_true rfl, Nat.le_of_ble_eq_true rfl⟩ rfl hl.1 rfl (Nat.le_of_ble_eq_true rfl) ⟨Nat.zero_le _, Nat.zero_le _⟩ dX1_tick_66 (fun H locs hP14 hm => ?_)
    refine lv_aload_n hx hb dX1_tick_69 rfl (lv_at hl 0 rfl) ?_
    obtain ⟨M16, hq15, hf⟩ := xb1_e hf
    refine x_callVv (As := []) (rest := []) C hm (c_X1_mendRoots l E b L_u0 M13 hq15) rfl (cx_Heap (L_u0 0 _ rfl)) tc_X1_mendRoots tm_RX1_205 ti_X1_mendRoots ts_X1_mendRoots tn_RX1 td_X1_mendRoots rfl rfl ⟨Nat.le_of_ble_eq_true rfl, Nat.le_of_ble_eq_true rfl⟩ rfl hl.1 rfl (Nat.le_of_ble_eq_true rfl) ⟨Nat.zero_le _, Nat.zero_le _⟩ dX1_tick_70 (fun H locs hP17 hm => ?_)
    refine lv_aload_n hx hb dX1_tick_73 rfl (lv_at hl 0 rfl) ?_
    refine lv_dup hx hb dX1_tick_74 rfl ?_
    refine x_get C hm inX1 rfl 17 (by decide) tf_RX1_68 (cx_Heap (L_u0 0 _ rfl)) rfl dX1_tick_75 ?_
    refine lv_iconst (v := (1 : Int32)) hx hb dX1_tick_78 (by decide) ?_
    refine lv_iadd hx hb dX1_tick_79 ?_
    obtain ⟨M18, eM18, hf⟩ := xlet_x hf
    refine x_put (cf' := cX E b M18) C hm inX1 tyX1 tyX1_ok nmX1 rfl 17 (by decide) tf_RX1_68 rfl rfl rfl (cx_Heap (L_u0 0 _ rfl)) (Nat.le_of_ble_eq_true rfl) (by rw [eM18]; exact cu_Heap_17 (L_u0 0 _ rfl)) (by rw [eM18]; exact cX_o) dX1_tick_80 (fun H locs hm => ?_)
    cases hf
    exact x_vret C hm trivial dX1_tick_83
  refine lv_icmp_ne (tgt := 37) hx hb dX1_tick_20 (by decide) (fun hc27 => ?_) (fun hc27 => ?_)
  · have hf := xif_f hc27 hf
    exact jk2  H locs ls  hf hm (lv_sub hl [0, 1, 2] rfl)
  have hf := xif_t hc27 hf
  refine lv_aload_n hx hb dX1_tick_23 rfl (lv_at hl 0 rfl) ?_
  refine x_get C hm inX1 rfl 13 (by decide) tf_RX1_55 (cx_Heap (L_u0 0 _ rfl)) rfl dX1_tick_24 ?_
  refine lv_if_le (tgt := 37) hx hb dX1_tick_27 (by decide) (fun hc28 => ?_) (fun hc28 => ?_)
  · have hf := xif_t hc28 hf
    exact jk2  H locs ls  hf hm (lv_sub hl [0, 1, 2] rfl)
  have hf := xif_f hc28 hf
  refine lv_aload_n hx hb dX1_tick_30 rfl (lv_at hl 0 rfl) ?_
  obtain ⟨M30, hq29, hf⟩ := xb1_e hf
  refine x_callVv (As := []) (rest := []) C hm (c_X1_markOne l E b L_u0 M hq29) rfl (cx_Heap (L_u0 0 _ rfl)) tc_X1_markOne tm_RX1_195 ti_X1_markOne ts_X1_markOne tn_RX1 td_X1_markOne rfl rfl ⟨Nat.le_of_ble_eq_true rfl, Nat.le_of_ble_eq_true rfl⟩ rfl hl.1 rfl (Nat.le_of_ble_eq_true rfl) ⟨Nat.zero_le _, Nat.zero_le _⟩ dX1_tick_31 (fun H locs hP31 hm => ?_)
  refine lv_goto (tgt := 73) hx hb dX1_tick_34 (by decide) ?_
  refine lv_aload_n hx hb dX1_tick_73 rfl (lv_at hl 0 rfl) ?_
  refine lv_dup hx hb dX1_tick_74 rfl ?_
  refine x_get C hm inX1 rfl 17 (by decide) tf_RX1_68 (cx_Heap (L_u0 0 _ rfl)) rfl dX1_tick_75 ?_
  refine lv_iconst (v := (1 : Int32)) hx hb dX1_tick_78 (by decide) ?_
  refine lv_iadd hx hb dX1_tick_79 ?_
  obtain ⟨M32, eM32, hf⟩ := xlet_x hf
  refine x_put (cf' := cX E b M32) C hm inX1 tyX1 tyX1_ok nmX1 rfl 17 (by decide) tf_RX1_68 rfl rfl rfl (cx_Heap (L_u0 0 _ rfl)) (Nat.le_of_ble_eq_true rfl) (by rw [eM32]; exact cu_Heap_17 (L_u0 0 _ rfl)) (by rw [eM32]; exact cX_o) dX1_tick_80 (fun H locs hm => ?_)
  cases hf
  exact x_vret C hm trivial dX1_tick_83
/-! ColouredHeap$Law.paceOf(LColouredHeap$Text;LColouredHeap$Heap;I)I -/
theorem dX3_paceOf_0 : decode cX3_paceOf 0 = .ok (.aload_n 1, 1) := by decide +kernel
theorem dX3_paceOf_1 : decode cX3_paceOf 1 = .ok (.ifnull 11, 3) := by decide +kernel
theorem dX3_paceOf_4 : decode cX3_paceOf 4 = .ok (.aload_n 1, 1) := by decide +kernel
theorem dX3_paceOf_5 : decode cX3_paceOf 5 = .ok (.iconst 1, 1) := by decide +kernel
theorem dX3_paceOf_6 : decode cX3_paceOf 6 = .ok (.invokevirtual 25, 3) := by decide +kernel
theorem dX3_paceOf_9 : decode cX3_paceOf 9 = .ok (.ifCond .ne 5, 3) := by decide +kernel
theorem dX3_paceOf_12 : decode cX3_paceOf 12 = .ok (.iconst 0, 1) := by decide +kernel
theorem dX3_paceOf_13 : decode cX3_paceOf 13 = .ok (.ireturn, 1) := by decide +kernel
theorem dX3_paceOf_14 : decode cX3_paceOf 14 = .ok (.iconst 0, 1) := by decide +kernel
theorem dX3_paceOf_15 : decode cX3_paceOf 15 = .ok (.bipush 9, 2) := by decide +kernel
theorem dX3_paceOf_17 : decode cX3_paceOf 17 = .ok (.aload_n 0, 1) := by decide +kernel
theorem dX3_paceOf_18 : decode cX3_paceOf 18 = .ok (.aload_n 1, 1) := by decide +kernel
theorem dX3_paceOf_19 : decode cX3_paceOf 19 = .ok (.iconst 1, 1) := by decide +kernel
theorem dX3_paceOf_20 : decode cX3_paceOf 20 = .ok (.aload_n 2, 1) := by decide +kernel
theorem dX3_paceOf_21 : decode cX3_paceOf 21 = .ok (.iload_n 3, 1) := by decide +kernel
theorem dX3_paceOf_22 : decode cX3_paceOf 22 = .ok (.invokevirtual 38, 3) := by decide +kernel
theorem dX3_paceOf_25 : decode cX3_paceOf 25 = .ok (.invokestatic 42, 3) := by decide +kernel
theorem dX3_paceOf_28 : decode cX3_paceOf 28 = .ok (.invokestatic 48, 3) := by decide +kernel
theorem dX3_paceOf_31 : decode cX3_paceOf 31 = .ok (.ireturn, 1) := by decide +kernel
def f_X3_paceOf (u1 : Option Nat) (u2 : Nat) (M : xm) (a3 : Int32) : Option (Int32 × xm) := xopt u1 (some ((0 : Int32), M)) (fun o1 => xb1 (f_X7_hasLaw o1 M (1 : Int32)) (fun v4 => (if v4 = 0 then some ((0 : Int32), M) else xb2 (f_X3_value o1 u2 M (1 : Int32) a3) (fun v8 M9 => some ((xmax (0 : Int32) (xmin (9 : Int32) v8)), M9)))))
set_option maxHeartbeats 4000000 in
set_option maxRecDepth 20000 in
theorem c_X3_paceOf (l : Launch) (E : xE) (b : Nat) {u1 : Option Nat} (hQ_u1 : ∀ k, u1 = some k → lat k pText) {u2 : Nat} (L_u2 : lat u2 pHeap) (M : xm) (a3 : Int32) {r : Int32} {M' : xm} (hf : f_X3_paceOf u1 u2 M a3 = some (r, M')) :
    xMet l E b NX yX3_paceOf cX3_paceOf 4 (some .int) (xR 4) [.ref (b + 1004), xrf b u1, .ref (b + u2), .int a3] (cX E b M) (some (.int r)) True (cX E b M') := by
  refine xMet.ofW (own := RX3) (by decide) rfl (by cases u1 <;> exact Nat.le_of_ble_eq_true rfl) ?_
  intro p e s m below meth c H locs ls C hm hl
  have hx := C.1.1
  have hb := C.1.2.1
  have hl : lv_has ls 4 [(0, .ref (b + 1004)), (1, xrf b u1), (2, .ref (b + u2)), (3, .int a3)] := (by cases u1 <;> exact hl)
  unfold f_X3_paceOf at hf
  refine x_aloadQ_n (b := b) (o := u1) hx hb dX3_paceOf_0 rfl (lv_at hl 1 rfl) ?_
  refine x_ifnullQ (b := b) (o := u1) (tgt := 12) hx hb dX3_paceOf_1 (by decide) (fun hn2 => ?_) (fun o1 hn2 => ?_)
  · subst hn2
    have hf := xopt_n hf
    have hl := lv_sub (l' := [(0, .ref (b + 1004)), (2, .ref (b + u2)), (3, .int a3)]) hl [0, 2, 3] rfl
    refine lv_iconst (v := (0 : Int32)) hx hb dX3_paceOf_12 (by decide) ?_
    cases hf
    exact x_iret C hm trivial dX3_paceOf_13
  subst hn2
  have hf := xopt_s hf
  have hl : lv_has ls 4 [(0, .ref (b + 1004)), (1, .ref (b + o1)), (2, .ref (b + u2)), (3, .int a3)] := hl
  refine lv_aload_n hx hb dX3_paceOf_4 rfl (lv_at hl 1 rfl) ?_
  refine lv_iconst (v := (1 : Int32)) hx hb dX3_paceOf_5 (by decide) ?_
  obtain ⟨v4, hq3, hf⟩ := xb1_e hf
  refine x_callVi (As := [.int (1 : Int32)]) (rest := []) C hm (c_X7_hasLaw l E b (hQ_u1 o1 rfl) M (1 : Int32) hq3) rfl (cx_Text ((hQ_u1 o1 rfl) 0 _ rfl)) tc_X7_hasLaw tm_RX3_25 ti_X7_hasLaw ts_X7_hasLaw tn_RX7 td_X7_hasLaw rfl rfl ⟨Nat.le_of_ble_eq_true rfl, Nat.le_of_ble_eq_true rfl⟩ rfl hl.1 rfl (Nat.le_of_ble_eq_true rfl) ⟨Nat.zero_le _, Nat.zero_le _⟩ dX3_paceOf_6 (fun H locs hP5 hm => ?_)
  refine lv_if_ne (tgt := 14) hx hb dX3_paceOf_9 (by decide) (fun hc6 => ?_) (fun hc6 => ?_)
  rotate_left
  · have hf := xif_t hc6 hf
    refine lv_iconst (v := (0 : Int32)) hx hb dX3_paceOf_12 (by decide) ?_
    cases hf
    exact x_iret C hm trivial dX3_paceOf_13
  have hf := xif_f hc6 hf
  refine lv_iconst (v := (0 : Int32)) hx hb dX3_paceOf_14 (by decide) ?_
  refine lv_bipush (v := (9 : Int32)) hx hb dX3_paceOf_15 (by decide) ?_
  refine lv_aload_n hx hb dX3_paceOf_17 rfl (lv_at hl 0 rfl) ?_
  refine lv_aload_n hx hb dX3_paceOf_18 rfl (lv_at hl 1 rfl) ?_
  refine lv_iconst (v := (1 : Int32)) hx hb dX3_paceOf_19 (by decide) ?_
  refine lv_aload_n hx hb dX3_paceOf_20 rfl (lv_at hl 2 rfl) ?_
  refine lv_iload_n hx hb dX3_paceOf_21 rfl (lv_at hl 3 rfl) ?_
  obtain ⟨v8, M9, hq7, hf⟩ := xb2_e hf
  refine x_callVi (As := [.ref (b + o1), .int (1 : Int32), .ref (b + u2), .int a3]) (rest := [.int (9 : Int32), .int (0 : Int32)]) C hm (c_X3_value l E b (hQ_u1 o1 rfl) L_u2 M (1 : Int32) a3 hq7) rfl (cx_Law (LX_law 0 _ rfl)) tc_X3_value tm_RX3_38 ti_X3_value ts_X3_value tn_RX3 td_X3_value rfl rfl ⟨Nat.le_of_ble_eq_true rfl, Nat.le_of_ble_eq_true rfl⟩ rfl hl.1 rfl (Nat.le_of_ble_eq_true rfl) ⟨Nat.zero_le _, Nat.zero_le _⟩ dX3_paceOf_22 (fun H locs hP10 hm => ?_)
  refine va_mmin hx hb (C.1.2.2.1.trans hl.1.symm) C.1.2.2.2.1 (C.1.2.2.2.2 _ tm_RX3_42) (C.1.2.2.2.2 _ tz_Math_minI) (C.1.2.2.2.2 _ tn_Math) (C.1.2.2.2.2 _ tc_Math_minI) (Nat.le_of_ble_eq_true rfl) (Nat.le_of_ble_eq_true rfl) (Nat.zero_le _) (Nat.zero_le _) dX3_paceOf_25 ?_
  refine va_mmax hx hb (C.1.2.2.1.trans hl.1.symm) C.1.2.2.2.1 (C.1.2.2.2.2 _ tm_RX3_48) (C.1.2.2.2.2 _ tz_Math_maxI) (C.1.2.2.2.2 _ tn_Math) (C.1.2.2.2.2 _ tc_Math_maxI) (Nat.le_of_ble_eq_true rfl) (Nat.le_of_ble_eq_true rfl) (Nat.zero_le _) (Nat.zero_le _) dX3_paceOf_28 ?_
  cases hf
  exact x_iret C hm trivial dX3_paceOf_31
/-! ColouredHeap$Reader.add(I)V -/
theorem dX4_add_0 : decode cX4_add 0 = .ok (.bipush 24, 2) := by decide +kernel
theorem dX4_add_2 : decode cX4_add 2 = .ok (.istore_n 2, 1) := by decide +kernel
theorem dX4_add_3 : decode cX4_add 3 = .ok (.iload_n 2, 1) := by decide +kernel
theorem dX4_add_4 : decode cX4_add 4 = .ok (.ifCond .lt 45, 3) := by decide +kernel
theorem dX4_add_7 : decode cX4_add 7 = .ok (.aload_n 0, 1) := by decide +kernel
theorem dX4_add_8 : decode cX4_add 8 = .ok (.getfield 31, 3) := by decide +kernel
theorem dX4_add_11 : decode cX4_add 11 = .ok (.sipush 300, 3) := by decide +kernel
theorem dX4_add_14 : decode cX4_add 14 = .ok (.if_icmp .ge 35, 3) := by decide +kernel
theorem dX4_add_17 : decode cX4_add 17 = .ok (.aload_n 0, 1) := by decide +kernel
theorem dX4_add_18 : decode cX4_add 18 = .ok (.getfield 9, 3) := by decide +kernel
theorem dX4_add_21 : decode cX4_add 21 = .ok (.aload_n 0, 1) := by decide +kernel
theorem dX4_add_22 : decode cX4_add 22 = .ok (.getfield 31, 3) := by decide +kernel
theorem dX4_add_25 : decode cX4_add 25 = .ok (.iload_n 1, 1) := by decide +kernel
theorem dX4_add_26 : decode cX4_add 26 = .ok (.iload_n 2, 1) := by decide +kernel
theorem dX4_add_27 : decode cX4_add 27 = .ok (.iushr, 1) := by decide +kernel
theorem dX4_add_28 : decode cX4_add 28 = .ok (.sipush 255, 3) := by decide +kernel
theorem dX4_add_31 : decode cX4_add 31 = .ok (.iand, 1) := by decide +kernel
theorem dX4_add_32 : decode cX4_add 32 = .ok (.iastore, 1) := by decide +kernel
theorem dX4_add_33 : decode cX4_add 33 = .ok (.aload_n 0, 1) := by decide +kernel
theorem dX4_add_34 : decode cX4_add 34 = .ok (.dup, 1) := by decide +kernel
theorem dX4_add_35 : decode cX4_add 35 = .ok (.getfield 31, 3) := by decide +kernel
theorem dX4_add_38 : decode cX4_add 38 = .ok (.iconst 1, 1) := by decide +kernel
theorem dX4_add_39 : decode cX4_add 39 = .ok (.iadd, 1) := by decide +kernel
theorem dX4_add_40 : decode cX4_add 40 = .ok (.putfield 31, 3) := by decide +kernel
theorem dX4_add_43 : decode cX4_add 43 = .ok (.iinc 2 (-8), 3) := by decide +kernel
theorem dX4_add_46 : decode cX4_add 46 = .ok (.goto (-43), 3) := by decide +kernel
theorem dX4_add_49 : decode cX4_add 49 = .ok (.return_, 1) := by decide +kernel
def g_X4_add_3 (x1 : Int32) : Nat → xm → Int32 → Option ((xm))
  | 0, _, _ => none
  | n + 1, M3, x2 => (if x2 < 0 then some (M3) else (if (300 : Int32) ≤ (M3 990 5) then some (M3) else if xin (M3 990 5) 300 = true then xlet (up2 M3 (990 + 1) (Int32.toNatClampNeg (M3 990 5)) ((xushr x1 x2) &&& (255 : Int32))) (fun M8 => xlet (up2 M8 990 5 ((M8 990 5) + (1 : Int32))) (fun M9 => xlet (x2 + (-8 : Int32)) (fun v10 => g_X4_add_3 x1 n M9 v10))) else none))
def f_X4_add (M : xm) (a1 : Int32) : Option (xm) := xb1 (g_X4_add_3 a1 xfuel M (24 : Int32)) (fun M11 => some M11)
set_option maxHeartbeats 4000000 in
set_option maxRecDepth 20000 in
theorem j_X4_add_3 {p : Program} {l : Launch} {e : Env} {s : State} {m : MethodId} {args : Array Value} {below : List Frame} {meth : Method} {c : Code} {Q : State → Prop} {E : xE} {b : Nat} (C : xC p s m args meth c cX4_add 3 RX4 none E b) (x1 : Int32) {y4 : xm}
    (kx0 : ∀ (H : Heap) (locs : List Loc) (ls : Array Slot), xM E b NX (cX E b y4) s.heap H locs → lv_has ls 3 [] → W p l e (xR 1) s m args below meth c H locs 0 0 Q (F0 m 49 ls [])) :
    ∀ (n : Nat) (M3 : xm) (x2 : Int32) (H : Heap) (locs : List Loc) (ls : Array Slot), g_X4_add_3 x1 n M3 x2 = some y4 → xM E b NX (cX E b M3) s.heap H locs → lv_has ls 3 [(0, .ref (b + 990)), (1, .int x1), (2, .int x2)] → W p l e (xR 1) s m args below meth c H locs 0 0 Q (F0 m 3 ls []) := by
  have hx := C.1.1
  have hb := C.1.2.1
  intro n
  induction n with
  | zero =>
    intro M3 x2 H locs ls hf hm hl
    rw [g_X4_add_3] at hf
    cases hf
  | succ n ih =>
    intro M3 x2 H locs ls hf hm hl
    rw [g_X4_add_3] at hf
    refine lv_iload_n hx hb dX4_add_3 rfl (lv_at hl 2 rfl) ?_
    refine lv_if_lt (tgt := 49) hx hb dX4_add_4 (by decide) (fun hc5 => ?_) (fun hc5 => ?_)
    · have hf := xif_t hc5 hf
      cases hf
      exact kx0 H locs ls hm (lv_sub hl [] rfl)
    have hf := xif_f hc5 hf
    refine lv_aload_n hx hb dX4_add_7 rfl (lv_at hl 0 rfl) ?_
    refine x_get C hm inX4 rfl 5 (by decide) tf_RX4_31 (cx_Reader (LX_reader 0 _ rfl)) rfl dX4_add_8 ?_
    refine lv_sipush (v := (300 : Int32)) hx hb dX4_add_11 (by decide) ?_
    refine lv_icmp_ge (tgt := 49) hx hb dX4_add_14 (by decide) (fun hc6 => ?_) (fun hc6 => ?_)
    · have hf := xif_t hc6 hf
      cases hf
      exact kx0 H locs ls hm (lv_sub hl [] rfl)
    have hf := xif_f hc6 hf
    refine lv_aload_n hx hb dX4_add_17 rfl (lv_at hl 0 rfl) ?_
    refine x_get C hm inX4 rfl 0 (by decide) tf_RX4_9 (cx_Reader (LX_reader 0 _ rfl)) rfl dX4_add_18 ?_
    refine lv_aload_n hx hb dX4_add_21 rfl (lv_at hl 0 rfl) ?_
    refine x_get C hm inX4 rfl 5 (by decide) tf_RX4_31 (cx_Reader (LX_reader 0 _ rfl)) rfl dX4_add_22 ?_
    refine lv_iload_n hx hb dX4_add_25 rfl (lv_at hl 1 rfl) ?_
    refine lv_iload_n hx hb dX4_add_26 rfl (lv_at hl 2 rfl) ?_
    refine lv_iushr hx hb dX4_add_27 rfl ?_
    refine lv_sipush (v := (255 : Int32)) hx hb dX4_add_28 (by decide) ?_
    refine lv_iand hx hb dX4_add_31 ?_
    obtain ⟨hi7, hf⟩ := xif_s hf
    obtain ⟨M8, eM8, hf⟩ := xlet_x hf
    refine x_iast (j := (Int32.toNatClampNeg (M3 990 5))) (cf' := cX E b M8) C hm (cx_I (LX_reader 1 _ rfl)) hi7 dX4_add_32 rfl (by rw [eM8]; exact cu_I (LX_reader 1 _ rfl)) (by rw [eM8]; exact cX_o) (fun H locs hm => ?_)
    refine lv_aload_n hx hb dX4_add_33 rfl (lv_at hl 0 rfl) ?_
    refine lv_dup hx hb dX4_add_34 rfl ?_
    refine x_get C hm inX4 rfl 5 (by decide) tf_RX4_31 (cx_Reader (LX_reader 0 _ rfl)) rfl dX4_add_35 ?_
    refine lv_iconst (v := (1 : Int32)) hx hb dX4_add_38 (by decide) ?_
    refine lv_iadd hx hb dX4_add_39 ?_
    obtain ⟨M9, eM9, hf⟩ := xlet_x hf
    refine x_put (cf' := cX E b M9) C hm inX4 tyX4 tyX4_ok nmX4 rfl 5 (by decide) tf_RX4_31 rfl rfl rfl (cx_Reader (LX_reader 0 _ rfl)) (Nat.le_of_ble_eq_true rfl) (by rw [eM9]; exact cu_Reader_5 (LX_reader 0 _ rfl)) (by rw [eM9]; exact cX_o) dX4_add_40 (fun H locs hm => ?_)
    obtain ⟨v10, ev10, hf⟩ := xlet_x hf
    refine lv_iinc (v := v10) (lv' := [(2, .int v10), (0, .ref (b + 990)), (1, .int x1)]) hx hb dX4_add_43 hl (k := 2) rfl (by rw [ev10]; rfl) (by decide) rfl (fun ls hl => ?_)
    refine lv_goto (tgt := 3) hx hb dX4_add_46 (by decide) ?_
    exact ih M9 v10 H locs ls hf hm (lv_sub hl [1, 2, 0] rfl)
set_option maxHeartbeats 4000000 in
set_option maxRecDepth 20000 in
theorem c_X4_add (l : Launch) (E : xE) (b : Nat) (M : xm) (a1 : Int32) {M' : xm} (hf : f_X4_add M a1 = some M') :
    xMet l E b NX yX4_add cX4_add 3 none (xR 1) [.ref (b + 990), .int a1] (cX E b M) none True (cX E b M') := by
  refine xMet.ofW (own := RX4) (by decide) rfl (Nat.le_of_ble_eq_true rfl) ?_
  intro p e s m below meth c H locs ls C hm hl
  have hx := C.1.1
  have hb := C.1.2.1
  have hl : lv_has ls 3 [(0, .ref (b + 990)), (1, .int a1)] := hl
  unfold f_X4_add at hf
  refine lv_bipush (v := (24 : Int32)) hx hb dX4_add_0 (by decide) ?_
  refine lv_istore_n (lv' := [(2, .int (24 : Int32)), (0, .ref (b + 990)), (1, .int a1)]) hx hb dX4_add_2 rfl hl (by decide) rfl (fun ls hl => ?_)
  obtain ⟨M11, hq, hf⟩ := xb1_e hf
  refine j_X4_add_3 C a1 (fun H locs ls hm hl => ?_) xfuel M (24 : Int32) H locs ls hq hm (lv_sub hl [1, 2, 0] rfl)
  cases hf
  exact x_vret C hm trivial dX4_add_49
/-! ColouredHeap$Reader.addToken(III)V -/
theorem dX4_addToken_0 : decode cX4_addToken 0 = .ok (.aload_n 0, 1) := by decide +kernel
theorem dX4_addToken_1 : decode cX4_addToken 1 = .ok (.getfield 41, 3) := by decide +kernel
theorem dX4_addToken_4 : decode cX4_addToken 4 = .ok (.sipush 300, 3) := by decide +kernel
theorem dX4_addToken_7 : decode cX4_addToken 7 = .ok (.if_icmp .gt 43, 3) := by decide +kernel
theorem dX4_addToken_10 : decode cX4_addToken 10 = .ok (.aload_n 0, 1) := by decide +kernel
theorem dX4_addToken_11 : decode cX4_addToken 11 = .ok (.getfield 15, 3) := by decide +kernel
theorem dX4_addToken_14 : decode cX4_addToken 14 = .ok (.aload_n 0, 1) := by decide +kernel
theorem dX4_addToken_15 : decode cX4_addToken 15 = .ok (.getfield 41, 3) := by decide +kernel
theorem dX4_addToken_18 : decode cX4_addToken 18 = .ok (.iload_n 1, 1) := by decide +kernel
theorem dX4_addToken_19 : decode cX4_addToken 19 = .ok (.iastore, 1) := by decide +kernel
theorem dX4_addToken_20 : decode cX4_addToken 20 = .ok (.aload_n 0, 1) := by decide +kernel
theorem dX4_addToken_21 : decode cX4_addToken 21 = .ok (.getfield 18, 3) := by decide +kernel
theorem dX4_addToken_24 : decode cX4_addToken 24 = .ok (.aload_n 0, 1) := by decide +kernel
theorem dX4_addToken_25 : decode cX4_addToken 25 = .ok (.getfield 41, 3) := by decide +kernel
theorem dX4_addToken_28 : decode cX4_addToken 28 = .ok (.iload_n 2, 1) := by decide +kernel
theorem dX4_addToken_29 : decode cX4_addToken 29 = .ok (.iastore, 1) := by decide +kernel
theorem dX4_addToken_30 : decode cX4_addToken 30 = .ok (.aload_n 0, 1) := by decide +kernel
theorem dX4_addToken_31 : decode cX4_addToken 31 = .ok (.getfield 21, 3) := by decide +kernel
theorem dX4_addToken_34 : decode cX4_addToken 34 = .ok (.aload_n 0, 1) := by decide +kernel
theorem dX4_addToken_35 : decode cX4_addToken 35 = .ok (.getfield 41, 3) := by decide +kernel
theorem dX4_addToken_38 : decode cX4_addToken 38 = .ok (.iload_n 3, 1) := by decide +kernel
theorem dX4_addToken_39 : decode cX4_addToken 39 = .ok (.iastore, 1) := by decide +kernel
theorem dX4_addToken_40 : decode cX4_addToken 40 = .ok (.aload_n 0, 1) := by decide +kernel
theorem dX4_addToken_41 : decode cX4_addToken 41 = .ok (.dup, 1) := by decide +kernel
theorem dX4_addToken_42 : decode cX4_addToken 42 = .ok (.getfield 41, 3) := by decide +kernel
theorem dX4_addToken_45 : decode cX4_addToken 45 = .ok (.iconst 1, 1) := by decide +kernel
theorem dX4_addToken_46 : decode cX4_addToken 46 = .ok (.iadd, 1) := by decide +kernel
theorem dX4_addToken_47 : decode cX4_addToken 47 = .ok (.putfield 41, 3) := by decide +kernel
theorem dX4_addToken_50 : decode cX4_addToken 50 = .ok (.return_, 1) := by decide +kernel
def f_X4_addToken (M : xm) (a1 : Int32) (a2 : Int32) (a3 : Int32) : Option (xm) := (if (300 : Int32) < (M 990 8) then some M else if xin (M 990 8) 301 = true then xlet (up2 M (990 + 2) (Int32.toNatClampNeg (M 990 8)) a1) (fun M3 => if xin (M3 990 8) 301 = true then xlet (up2 M3 (990 + 3) (Int32.toNatClampNeg (M3 990 8)) a2) (fun M5 => if xin (M5 990 8) 301 = true then xlet (up2 M5 (990 + 4) (Int32.toNatClampNeg (M5 990 8)) a3) (fun M7 => xlet (up2 M7 990 8 ((M7 990 8) + (1 : Int32))) (fun M8 => some M8)) else none) else none) else none)
set_option maxHeartbeats 4000000 in
set_option maxRecDepth 20000 in
theorem c_X4_addToken (l : Launch) (E : xE) (b : Nat) (M : xm) (a1 : Int32) (a2 : Int32) (a3 : Int32) {M' : xm} (hf : f_X4_addToken M a1 a2 a3 = some M') :
    xMet l E b NX yX4_addToken cX4_addToken 4 none (xR 1) [.ref (b + 990), .int a1, .int a2, .int a3] (cX E b M) none True (cX E b M') := by
  refine xMet.ofW (own := RX4) (by decide) rfl (Nat.le_of_ble_eq_true rfl) ?_
  intro p e s m below meth c H locs ls C hm hl
  have hx := C.1.1
  have hb := C.1.2.1
  have hl : lv_has ls 4 [(0, .ref (b + 990)), (1, .int a1), (2, .int a2), (3, .int a3)] := hl
  unfold f_X4_addToken at hf
  refine lv_aload_n hx hb dX4_addToken_0 rfl (lv_at hl 0 rfl) ?_
  refine x_get C hm inX4 rfl 8 (by decide) tf_RX4_41 (cx_Reader (LX_reader 0 _ rfl)) rfl dX4_addToken_1 ?_
  refine lv_sipush (v := (300 : Int32)) hx hb dX4_addToken_4 (by decide) ?_
  refine lv_icmp_gt (tgt := 50) hx hb dX4_addToken_7 (by decide) (fun hc1 => ?_) (fun hc1 => ?_)
  · have hf := xif_t hc1 hf
    cases hf
    exact x_vret C hm trivial dX4_addToken_50
  have hf := xif_f hc1 hf
  refine lv_aload_n hx hb dX4_addToken_10 rfl (lv_at hl 0 rfl) ?_
  refine x_get C hm inX4 rfl 1 (by decide) tf_RX4_15 (cx_Reader (LX_reader 0 _ rfl)) rfl dX4_addToken_11 ?_
  refine lv_aload_n hx hb dX4_addToken_14 rfl (lv_at hl 0 rfl) ?_
  refine x_get C hm inX4 rfl 8 (by decide) tf_RX4_41 (cx_Reader (LX_reader 0 _ rfl)) rfl dX4_addToken_15 ?_
  refine lv_iload_n hx hb dX4_addToken_18 rfl (lv_at hl 1 rfl) ?_
  obtain ⟨hi2, hf⟩ := xif_s hf
  obtain ⟨M3, eM3, hf⟩ := xlet_x hf
  refine x_iast (j := (Int32.toNatClampNeg (M 990 8))) (cf' := cX E b M3) C hm (cx_I (LX_reader 2 _ rfl)) hi2 dX4_addToken_19 rfl (by rw [eM3]; exact cu_I (LX_reader 2 _ rfl)) (by rw [eM3]; exact cX_o) (fun H locs hm => ?_)
  refine lv_aload_n hx hb dX4_addToken_20 rfl (lv_at hl 0 rfl) ?_
  refine x_get C hm inX4 rfl 2 (by decide) tf_RX4_18 (cx_Reader (LX_reader 0 _ rfl)) rfl dX4_addToken_21 ?_
  refine lv_aload_n hx hb dX4_addToken_24 rfl (lv_at hl 0 rfl) ?_
  refine x_get C hm inX4 rfl 8 (by decide) tf_RX4_41 (cx_Reader (LX_reader 0 _ rfl)) rfl dX4_addToken_25 ?_
  refine lv_iload_n hx hb dX4_addToken_28 rfl (lv_at hl 2 rfl) ?_
  obtain ⟨hi4, hf⟩ := xif_s hf
  obtain ⟨M5, eM5, hf⟩ := xlet_x hf
  refine x_iast (j := (Int32.toNatClampNeg (M3 990 8))) (cf' := cX E b M5) C hm (cx_I (LX_reader 3 _ rfl)) hi4 dX4_addToken_29 rfl (by rw [eM5]; exact cu_I (LX_reader 3 _ rfl)) (by rw [eM5]; exact cX_o) (fun H locs hm => ?_)
  refine lv_aload_n hx hb dX4_addToken_30 rfl (lv_at hl 0 rfl) ?_
  refine x_get C hm inX4 rfl 3 (by decide) tf_RX4_21 (cx_Reader (LX_reader 0 _ rfl)) rfl dX4_addToken_31 ?_
  refine lv_aload_n hx hb dX4_addToken_34 rfl (lv_at hl 0 rfl) ?_
  refine x_get C hm inX4 rfl 8 (by decide) tf_RX4_41 (cx_Reader (LX_reader 0 _ rfl)) rfl dX4_addToken_35 ?_
  refine lv_iload_n hx hb dX4_addToken_38 rfl (lv_at hl 3 rfl) ?_
  obtain ⟨hi6, hf⟩ := xif_s hf
  obtain ⟨M7, eM7, hf⟩ := xlet_x hf
  refine x_iast (j := (Int32.toNatClampNeg (M5 990 8))) (cf' := cX E b M7) C hm (cx_I (LX_reader 4 _ rfl)) hi6 dX4_addToken_39 rfl (by rw [eM7]; exact cu_I (LX_reader 4 _ rfl)) (by rw [eM7]; exact cX_o) (fun H locs hm => ?_)
  refine lv_aload_n hx hb dX4_addToken_40 rfl (lv_at hl 0 rfl) ?_
  refine lv_dup hx hb dX4_addToken_41 rfl ?_
  refine x_get C hm inX4 rfl 8 (by decide) tf_RX4_41 (cx_Reader (LX_reader 0 _ rfl)) rfl dX4_addToken_42 ?_
  refine lv_iconst (v := (1 : Int32)) hx hb dX4_addToken_45 (by decide) ?_
  refine lv_iadd hx hb dX4_addToken_46 ?_
  obtain ⟨M8, eM8, hf⟩ := xlet_x hf
  refine x_put (cf' := cX E b M8) C hm inX4 tyX4 tyX4_ok nmX4 rfl 8 (by decide) tf_RX4_41 rfl rfl rfl (cx_Reader (LX_reader 0 _ rfl)) (Nat.le_of_ble_eq_true rfl) (by rw [eM8]; exact cu_Reader_8 (LX_reader 0 _ rfl)) (by rw [eM8]; exact cX_o) dX4_addToken_47 (fun H locs hm => ?_)
  cases hf
  exact x_vret C hm trivial dX4_addToken_50
/-! ColouredHeap$Text.addCode(II)I -/
theorem dX7_addCode_0 : decode cX7_addCode 0 = .ok (.aload_n 0, 1) := by decide +kernel
theorem dX7_addCode_1 : decode cX7_addCode 1 = .ok (.getfield 40, 3) := by decide +kernel
theorem dX7_addCode_4 : decode cX7_addCode 4 = .ok (.sipush 300, 3) := by decide +kernel
theorem dX7_addCode_7 : decode cX7_addCode 7 = .ok (.if_icmp .lt 5, 3) := by decide +kernel
theorem dX7_addCode_10 : decode cX7_addCode 10 = .ok (.iconst (-1), 1) := by decide +kernel
theorem dX7_addCode_11 : decode cX7_addCode 11 = .ok (.ireturn, 1) := by decide +kernel
theorem dX7_addCode_12 : decode cX7_addCode 12 = .ok (.aload_n 0, 1) := by decide +kernel
theorem dX7_addCode_13 : decode cX7_addCode 13 = .ok (.getfield 24, 3) := by decide +kernel
theorem dX7_addCode_16 : decode cX7_addCode 16 = .ok (.aload_n 0, 1) := by decide +kernel
theorem dX7_addCode_17 : decode cX7_addCode 17 = .ok (.getfield 40, 3) := by decide +kernel
theorem dX7_addCode_20 : decode cX7_addCode 20 = .ok (.iload_n 1, 1) := by decide +kernel
theorem dX7_addCode_21 : decode cX7_addCode 21 = .ok (.iastore, 1) := by decide +kernel
theorem dX7_addCode_22 : decode cX7_addCode 22 = .ok (.aload_n 0, 1) := by decide +kernel
theorem dX7_addCode_23 : decode cX7_addCode 23 = .ok (.getfield 27, 3) := by decide +kernel
theorem dX7_addCode_26 : decode cX7_addCode 26 = .ok (.aload_n 0, 1) := by decide +kernel
theorem dX7_addCode_27 : decode cX7_addCode 27 = .ok (.getfield 40, 3) := by decide +kernel
theorem dX7_addCode_30 : decode cX7_addCode 30 = .ok (.iload_n 2, 1) := by decide +kernel
theorem dX7_addCode_31 : decode cX7_addCode 31 = .ok (.iastore, 1) := by decide +kernel
theorem dX7_addCode_32 : decode cX7_addCode 32 = .ok (.aload_n 0, 1) := by decide +kernel
theorem dX7_addCode_33 : decode cX7_addCode 33 = .ok (.dup, 1) := by decide +kernel
theorem dX7_addCode_34 : decode cX7_addCode 34 = .ok (.getfield 40, 3) := by decide +kernel
theorem dX7_addCode_37 : decode cX7_addCode 37 = .ok (.iconst 1, 1) := by decide +kernel
theorem dX7_addCode_38 : decode cX7_addCode 38 = .ok (.iadd, 1) := by decide +kernel
theorem dX7_addCode_39 : decode cX7_addCode 39 = .ok (.putfield 40, 3) := by decide +kernel
theorem dX7_addCode_42 : decode cX7_addCode 42 = .ok (.aload_n 0, 1) := by decide +kernel
theorem dX7_addCode_43 : decode cX7_addCode 43 = .ok (.getfield 40, 3) := by decide +kernel
theorem dX7_addCode_46 : decode cX7_addCode 46 = .ok (.iconst 1, 1) := by decide +kernel
theorem dX7_addCode_47 : decode cX7_addCode 47 = .ok (.isub, 1) := by decide +kernel
theorem dX7_addCode_48 : decode cX7_addCode 48 = .ok (.ireturn, 1) := by decide +kernel
def f_X7_addCode (u0 : Nat) (M : xm) (a1 : Int32) (a2 : Int32) : Option (Int32 × xm) := (if (M u0 9) < (300 : Int32) then if xin (M u0 9) 300 = true then xlet (up2 M (u0 + 5) (Int32.toNatClampNeg (M u0 9)) a1) (fun M3 => if xin (M3 u0 9) 300 = true then xlet (up2 M3 (u0 + 6) (Int32.toNatClampNeg (M3 u0 9)) a2) (fun M5 => xlet (up2 M5 u0 9 ((M5 u0 9) + (1 : Int32))) (fun M6 => some (((M6 u0 9) - (1 : Int32)), M6))) else none) else none else some ((-1 : Int32), M))
set_option maxHeartbeats 4000000 in
set_option maxRecDepth 20000 in
theorem c_X7_addCode (l : Launch) (E : xE) (b : Nat) {u0 : Nat} (L_u0 : lat u0 pText) (M : xm) (a1 : Int32) (a2 : Int32) {r : Int32} {M' : xm} (hf : f_X7_addCode u0 M a1 a2 = some (r, M')) :
    xMet l E b NX yX7_addCode cX7_addCode 3 (some .int) (xR 1) [.ref (b + u0), .int a1, .int a2] (cX E b M) (some (.int r)) True (cX E b M') := by
  refine xMet.ofW (own := RX7) (by decide) rfl (Nat.le_of_ble_eq_true rfl) ?_
  intro p e s m below meth c H locs ls C hm hl
  have hx := C.1.1
  have hb := C.1.2.1
  have hl : lv_has ls 3 [(0, .ref (b + u0)), (1, .int a1), (2, .int a2)] := hl
  unfold f_X7_addCode at hf
  refine lv_aload_n hx hb dX7_addCode_0 rfl (lv_at hl 0 rfl) ?_
  refine x_get C hm inX7 rfl 9 (by decide) tf_RX7_40 (cx_Text (L_u0 0 _ rfl)) rfl dX7_addCode_1 ?_
  refine lv_sipush (v := (300 : Int32)) hx hb dX7_addCode_4 (by decide) ?_
  refine lv_icmp_lt (tgt := 12) hx hb dX7_addCode_7 (by decide) (fun hc1 => ?_) (fun hc1 => ?_)
  rotate_left
  · have hf := xif_f hc1 hf
    refine lv_iconst (v := (-1 : Int32)) hx hb dX7_addCode_10 (by decide) ?_
    cases hf
    exact x_iret C hm trivial dX7_addCode_11
  have hf := xif_t hc1 hf
  refine lv_aload_n hx hb dX7_addCode_12 rfl (lv_at hl 0 rfl) ?_
  refine x_get C hm inX7 rfl 4 (by decide) tf_RX7_24 (cx_Text (L_u0 0 _ rfl)) rfl dX7_addCode_13 ?_
  refine lv_aload_n hx hb dX7_addCode_16 rfl (lv_at hl 0 rfl) ?_
  refine x_get C hm inX7 rfl 9 (by decide) tf_RX7_40 (cx_Text (L_u0 0 _ rfl)) rfl dX7_addCode_17 ?_
  refine lv_iload_n hx hb dX7_addCode_20 rfl (lv_at hl 1 rfl) ?_
  obtain ⟨hi2, hf⟩ := xif_s hf
  obtain ⟨M3, eM3, hf⟩ := xlet_x hf
  refine x_iast (j := (Int32.toNatClampNeg (M u0 9))) (cf' := cX E b M3) C hm (cx_I (L_u0 5 _ rfl)) hi2 dX7_addCode_21 rfl (by rw [eM3]; exact cu_I (L_u0 5 _ rfl)) (by rw [eM3]; exact cX_o) (fun H locs hm => ?_)
  refine lv_aload_n hx hb dX7_addCode_22 rfl (lv_at hl 0 rfl) ?_
  refine x_get C hm inX7 rfl 5 (by decide) tf_RX7_27 (cx_Text (L_u0 0 _ rfl)) rfl dX7_addCode_23 ?_
  refine lv_aload_n hx hb dX7_addCode_26 rfl (lv_at hl 0 rfl) ?_
  refine x_get C hm inX7 rfl 9 (by decide) tf_RX7_40 (cx_Text (L_u0 0 _ rfl)) rfl dX7_addCode_27 ?_
  refine lv_iload_n hx hb dX7_addCode_30 rfl (lv_at hl 2 rfl) ?_
  obtain ⟨hi4, hf⟩ := xif_s hf
  obtain ⟨M5, eM5, hf⟩ := xlet_x hf
  refine x_iast (j := (Int32.toNatClampNeg (M3 u0 9))) (cf' := cX E b M5) C hm (cx_I (L_u0 6 _ rfl)) hi4 dX7_addCode_31 rfl (by rw [eM5]; exact cu_I (L_u0 6 _ rfl)) (by rw [eM5]; exact cX_o) (fun H locs hm => ?_)
  refine lv_aload_n hx hb dX7_addCode_32 rfl (lv_at hl 0 rfl) ?_
  refine lv_dup hx hb dX7_addCode_33 rfl ?_
  refine x_get C hm inX7 rfl 9 (by decide) tf_RX7_40 (cx_Text (L_u0 0 _ rfl)) rfl dX7_addCode_34 ?_
  refine lv_iconst (v := (1 : Int32)) hx hb dX7_addCode_37 (by decide) ?_
  refine lv_iadd hx hb dX7_addCode_38 ?_
  obtain ⟨M6, eM6, hf⟩ := xlet_x hf
  refine x_put (cf' := cX E b M6) C hm inX7 tyX7 tyX7_ok nmX7 rfl 9 (by decide) tf_RX7_40 rfl rfl rfl (cx_Text (L_u0 0 _ rfl)) (Nat.le_of_ble_eq_true rfl) (by rw [eM6]; exact cu_Text_9 (L_u0 0 _ rfl)) (by rw [eM6]; exact cX_o) dX7_addCode_39 (fun H locs hm => ?_)
  refine lv_aload_n hx hb dX7_addCode_42 rfl (lv_at hl 0 rfl) ?_
  refine x_get C hm inX7 rfl 9 (by decide) tf_RX7_40 (cx_Text (L_u0 0 _ rfl)) rfl dX7_addCode_43 ?_
  refine lv_iconst (v := (1 : Int32)) hx hb dX7_addCode_46 (by decide) ?_
  refine lv_isub hx hb dX7_addCode_47 ?_
  cases hf
  exact x_iret C hm trivial dX7_addCode_48
/-! ColouredHeap$Reader.emit(II)I -/
theorem dX4_emit_0 : decode cX4_emit 0 = .ok (.aload_n 0, 1) := by decide +kernel
theorem dX4_emit_1 : decode cX4_emit 1 = .ok (.getfield 35, 3) := by decide +kernel
theorem dX4_emit_4 : decode cX4_emit 4 = .ok (.ifCond .ne 15, 3) := by decide +kernel
theorem dX4_emit_7 : decode cX4_emit 7 = .ok (.aload_n 0, 1) := by decide +kernel
theorem dX4_emit_8 : decode cX4_emit 8 = .ok (.getfield 27, 3) := by decide +kernel
theorem dX4_emit_11 : decode cX4_emit 11 = .ok (.iload_n 1, 1) := by decide +kernel
theorem dX4_emit_12 : decode cX4_emit 12 = .ok (.iload_n 2, 1) := by decide +kernel
theorem dX4_emit_13 : decode cX4_emit 13 = .ok (.invokevirtual 155, 3) := by decide +kernel
theorem dX4_emit_16 : decode cX4_emit 16 = .ok (.goto 4, 3) := by decide +kernel
theorem dX4_emit_19 : decode cX4_emit 19 = .ok (.iconst (-1), 1) := by decide +kernel
theorem dX4_emit_20 : decode cX4_emit 20 = .ok (.ireturn, 1) := by decide +kernel
def f_X4_emit (M : xm) (a1 : Int32) (a2 : Int32) : Option (Int32 × xm) := (if (M 990 6) = 0 then xb2 (f_X7_addCode (990 + 5) M a1 a2) (fun v3 M4 => some (v3, M4)) else some ((-1 : Int32), M))
set_option maxHeartbeats 4000000 in
set_option maxRecDepth 20000 in
theorem c_X4_emit (l : Launch) (E : xE) (b : Nat) (M : xm) (a1 : Int32) (a2 : Int32) {r : Int32} {M' : xm} (hf : f_X4_emit M a1 a2 = some (r, M')) :
    xMet l E b NX yX4_emit cX4_emit 3 (some .int) (xR 2) [.ref (b + 990), .int a1, .int a2] (cX E b M) (some (.int r)) True (cX E b M') := by
  refine xMet.ofW (own := RX4) (by decide) rfl (Nat.le_of_ble_eq_true rfl) ?_
  intro p e s m below meth c H locs ls C hm hl
  have hx := C.1.1
  have hb := C.1.2.1
  have hl : lv_has ls 3 [(0, .ref (b + 990)), (1, .int a1), (2, .int a2)] := hl
  unfold f_X4_emit at hf
  refine lv_aload_n hx hb dX4_emit_0 rfl (lv_at hl 0 rfl) ?_
  refine x_get C hm inX4 rfl 6 (by decide) tf_RX4_35 (cx_Reader (LX_reader 0 _ rfl)) rfl dX4_emit_1 ?_
  refine lv_if_ne (tgt := 19) hx hb dX4_emit_4 (by decide) (fun hc1 => ?_) (fun hc1 => ?_)
  · have hf := xif_f hc1 hf
    refine lv_iconst (v := (-1 : Int32)) hx hb dX4_emit_19 (by decide) ?_
    cases hf
    exact x_iret C hm trivial dX4_emit_20
  have hf := xif_t hc1 hf
  refine lv_aload_n hx hb dX4_emit_7 rfl (lv_at hl 0 rfl) ?_
  refine x_get C hm inX4 rfl 4 (by decide) tf_RX4_27 (cx_Reader (LX_reader 0 _ rfl)) rfl dX4_emit_8 ?_
  refine lv_iload_n hx hb dX4_emit_11 rfl (lv_at hl 1 rfl) ?_
  refine lv_iload_n hx hb dX4_emit_12 rfl (lv_at hl 2 rfl) ?_
  obtain ⟨v3, M4, hq2, hf⟩ := xb2_e hf
  refine x_callVi (As := [.int a1, .int a2]) (rest := []) C hm (c_X7_addCode l E b (lat_draft LX_reader) M a1 a2 hq2) rfl (cx_Text ((lat_draft LX_reader) 0 _ rfl)) tc_X7_addCode tm_RX4_155 ti_X7_addCode ts_X7_addCode tn_RX7 td_X7_addCode rfl rfl ⟨Nat.le_of_ble_eq_true rfl, Nat.le_of_ble_eq_true rfl⟩ rfl hl.1 rfl (Nat.le_of_ble_eq_true rfl) ⟨Nat.zero_le _, Nat.zero_le _⟩ dX4_emit_13 (fun H locs hP5 hm => ?_)
  refine lv_goto (tgt := 20) hx hb dX4_emit_16 (by decide) ?_
  cases hf
  exact x_iret C hm trivial dX4_emit_20
/-! ColouredHeap$Reader.nextKind()I -/
theorem dX4_nextKind_0 : decode cX4_nextKind 0 = .ok (.aload_n 0, 1) := by decide +kernel
theorem dX4_nextKind_1 : decode cX4_nextKind 1 = .ok (.getfield 35, 3) := by decide +kernel
theorem dX4_nextKind_4 : decode cX4_nextKind 4 = .ok (.ifCond .ne 33, 3) := by decide +kernel
theorem dX4_nextKind_7 : decode cX4_nextKind 7 = .ok (.aload_n 0, 1) := by decide +kernel
theorem dX4_nextKind_8 : decode cX4_nextKind 8 = .ok (.getfield 44, 3) := by decide +kernel
theorem dX4_nextKind_11 : decode cX4_nextKind 11 = .ok (.ifCond .lt 26, 3) := by decide +kernel
theorem dX4_nextKind_14 : decode cX4_nextKind 14 = .ok (.aload_n 0, 1) := by decide +kernel
theorem dX4_nextKind_15 : decode cX4_nextKind 15 = .ok (.getfield 44, 3) := by decide +kernel
theorem dX4_nextKind_18 : decode cX4_nextKind 18 = .ok (.aload_n 0, 1) := by decide +kernel
theorem dX4_nextKind_19 : decode cX4_nextKind 19 = .ok (.getfield 41, 3) := by decide +kernel
theorem dX4_nextKind_22 : decode cX4_nextKind 22 = .ok (.if_icmp .ge 15, 3) := by decide +kernel
theorem dX4_nextKind_25 : decode cX4_nextKind 25 = .ok (.aload_n 0, 1) := by decide +kernel
theorem dX4_nextKind_26 : decode cX4_nextKind 26 = .ok (.getfield 15, 3) := by decide +kernel
theorem dX4_nextKind_29 : decode cX4_nextKind 29 = .ok (.aload_n 0, 1) := by decide +kernel
theorem dX4_nextKind_30 : decode cX4_nextKind 30 = .ok (.getfield 44, 3) := by decide +kernel
theorem dX4_nextKind_33 : decode cX4_nextKind 33 = .ok (.iaload, 1) := by decide +kernel
theorem dX4_nextKind_34 : decode cX4_nextKind 34 = .ok (.goto 5, 3) := by decide +kernel
theorem dX4_nextKind_37 : decode cX4_nextKind 37 = .ok (.bipush 42, 2) := by decide +kernel
theorem dX4_nextKind_39 : decode cX4_nextKind 39 = .ok (.ireturn, 1) := by decide +kernel
def f_X4_nextKind (M : xm) : Option (Int32) := (if (M 990 6) = 0 then (if (M 990 9) < 0 then some (42 : Int32) else (if (M 990 8) ≤ (M 990 9) then some (42 : Int32) else if xin (M 990 9) 301 = true then some (M (990 + 2) (Int32.toNatClampNeg (M 990 9))) else none)) else some (42 : Int32))
set_option maxHeartbeats 4000000 in
set_option maxRecDepth 20000 in
theorem c_X4_nextKind (l : Launch) (E : xE) (b : Nat) (M : xm) {r : Int32} (hf : f_X4_nextKind M = some r) :
    xMet l E b NX yX4_nextKind cX4_nextKind 1 (some .int) (xR 1) [.ref (b + 990)] (cX E b M) (some (.int r)) True (cX E b M) := by
  refine xMet.ofW (own := RX4) (by decide) rfl (Nat.le_of_ble_eq_true rfl) ?_
  intro p e s m below meth c H locs ls C hm hl
  have hx := C.1.1
  have hb := C.1.2.1
  have hl : lv_has ls 1 [(0, .ref (b + 990))] := hl
  unfold f_X4_nextKind at hf
  refine lv_aload_n hx hb dX4_nextKind_0 rfl (lv_at hl 0 rfl) ?_
  refine x_get C hm inX4 rfl 6 (by decide) tf_RX4_35 (cx_Reader (LX_reader 0 _ rfl)) rfl dX4_nextKind_1 ?_
  refine lv_if_ne (tgt := 37) hx hb dX4_nextKind_4 (by decide) (fun hc1 => ?_) (fun hc1 => ?_)
  · have hf := xif_f hc1 hf
    refine lv_bipush (v := (42 : Int32)) hx hb dX4_nextKind_37 (by decide) ?_
    cases hf
    exact x_iret C hm trivial dX4_nextKind_39
  have hf := xif_t hc1 hf
  refine lv_aload_n hx hb dX4_nextKind_7 rfl (lv_at hl 0 rfl) ?_
  refine x_get C hm inX4 rfl 9 (by decide) tf_RX4_44 (cx_Reader (LX_reader 0 _ rfl)) rfl dX4_nextKind_8 ?_
  refine lv_if_lt (tgt := 37) hx hb dX4_nextKind_11 (by decide) (fun hc2 => ?_) (fun hc2 => ?_)
  · have hf := xif_t hc2 hf
    refine lv_bipush (v := (42 : Int32)) hx hb dX4_nextKind_37 (by decide) ?_
    cases hf
    exact x_iret C hm trivial dX4_nextKind_39
  have hf := xif_f hc2 hf
  refine lv_aload_n hx hb dX4_nextKind_14 rfl (lv_at hl 0 rfl) ?_
  refine x_get C hm inX4 rfl 9 (by decide) tf_RX4_44 (cx_Reader (LX_reader 0 _ rfl)) rfl dX4_nextKind_15 ?_
  refine lv_aload_n hx hb dX4_nextKind_18 rfl (lv_at hl 0 rfl) ?_
  refine x_get C hm inX4 rfl 8 (by decide) tf_RX4_41 (cx_Reader (LX_reader 0 _ rfl)) rfl dX4_nextKind_19 ?_
  refine lv_icmp_ge (tgt := 37) hx hb dX4_nextKind_22 (by decide) (fun hc3 => ?_) (fun hc3 => ?_)
  · have hf := xif_t hc3 hf
    refine lv_bipush (v := (42 : Int32)) hx hb dX4_nextKind_37 (by decide) ?_
    cases hf
    exact x_iret C hm trivial dX4_nextKind_39
  have hf := xif_f hc3 hf
  refine lv_aload_n hx hb dX4_nextKind_25 rfl (lv_at hl 0 rfl) ?_
  refine x_get C hm inX4 rfl 1 (by decide) tf_RX4_15 (cx_Reader (LX_reader 0 _ rfl)) rfl dX4_nextKind_26 ?_
  refine lv_aload_n hx hb dX4_nextKind_29 rfl (lv_at hl 0 rfl) ?_
  refine x_get C hm inX4 rfl 9 (by decide) tf_RX4_44 (cx_Reader (LX_reader 0 _ rfl)) rfl dX4_nextKind_30 ?_
  obtain ⟨hi4, hf⟩ := xif_s hf
  refine x_iald (j := (Int32.toNatClampNeg (M 990 9))) C hm (cx_I (LX_reader 2 _ rfl)) hi4 dX4_nextKind_33 rfl ?_
  refine lv_goto (tgt := 39) hx hb dX4_nextKind_34 (by decide) ?_
  cases hf
  exact x_iret C hm trivial dX4_nextKind_39
/-! ColouredHeap$Reader.refuse(I)V -/
theorem dX4_refuse_0 : decode cX4_refuse 0 = .ok (.aload_n 0, 1) := by decide +kernel
theorem dX4_refuse_1 : decode cX4_refuse 1 = .ok (.getfield 35, 3) := by decide +kernel
theorem dX4_refuse_4 : decode cX4_refuse 4 = .ok (.ifCond .ne 39, 3) := by decide +kernel
theorem dX4_refuse_7 : decode cX4_refuse 7 = .ok (.aload_n 0, 1) := by decide +kernel
theorem dX4_refuse_8 : decode cX4_refuse 8 = .ok (.getfield 44, 3) := by decide +kernel
theorem dX4_refuse_11 : decode cX4_refuse 11 = .ok (.ifCond .lt 32, 3) := by decide +kernel
theorem dX4_refuse_14 : decode cX4_refuse 14 = .ok (.aload_n 0, 1) := by decide +kernel
theorem dX4_refuse_15 : decode cX4_refuse 15 = .ok (.getfield 44, 3) := by decide +kernel
theorem dX4_refuse_18 : decode cX4_refuse 18 = .ok (.aload_n 0, 1) := by decide +kernel
theorem dX4_refuse_19 : decode cX4_refuse 19 = .ok (.getfield 41, 3) := by decide +kernel
theorem dX4_refuse_22 : decode cX4_refuse 22 = .ok (.if_icmp .ge 21, 3) := by decide +kernel
theorem dX4_refuse_25 : decode cX4_refuse 25 = .ok (.aload_n 0, 1) := by decide +kernel
theorem dX4_refuse_26 : decode cX4_refuse 26 = .ok (.iload_n 1, 1) := by decide +kernel
theorem dX4_refuse_27 : decode cX4_refuse 27 = .ok (.putfield 35, 3) := by decide +kernel
theorem dX4_refuse_30 : decode cX4_refuse 30 = .ok (.aload_n 0, 1) := by decide +kernel
theorem dX4_refuse_31 : decode cX4_refuse 31 = .ok (.aload_n 0, 1) := by decide +kernel
theorem dX4_refuse_32 : decode cX4_refuse 32 = .ok (.getfield 18, 3) := by decide +kernel
theorem dX4_refuse_35 : decode cX4_refuse 35 = .ok (.aload_n 0, 1) := by decide +kernel
theorem dX4_refuse_36 : decode cX4_refuse 36 = .ok (.getfield 44, 3) := by decide +kernel
theorem dX4_refuse_39 : decode cX4_refuse 39 = .ok (.iaload, 1) := by decide +kernel
theorem dX4_refuse_40 : decode cX4_refuse 40 = .ok (.putfield 38, 3) := by decide +kernel
theorem dX4_refuse_43 : decode cX4_refuse 43 = .ok (.return_, 1) := by decide +kernel
def f_X4_refuse (M : xm) (a1 : Int32) : Option (xm) := (if (M 990 6) = 0 then (if (M 990 9) < 0 then some M else (if (M 990 8) ≤ (M 990 9) then some M else xlet (up2 M 990 6 a1) (fun M4 => if xin (M4 990 9) 301 = true then xlet (up2 M4 990 7 (M4 (990 + 3) (Int32.toNatClampNeg (M4 990 9)))) (fun M6 => some M6) else none))) else some M)
set_option maxHeartbeats 4000000 in
set_option maxRecDepth 20000 in
theorem c_X4_refuse (l : Launch) (E : xE) (b : Nat) (M : xm) (a1 : Int32) {M' : xm} (hf : f_X4_refuse M a1 = some M') :
    xMet l E b NX yX4_refuse cX4_refuse 2 none (xR 1) [.ref (b + 990), .int a1] (cX E b M) none True (cX E b M') := by
  refine xMet.ofW (own := RX4) (by decide) rfl (Nat.le_of_ble_eq_true rfl) ?_
  intro p e s m below meth c H locs ls C hm hl
  have hx := C.1.1
  have hb := C.1.2.1
  have hl : lv_has ls 2 [(0, .ref (b + 990)), (1, .int a1)] := hl
  unfold f_X4_refuse at hf
  refine lv_aload_n hx hb dX4_refuse_0 rfl (lv_at hl 0 rfl) ?_
  refine x_get C hm inX4 rfl 6 (by decide) tf_RX4_35 (cx_Reader (LX_reader 0 _ rfl)) rfl dX4_refuse_1 ?_
  refine lv_if_ne (tgt := 43) hx hb dX4_refuse_4 (by decide) (fun hc1 => ?_) (fun hc1 => ?_)
  · have hf := xif_f hc1 hf
    cases hf
    exact x_vret C hm trivial dX4_refuse_43
  have hf := xif_t hc1 hf
  refine lv_aload_n hx hb dX4_refuse_7 rfl (lv_at hl 0 rfl) ?_
  refine x_get C hm inX4 rfl 9 (by decide) tf_RX4_44 (cx_Reader (LX_reader 0 _ rfl)) rfl dX4_refuse_8 ?_
  refine lv_if_lt (tgt := 43) hx hb dX4_refuse_11 (by decide) (fun hc2 => ?_) (fun hc2 => ?_)
  · have hf := xif_t hc2 hf
    cases hf
    exact x_vret C hm trivial dX4_refuse_43
  have hf := xif_f hc2 hf
  refine lv_aload_n hx hb dX4_refuse_14 rfl (lv_at hl 0 rfl) ?_
  refine x_get C hm inX4 rfl 9 (by decide) tf_RX4_44 (cx_Reader (LX_reader 0 _ rfl)) rfl dX4_refuse_15 ?_
  refine lv_aload_n hx hb dX4_refuse_18 rfl (lv_at hl 0 rfl) ?_
  refine x_get C hm inX4 rfl 8 (by decide) tf_RX4_41 (cx_Reader (LX_reader 0 _ rfl)) rfl dX4_refuse_19 ?_
  refine lv_icmp_ge (tgt := 43) hx hb dX4_refuse_22 (by decide) (fun hc3 => ?_) (fun hc3 => ?_)
  · have hf := xif_t hc3 hf
    cases hf
    exact x_vret C hm trivial dX4_refuse_43
  have hf := xif_f hc3 hf
  refine lv_aload_n hx hb dX4_refuse_25 rfl (lv_at hl 0 rfl) ?_
  refine lv_iload_n hx hb dX4_refuse_26 rfl (lv_at hl 1 rfl) ?_
  obtain ⟨M4, eM4, hf⟩ := xlet_x hf
  refine x_put (cf' := cX E b M4) C hm inX4 tyX4 tyX4_ok nmX4 rfl 6 (by decide) tf_RX4_35 rfl rfl rfl (cx_Reader (LX_reader 0 _ rfl)) (Nat.le_of_ble_eq_true rfl) (by rw [eM4]; exact cu_Reader_6 (LX_reader 0 _ rfl)) (by rw [eM4]; exact cX_o) dX4_refuse_27 (fun H locs hm => ?_)
  refine lv_aload_n hx hb dX4_refuse_30 rfl (lv_at hl 0 rfl) ?_
  refine lv_aload_n hx hb dX4_refuse_31 rfl (lv_at hl 0 rfl) ?_
  refine x_get C hm inX4 rfl 2 (by decide) tf_RX4_18 (cx_Reader (LX_reader 0 _ rfl)) rfl dX4_refuse_32 ?_
  refine lv_aload_n hx hb dX4_refuse_35 rfl (lv_at hl 0 rfl) ?_
  refine x_get C hm inX4 rfl 9 (by decide) tf_RX4_44 (cx_Reader (LX_reader 0 _ rfl)) rfl dX4_refuse_36 ?_
  obtain ⟨hi5, hf⟩ := xif_s hf
  refine x_iald (j := (Int32.toNatClampNeg (M4 990 9))) C hm (cx_I (LX_reader 3 _ rfl)) hi5 dX4_refuse_39 rfl ?_
  obtain ⟨M6, eM6, hf⟩ := xlet_x hf
  refine x_put (cf' := cX E b M6) C hm inX4 tyX4 tyX4_ok nmX4 rfl 7 (by decide) tf_RX4_38 rfl rfl rfl (cx_Reader (LX_reader 0 _ rfl)) (Nat.le_of_ble_eq_true rfl) (by rw [eM6]; exact cu_Reader_7 (LX_reader 0 _ rfl)) (by rw [eM6]; exact cX_o) dX4_refuse_40 (fun H locs hm => ?_)
  cases hf
  exact x_vret C hm trivial dX4_refuse_43
/-! ColouredHeap$Reader.isNext(I)Z -/
theorem dX4_isNext_0 : decode cX4_isNext 0 = .ok (.aload_n 0, 1) := by decide +kernel
theorem dX4_isNext_1 : decode cX4_isNext 1 = .ok (.invokevirtual 111, 3) := by decide +kernel
theorem dX4_isNext_4 : decode cX4_isNext 4 = .ok (.iload_n 1, 1) := by decide +kernel
theorem dX4_isNext_5 : decode cX4_isNext 5 = .ok (.if_icmp .ne 7, 3) := by decide +kernel
theorem dX4_isNext_8 : decode cX4_isNext 8 = .ok (.iconst 1, 1) := by decide +kernel
theorem dX4_isNext_9 : decode cX4_isNext 9 = .ok (.goto 4, 3) := by decide +kernel
theorem dX4_isNext_12 : decode cX4_isNext 12 = .ok (.iconst 0, 1) := by decide +kernel
theorem dX4_isNext_13 : decode cX4_isNext 13 = .ok (.ireturn, 1) := by decide +kernel
def f_X4_isNext (M : xm) (a1 : Int32) : Option (Int32) := xb1 (f_X4_nextKind M) (fun v2 => (if v2 = a1 then some (1 : Int32) else some (0 : Int32)))
set_option maxHeartbeats 4000000 in
set_option maxRecDepth 20000 in
theorem c_X4_isNext (l : Launch) (E : xE) (b : Nat) (M : xm) (a1 : Int32) {r : Int32} (hf : f_X4_isNext M a1 = some r) :
    xMet l E b NX yX4_isNext cX4_isNext 2 (some .boolean) (xR 2) [.ref (b + 990), .int a1] (cX E b M) (some (.int r)) (xbo r = true) (cX E b M) := by
  refine xMet.ofW (own := RX4) (by decide) rfl (Nat.le_of_ble_eq_true rfl) ?_
  intro p e s m below meth c H locs ls C hm hl
  have hx := C.1.1
  have hb := C.1.2.1
  have hl : lv_has ls 2 [(0, .ref (b + 990)), (1, .int a1)] := hl
  unfold f_X4_isNext at hf
  refine lv_aload_n hx hb dX4_isNext_0 rfl (lv_at hl 0 rfl) ?_
  obtain ⟨v2, hq1, hf⟩ := xb1_e hf
  refine x_callVi (As := []) (rest := []) C hm (c_X4_nextKind l E b M hq1) rfl (cx_Reader (LX_reader 0 _ rfl)) tc_X4_nextKind tm_RX4_111 ti_X4_nextKind ts_X4_nextKind tn_RX4 td_X4_nextKind rfl rfl ⟨Nat.le_of_ble_eq_true rfl, Nat.le_of_ble_eq_true rfl⟩ rfl hl.1 rfl (Nat.le_of_ble_eq_true rfl) ⟨Nat.zero_le _, Nat.zero_le _⟩ dX4_isNext_1 (fun H locs hP3 hm => ?_)
  refine lv_iload_n hx hb dX4_isNext_4 rfl (lv_at hl 1 rfl) ?_
  refine lv_icmp_ne (tgt := 12) hx hb dX4_isNext_5 (by decide) (fun hc4 => ?_) (fun hc4 => ?_)
  · have hf := xif_f hc4 hf
    refine lv_iconst (v := (0 : Int32)) hx hb dX4_isNext_12 (by decide) ?_
    cases hf
    exact x_zret C hm (by decide) (by decide) dX4_isNext_13
  have hf := xif_t hc4 hf
  refine lv_iconst (v := (1 : Int32)) hx hb dX4_isNext_8 (by decide) ?_
  refine lv_goto (tgt := 13) hx hb dX4_isNext_9 (by decide) ?_
  cases hf
  exact x_zret C hm (by decide) (by decide) dX4_isNext_13
/-! ColouredHeap$Reader.name(I)V -/
theorem dX4_name_0 : decode cX4_name 0 = .ok (.iload_n 1, 1) := by decide +kernel
theorem dX4_name_1 : decode cX4_name 1 = .ok (.bipush 22, 2) := by decide +kernel
theorem dX4_name_3 : decode cX4_name 3 = .ok (.if_icmp .gt 7, 3) := by decide +kernel
theorem dX4_name_6 : decode cX4_name 6 = .ok (.iconst 1, 1) := by decide +kernel
theorem dX4_name_7 : decode cX4_name 7 = .ok (.goto 4, 3) := by decide +kernel
theorem dX4_name_10 : decode cX4_name 10 = .ok (.iconst 0, 1) := by decide +kernel
theorem dX4_name_11 : decode cX4_name 11 = .ok (.istore_n 2, 1) := by decide +kernel
theorem dX4_name_12 : decode cX4_name 12 = .ok (.iload_n 1, 1) := by decide +kernel
theorem dX4_name_13 : decode cX4_name 13 = .ok (.bipush 26, 2) := by decide +kernel
theorem dX4_name_15 : decode cX4_name 15 = .ok (.if_icmp .ne 7, 3) := by decide +kernel
theorem dX4_name_18 : decode cX4_name 18 = .ok (.iconst 1, 1) := by decide +kernel
theorem dX4_name_19 : decode cX4_name 19 = .ok (.goto 4, 3) := by decide +kernel
theorem dX4_name_22 : decode cX4_name 22 = .ok (.iconst 0, 1) := by decide +kernel
theorem dX4_name_23 : decode cX4_name 23 = .ok (.aload_n 0, 1) := by decide +kernel
theorem dX4_name_24 : decode cX4_name 24 = .ok (.getfield 47, 3) := by decide +kernel
theorem dX4_name_27 : decode cX4_name 27 = .ok (.iconst 1, 1) := by decide +kernel
theorem dX4_name_28 : decode cX4_name 28 = .ok (.if_icmp .ne 7, 3) := by decide +kernel
theorem dX4_name_31 : decode cX4_name 31 = .ok (.iconst 1, 1) := by decide +kernel
theorem dX4_name_32 : decode cX4_name 32 = .ok (.goto 4, 3) := by decide +kernel
theorem dX4_name_35 : decode cX4_name 35 = .ok (.iconst 0, 1) := by decide +kernel
theorem dX4_name_36 : decode cX4_name 36 = .ok (.if_icmp .ne 7, 3) := by decide +kernel
theorem dX4_name_39 : decode cX4_name 39 = .ok (.iconst 1, 1) := by decide +kernel
theorem dX4_name_40 : decode cX4_name 40 = .ok (.goto 4, 3) := by decide +kernel
theorem dX4_name_43 : decode cX4_name 43 = .ok (.iconst 0, 1) := by decide +kernel
theorem dX4_name_44 : decode cX4_name 44 = .ok (.istore_n 3, 1) := by decide +kernel
theorem dX4_name_45 : decode cX4_name 45 = .ok (.iload_n 2, 1) := by decide +kernel
theorem dX4_name_46 : decode cX4_name 46 = .ok (.ifCond .ne 7, 3) := by decide +kernel
theorem dX4_name_49 : decode cX4_name 49 = .ok (.iload_n 3, 1) := by decide +kernel
theorem dX4_name_50 : decode cX4_name 50 = .ok (.ifCond .eq 23, 3) := by decide +kernel
theorem dX4_name_53 : decode cX4_name 53 = .ok (.aload_n 0, 1) := by decide +kernel
theorem dX4_name_54 : decode cX4_name 54 = .ok (.iload_n 1, 1) := by decide +kernel
theorem dX4_name_55 : decode cX4_name 55 = .ok (.iconst 0, 1) := by decide +kernel
theorem dX4_name_56 : decode cX4_name 56 = .ok (.invokevirtual 161, 3) := by decide +kernel
theorem dX4_name_59 : decode cX4_name 59 = .ok (.pop, 1) := by decide +kernel
theorem dX4_name_60 : decode cX4_name 60 = .ok (.aload_n 0, 1) := by decide +kernel
theorem dX4_name_61 : decode cX4_name 61 = .ok (.dup, 1) := by decide +kernel
theorem dX4_name_62 : decode cX4_name 62 = .ok (.getfield 44, 3) := by decide +kernel
theorem dX4_name_65 : decode cX4_name 65 = .ok (.iconst 1, 1) := by decide +kernel
theorem dX4_name_66 : decode cX4_name 66 = .ok (.iadd, 1) := by decide +kernel
theorem dX4_name_67 : decode cX4_name 67 = .ok (.putfield 44, 3) := by decide +kernel
theorem dX4_name_70 : decode cX4_name 70 = .ok (.goto 8, 3) := by decide +kernel
theorem dX4_name_73 : decode cX4_name 73 = .ok (.aload_n 0, 1) := by decide +kernel
theorem dX4_name_74 : decode cX4_name 74 = .ok (.iconst 5, 1) := by decide +kernel
theorem dX4_name_75 : decode cX4_name 75 = .ok (.invokevirtual 114, 3) := by decide +kernel
theorem dX4_name_78 : decode cX4_name 78 = .ok (.return_, 1) := by decide +kernel
def f_X4_name (M : xm) (a1 : Int32) : Option (xm) := xlet (fun (w1 : Int32) => xlet (fun (w3 : Int32) => xlet (fun (w5 : Int32) (w6 : Int32) => xlet (fun (w8 : Int32) => xlet (xb2 (f_X4_emit M a1 (0 : Int32)) (fun v12 M13 => xlet (up2 M13 990 9 ((M13 990 9) + (1 : Int32))) (fun M15 => some M15))) (fun k10 => (if w1 = 0 then (if w8 = 0 then xb1 (f_X4_refuse M (5 : Int32)) (fun M19 => some M19) else k10) else k10))) (fun k9 => (if w5 = w6 then (k9 (1 : Int32)) else (k9 (0 : Int32))))) (fun k7 => (if (M 990 10) = (1 : Int32) then (k7 w3 (1 : Int32)) else (k7 w3 (0 : Int32))))) (fun k4 => (if a1 = (26 : Int32) then (k4 (1 : Int32)) else (k4 (0 : Int32))))) (fun k2 => (if (22 : Int32) < a1 then (k2 (0 : Int32)) else (k2 (1 : Int32))))
set_option maxHeartbeats 4000000 in
set_option maxRecDepth 20000 in
theorem c_X4_name (l : Launch) (E : xE) (b : Nat) (M : xm) (a1 : Int32) {M' : xm} (hf : f_X4_name M a1 = some M') :
    xMet l E b NX yX4_name cX4_name 4 none (xR 3) [.ref (b + 990), .int a1] (cX E b M) none True (cX E b M') := by
  refine xMet.ofW (own := RX4) (by decide) rfl (Nat.le_of_ble_eq_true rfl) ?_
  intro p e s m below meth c H locs ls C hm hl
  have hx := C.1.1
  have hb := C.1.2.1
  have hl : lv_has ls 4 [(0, .ref (b + 990)), (1, .int a1)] := hl
  unfold f_X4_name at hf
  refine lv_iload_n hx hb dX4_name_0 rfl (lv_at hl 1 rfl) ?_
  refine lv_bipush (v := (22 : Int32)) hx hb dX4_name_1 (by decide) ?_
  obtain ⟨k2, ek2, hf⟩ := xlet_x hf
  have jk2 : ∀ (w1 : Int32) (H : Heap) (locs : List Loc) (ls : Array Slot), k2 w1 = some M' → xM E b NX (cX E b M) s.heap H locs → lv_has ls 4 [(0, .ref (b + 990)), (1, .int a1)] → W p l e (xR 3) s m ([.ref (b + 990), .int a1] : List Value).toArray below meth c H locs 0 0 (MQ below (xQ E b NX none True (cX E b M')) ([.ref (b + 990), .int a1] : List Value).toArray s 0 0 (xA b NX)) (F0 m 11 ls [.int w1]) := by
    intro w1 H locs ls hf hm hl
    have hf := xap1 ek2 hf
    refine lv_istore_n (lv' := [(2, .int w1), (0, .ref (b + 990)), (1, .int a1)]) hx hb dX4_name_11 rfl hl (by decide) rfl (fun ls hl => ?_)
    refine lv_iload_n hx hb dX4_name_12 rfl (lv_at hl 2 rfl) ?_
    refine lv_bipush (v := (26 : Int32)) hx hb dX4_name_13 (by decide) ?_
    obtain ⟨k4, ek4, hf⟩ := xlet_x hf
    have jk4 : ∀ (w3 : Int32) (H : Heap) (locs : List Loc) (ls : Array Slot), k4 w3 = some M' → xM E b NX (cX E b M) s.heap H locs → lv_has ls 4 [(0, .ref (b + 990)), (1, .int a1), (2, .int w1)] → W p l e (xR 3) s m ([.ref (b + 990), .int a1] : List Value).toArray below meth c H locs 0 0 (MQ below (xQ E b NX none True (cX E b M')) ([.ref (b + 990), .int a1] : List Value).toArray s 0 0 (xA b NX)) (F0 m 23 ls [.int w3]) := by
      intro w3 H locs ls hf hm hl
      have hf := xap1 ek4 hf
      refine lv_aload_n hx hb dX4_name_23 rfl (lv_at hl 0 rfl) ?_
      refine x_get C hm inX4 rfl 10 (by decide) tf_RX4_47 (cx_Reader (LX_reader 0 _ rfl)) rfl dX4_name_24 ?_
      refine lv_iconst (v := (1 : Int32)) hx hb dX4_name_27 (by decide) ?_
      obtain ⟨k7, ek7, hf⟩ := xlet_x hf
      have jk7 : ∀ (w5 : Int32) (w6 : Int32) (H : Heap) (locs : List Loc) (ls : Array Slot), k7 w5 w6 = some M' → xM E b NX (cX E b M) s.heap H locs → lv_has ls 4 [(0, .ref (b + 990)), (1, .int a1), (2, .int w1)] → W p l e (xR 3) s m ([.ref (b + 990), .int a1] : List Value).toArray below meth c H locs 0 0 (MQ below (xQ E b NX none True (cX E b M')) ([.ref (b + 990), .int a1] : List Value).toArray s 0 0 (xA b NX)) (F0 m 36 ls [.int w6, .int w5]) := by
        intro w5 w6 H locs ls hf hm hl
        have hf := xap2 ek7 hf
        obtain ⟨k9, ek9, hf⟩ := xlet_x hf
        have jk9 : ∀ (w8 : Int32) (H : Heap) (locs : List Loc) (ls : Array Slot), k9 w8 = some M' → xM E b NX (cX E b M) s.heap H locs → lv_has ls 4 [(0, .ref (b + 990)), (1, .int a1), (2, .int w1)] → W p l e (xR 3) s m ([.ref (b + 990), .int a1] : List Value).toArray below meth c H locs 0 0 (MQ below (xQ E b NX none True (cX E b M')) ([.ref (b + 990), .int a1] : List Value).toArray s 0 0 (xA b NX)) (F0 m 44 ls [.int w8]) := by
          intro w8 H locs ls hf hm hl
          have hf := xap1 ek9 hf
          refine lv_istore_n (lv' := [(3, .int w8), (0, .ref (b + 990)), (1, .int a1), (2, .int w1)]) hx hb dX4_name_44 rfl hl (by decide) rfl (fun ls hl => ?_)
          refine lv_iload_n hx hb dX4_name_45 rfl (lv_at hl 3 rfl) ?_
          obtain ⟨k10, ek10, hf⟩ := xlet_x hf
          have jk10 : ∀  (H : Heap) (locs : List Loc) (ls : Array Slot), k10 = some M' → xM E b NX (cX E b M) s.heap H locs → lv_has ls 4 [(0, .ref (b + 990)), (1, .int a1)] → W p l e (xR 3) s m ([.ref (b + 990), .int a1] : List Value).toArray below meth c H locs 0 0 (MQ below (xQ E b NX none True (cX E b M')) ([.ref (b + 990), .int a1] : List Value).toArray s 0 0 (xA b NX)) (F0 m 53 ls []) := by
            intro  H locs ls hf hm hl
            have hf := xap0 ek10 hf
            refine lv_aload_n hx hb dX4_name_53 rfl (lv_at hl 0 rfl) ?_
            refine lv_iload_n hx hb dX4_name_54 rfl (lv_at hl 1 rfl) ?_
            refine lv_iconst (v := (0 : Int32)) hx hb dX4_name_55 (by decide) ?_
            obtain ⟨v12, M13, hq11, hf⟩ := xb2_e hf
            refine x_callVi (As := [.int a1, .int (0 : Int32)]) (rest := []) C hm (c_X4_emit l E b M a1 (0 : Int32) hq11) rfl (cx_Reader (LX_reader 0 _ rfl)) tc_X4_emit tm_RX4_161 ti_X4_emit ts_X4_emit tn_RX4 td_X4_emit rfl rfl ⟨Nat.le_of_ble_eq_true rfl, Nat.le_of_ble_eq_true rfl⟩ rfl hl.1 rfl (Nat.le_of_ble_eq_true rfl) ⟨Nat.zero_le _, Nat.zero_le _⟩ dX4_name_56 (fun H locs hP14 hm => ?_)
            refine lv_pop hx hb dX4_name_59 rfl ?_
            refine lv_aload_n hx hb dX4_name_60 rfl (lv_at hl 0 rfl) ?_
            refine lv_dup hx hb dX4_name_61 rfl ?_
            refine x_get C hm inX4 rfl 9 (by decide) tf_RX4_44 (cx_Reader (LX_reader 0 _ rfl)) rfl dX4_name_62 ?_
            refine lv_iconst (v := (1 : Int32)) hx hb dX4_name_65 (by decide) ?_
            refine lv_iadd hx hb dX4_name_66 ?_
            obtain ⟨M15, eM15, hf⟩ := xlet_x hf
            refine x_put (cf' := cX E b M15) C hm inX4 tyX4 tyX4_ok nmX4 rfl 9 (by decide) tf_RX4_44 rfl rfl rfl (cx_Reader (LX_reader 0 _ rfl)) (Nat.le_of_ble_eq_true rfl) (by rw [eM15]; exact cu_Reader_9 (LX_reader 0 _ rfl)) (by rw [eM15]; exact cX_o) dX4_name_67 (fun H locs hm => ?_)
            refine lv_goto (tgt := 78) hx hb dX4_name_70 (by decide) ?_
            cases hf
            exact x_vret C hm trivial dX4_name_78
          refine lv_if_ne (tgt := 53) hx hb dX4_name_46 (by decide) (fun hc16 => ?_) (fun hc16 => ?_)
          · have hf := xif_f hc16 hf
            exact jk10  H locs ls  hf hm (lv_sub hl [1, 2] rfl)
          have hf := xif_t hc16 hf
          refine lv_iload_n hx hb dX4_name_49 rfl (lv_at hl 0 rfl) ?_
          refine lv_if_eq (tgt := 73) hx hb dX4_name_50 (by decide) (fun hc17 => ?_) (fun hc17 => ?_)
          rotate_left
          · have hf := xif_f hc17 hf
            exact jk10  H locs ls  hf hm (lv_sub hl [1, 2] rfl)
          have hf := xif_t hc17 hf
          refine lv_aload_n hx hb dX4_name_73 rfl (lv_at hl 1 rfl) ?_
          refine lv_iconst (v := (5 : Int32)) hx hb dX4_name_74 (by decide) ?_
          obtain ⟨M19, hq18, hf⟩ := xb1_e hf
          refine x_callVv (As := [.int (5 : Int32)]) (rest := []) C hm (c_X4_refuse l E b M (5 : Int32) hq18) rfl (cx_Reader (LX_reader 0 _ rfl)) tc_X4_refuse tm_RX4_114 ti_X4_refuse ts_X4_refuse tn_RX4 td_X4_refuse rfl rfl ⟨Nat.le_of_ble_eq_true rfl, Nat.le_of_ble_eq_true rfl⟩ rfl hl.1 rfl (Nat.le_of_ble_eq_true rfl) ⟨Nat.zero_le _, Nat.zero_le _⟩ dX4_name_75 (fun H locs hP20 hm => ?_)
          cases hf
          exact x_vret C hm trivial dX4_name_78
        refine lv_icmp_ne (tgt := 43) hx hb dX4_name_36 (by decide) (fun hc21 => ?_) (fun hc21 => ?_)
        · have hf := xif_f hc21 hf
          refine lv_iconst (v := (0 : Int32)) hx hb dX4_name_43 (by decide) ?_
          exact jk9 (0 : Int32) H locs ls  hf hm (lv_sub hl [0, 1, 2] rfl)
        have hf := xif_t hc21 hf
        refine lv_iconst (v := (1 : Int32)) hx hb dX4_name_39 (by decide) ?_
        refine lv_goto (tgt := 44) hx hb dX4_name_40 (by decide) ?_
        exact jk9 (1 : Int32) H locs ls  hf hm (lv_sub hl [0, 1, 2] rfl)
      refine lv_icmp_ne (tgt := 35) hx hb dX4_name_28 (by decide) (fun hc22 => ?_) (fun hc22 => ?_)
      · have hf := xif_f hc22 hf
        refine lv_iconst (v := (0 : Int32)) hx hb dX4_name_35 (by decide) ?_
        exact jk7 w3 (0 : Int32) H locs ls  hf hm (lv_sub hl [0, 1, 2] rfl)
      have hf := xif_t hc22 hf
      refine lv_iconst (v := (1 : Int32)) hx hb dX4_name_31 (by decide) ?_
      refine lv_goto (tgt := 36) hx hb dX4_name_32 (by decide) ?_
      exact jk7 w3 (1 : Int32) H locs ls  hf hm (lv_sub hl [0, 1, 2] rfl)
    refine lv_icmp_ne (tgt := 22) hx hb dX4_name_15 (by decide) (fun hc23 => ?_) (fun hc23 => ?_)
    · have hf := xif_f hc23 hf
      refine lv_iconst (v := (0 : Int32)) hx hb dX4_name_22 (by decide) ?_
      exact jk4 (0 : Int32) H locs ls  hf hm (lv_sub hl [1, 2, 0] rfl)
    have hf := xif_t hc23 hf
    refine lv_iconst (v := (1 : Int32)) hx hb dX4_name_18 (by decide) ?_
    refine lv_goto (tgt := 23) hx hb dX4_name_19 (by decide) ?_
    exact jk4 (1 : Int32) H locs ls  hf hm (lv_sub hl [1, 2, 0] rfl)
  refine lv_icmp_gt (tgt := 10) hx hb dX4_name_3 (by decide) (fun hc24 => ?_) (fun hc24 => ?_)
  · have hf := xif_t hc24 hf
    refine lv_iconst (v := (0 : Int32)) hx hb dX4_name_10 (by decide) ?_
    exact jk2 (0 : Int32) H locs ls  hf hm (lv_sub hl [0, 1] rfl)
  have hf := xif_f hc24 hf
  refine lv_iconst (v := (1 : Int32)) hx hb dX4_name_6 (by decide) ?_
  refine lv_goto (tgt := 11) hx hb dX4_name_7 (by decide) ?_
  exact jk2 (1 : Int32) H locs ls  hf hm (lv_sub hl [0, 1] rfl)
/-! ColouredHeap$Reader.want(I)V -/
theorem dX4_want_0 : decode cX4_want 0 = .ok (.aload_n 0, 1) := by decide +kernel
theorem dX4_want_1 : decode cX4_want 1 = .ok (.iload_n 1, 1) := by decide +kernel
theorem dX4_want_2 : decode cX4_want 2 = .ok (.invokevirtual 58, 3) := by decide +kernel
theorem dX4_want_5 : decode cX4_want 5 = .ok (.ifCond .eq 16, 3) := by decide +kernel
theorem dX4_want_8 : decode cX4_want 8 = .ok (.aload_n 0, 1) := by decide +kernel
theorem dX4_want_9 : decode cX4_want 9 = .ok (.dup, 1) := by decide +kernel
theorem dX4_want_10 : decode cX4_want 10 = .ok (.getfield 44, 3) := by decide +kernel
theorem dX4_want_13 : decode cX4_want 13 = .ok (.iconst 1, 1) := by decide +kernel
theorem dX4_want_14 : decode cX4_want 14 = .ok (.iadd, 1) := by decide +kernel
theorem dX4_want_15 : decode cX4_want 15 = .ok (.putfield 44, 3) := by decide +kernel
theorem dX4_want_18 : decode cX4_want 18 = .ok (.goto 8, 3) := by decide +kernel
theorem dX4_want_21 : decode cX4_want 21 = .ok (.aload_n 0, 1) := by decide +kernel
theorem dX4_want_22 : decode cX4_want 22 = .ok (.iconst 1, 1) := by decide +kernel
theorem dX4_want_23 : decode cX4_want 23 = .ok (.invokevirtual 114, 3) := by decide +kernel
theorem dX4_want_26 : decode cX4_want 26 = .ok (.return_, 1) := by decide +kernel
def f_X4_want (M : xm) (a1 : Int32) : Option (xm) := xb1 (f_X4_isNext M a1) (fun v2 => (if v2 = 0 then xb1 (f_X4_refuse M (1 : Int32)) (fun M6 => some M6) else xlet (up2 M 990 9 ((M 990 9) + (1 : Int32))) (fun M8 => some M8)))
set_option maxHeartbeats 4000000 in
set_option maxRecDepth 20000 in
theorem c_X4_want (l : Launch) (E : xE) (b : Nat) (M : xm) (a1 : Int32) {M' : xm} (hf : f_X4_want M a1 = some M') :
    xMet l E b NX yX4_want cX4_want 2 none (xR 3) [.ref (b + 990), .int a1] (cX E b M) none True (cX E b M') := by
  refine xMet.ofW (own := RX4) (by decide) rfl (Nat.le_of_ble_eq_true rfl) ?_
  intro p e s m below meth c H locs ls C hm hl
  have hx := C.1.1
  have hb := C.1.2.1
  have hl : lv_has ls 2 [(0, .ref (b + 990)), (1, .int a1)] := hl
  unfold f_X4_want at hf
  refine lv_aload_n hx hb dX4_want_0 rfl (lv_at hl 0 rfl) ?_
  refine lv_iload_n hx hb dX4_want_1 rfl (lv_at hl 1 rfl) ?_
  obtain ⟨v2, hq1, hf⟩ := xb1_e hf
  refine x_callVi (As := [.int a1]) (rest := []) C hm (c_X4_isNext l E b M a1 hq1) rfl (cx_Reader (LX_reader 0 _ rfl)) tc_X4_isNext tm_RX4_58 ti_X4_isNext ts_X4_isNext tn_RX4 td_X4_isNext rfl rfl ⟨Nat.le_of_ble_eq_true rfl, Nat.le_of_ble_eq_true rfl⟩ rfl hl.1 rfl (Nat.le_of_ble_eq_true rfl) ⟨Nat.zero_le _, Nat.zero_le _⟩ dX4_want_2 (fun H locs hP3 hm => ?_)
  refine lv_if_eq (tgt := 21) hx hb dX4_want_5 (by decide) (fun hc4 => ?_) (fun hc4 => ?_)
  · have hf := xif_t hc4 hf
    refine lv_aload_n hx hb dX4_want_21 rfl (lv_at hl 0 rfl) ?_
    refine lv_iconst (v := (1 : Int32)) hx hb dX4_want_22 (by decide) ?_
    obtain ⟨M6, hq5, hf⟩ := xb1_e hf
    refine x_callVv (As := [.int (1 : Int32)]) (rest := []) C hm (c_X4_refuse l E b M (1 : Int32) hq5) rfl (cx_Reader (LX_reader 0 _ rfl)) tc_X4_refuse tm_RX4_114 ti_X4_refuse ts_X4_refuse tn_RX4 td_X4_refuse rfl rfl ⟨Nat.le_of_ble_eq_true rfl, Nat.le_of_ble_eq_true rfl⟩ rfl hl.1 rfl (Nat.le_of_ble_eq_true rfl) ⟨Nat.zero_le _, Nat.zero_le _⟩ dX4_want_23 (fun H locs hP7 hm => ?_)
    cases hf
    exact x_vret C hm trivial dX4_want_26
  have hf := xif_f hc4 hf
  refine lv_aload_n hx hb dX4_want_8 rfl (lv_at hl 0 rfl) ?_
  refine lv_dup hx hb dX4_want_9 rfl ?_
  refine x_get C hm inX4 rfl 9 (by decide) tf_RX4_44 (cx_Reader (LX_reader 0 _ rfl)) rfl dX4_want_10 ?_
  refine lv_iconst (v := (1 : Int32)) hx hb dX4_want_13 (by decide) ?_
  refine lv_iadd hx hb dX4_want_14 ?_
  obtain ⟨M8, eM8, hf⟩ := xlet_x hf
  refine x_put (cf' := cX E b M8) C hm inX4 tyX4 tyX4_ok nmX4 rfl 9 (by decide) tf_RX4_44 rfl rfl rfl (cx_Reader (LX_reader 0 _ rfl)) (Nat.le_of_ble_eq_true rfl) (by rw [eM8]; exact cu_Reader_9 (LX_reader 0 _ rfl)) (by rw [eM8]; exact cX_o) dX4_want_15 (fun H locs hm => ?_)
  refine lv_goto (tgt := 26) hx hb dX4_want_18 (by decide) ?_
  cases hf
  exact x_vret C hm trivial dX4_want_26
/-! ColouredHeap$Text.landHere(I)V -/
theorem dX7_landHere_0 : decode cX7_landHere 0 = .ok (.iload_n 1, 1) := by decide +kernel
theorem dX7_landHere_1 : decode cX7_landHere 1 = .ok (.ifCond .lt 21, 3) := by decide +kernel
theorem dX7_landHere_4 : decode cX7_landHere 4 = .ok (.iload_n 1, 1) := by decide +kernel
theorem dX7_landHere_5 : decode cX7_landHere 5 = .ok (.aload_n 0, 1) := by decide +kernel
theorem dX7_landHere_6 : decode cX7_landHere 6 = .ok (.getfield 40, 3) := by decide +kernel
theorem dX7_landHere_9 : decode cX7_landHere 9 = .ok (.if_icmp .ge 13, 3) := by decide +kernel
theorem dX7_landHere_12 : decode cX7_landHere 12 = .ok (.aload_n 0, 1) := by decide +kernel
theorem dX7_landHere_13 : decode cX7_landHere 13 = .ok (.getfield 27, 3) := by decide +kernel
theorem dX7_landHere_16 : decode cX7_landHere 16 = .ok (.iload_n 1, 1) := by decide +kernel
theorem dX7_landHere_17 : decode cX7_landHere 17 = .ok (.aload_n 0, 1) := by decide +kernel
theorem dX7_landHere_18 : decode cX7_landHere 18 = .ok (.getfield 40, 3) := by decide +kernel
theorem dX7_landHere_21 : decode cX7_landHere 21 = .ok (.iastore, 1) := by decide +kernel
theorem dX7_landHere_22 : decode cX7_landHere 22 = .ok (.return_, 1) := by decide +kernel
def f_X7_landHere (u0 : Nat) (M : xm) (a1 : Int32) : Option (xm) := (if a1 < 0 then some M else (if (M u0 9) ≤ a1 then some M else if xin a1 300 = true then xlet (up2 M (u0 + 6) (Int32.toNatClampNeg a1) (M u0 9)) (fun M4 => some M4) else none))
set_option maxHeartbeats 4000000 in
set_option maxRecDepth 20000 in
theorem c_X7_landHere (l : Launch) (E : xE) (b : Nat) {u0 : Nat} (L_u0 : lat u0 pText) (M : xm) (a1 : Int32) {M' : xm} (hf : f_X7_landHere u0 M a1 = some M') :
    xMet l E b NX yX7_landHere cX7_landHere 2 none (xR 1) [.ref (b + u0), .int a1] (cX E b M) none True (cX E b M') := by
  refine xMet.ofW (own := RX7) (by decide) rfl (Nat.le_of_ble_eq_true rfl) ?_
  intro p e s m below meth c H locs ls C hm hl
  have hx := C.1.1
  have hb := C.1.2.1
  have hl : lv_has ls 2 [(0, .ref (b + u0)), (1, .int a1)] := hl
  unfold f_X7_landHere at hf
  refine lv_iload_n hx hb dX7_landHere_0 rfl (lv_at hl 1 rfl) ?_
  refine lv_if_lt (tgt := 22) hx hb dX7_landHere_1 (by decide) (fun hc1 => ?_) (fun hc1 => ?_)
  · have hf := xif_t hc1 hf
    cases hf
    exact x_vret C hm trivial dX7_landHere_22
  have hf := xif_f hc1 hf
  refine lv_iload_n hx hb dX7_landHere_4 rfl (lv_at hl 1 rfl) ?_
  refine lv_aload_n hx hb dX7_landHere_5 rfl (lv_at hl 0 rfl) ?_
  refine x_get C hm inX7 rfl 9 (by decide) tf_RX7_40 (cx_Text (L_u0 0 _ rfl)) rfl dX7_landHere_6 ?_
  refine lv_icmp_ge (tgt := 22) hx hb dX7_landHere_9 (by decide) (fun hc2 => ?_) (fun hc2 => ?_)
  · have hf := xif_t hc2 hf
    cases hf
    exact x_vret C hm trivial dX7_landHere_22
  have hf := xif_f hc2 hf
  refine lv_aload_n hx hb dX7_landHere_12 rfl (lv_at hl 0 rfl) ?_
  refine x_get C hm inX7 rfl 5 (by decide) tf_RX7_27 (cx_Text (L_u0 0 _ rfl)) rfl dX7_landHere_13 ?_
  refine lv_iload_n hx hb dX7_landHere_16 rfl (lv_at hl 1 rfl) ?_
  refine lv_aload_n hx hb dX7_landHere_17 rfl (lv_at hl 0 rfl) ?_
  refine x_get C hm inX7 rfl 9 (by decide) tf_RX7_40 (cx_Text (L_u0 0 _ rfl)) rfl dX7_landHere_18 ?_
  obtain ⟨hi3, hf⟩ := xif_s hf
  obtain ⟨M4, eM4, hf⟩ := xlet_x hf
  refine x_iast (j := (Int32.toNatClampNeg a1)) (cf' := cX E b M4) C hm (cx_I (L_u0 6 _ rfl)) hi3 dX7_landHere_21 rfl (by rw [eM4]; exact cu_I (L_u0 6 _ rfl)) (by rw [eM4]; exact cX_o) (fun H locs hm => ?_)
  cases hf
  exact x_vret C hm trivial dX7_landHere_22
/-! ColouredHeap$Reader.opensOne(I)Z -/
theorem dX4_opensOne_0 : decode cX4_opensOne 0 = .ok (.iload_n 0, 1) := by decide +kernel
theorem dX4_opensOne_1 : decode cX4_opensOne 1 = .ok (.bipush 35, 2) := by decide +kernel
theorem dX4_opensOne_3 : decode cX4_opensOne 3 = .ok (.if_icmp .eq 27, 3) := by decide +kernel
theorem dX4_opensOne_6 : decode cX4_opensOne 6 = .ok (.iload_n 0, 1) := by decide +kernel
theorem dX4_opensOne_7 : decode cX4_opensOne 7 = .ok (.bipush 32, 2) := by decide +kernel
theorem dX4_opensOne_9 : decode cX4_opensOne 9 = .ok (.if_icmp .eq 21, 3) := by decide +kernel
theorem dX4_opensOne_12 : decode cX4_opensOne 12 = .ok (.iload_n 0, 1) := by decide +kernel
theorem dX4_opensOne_13 : decode cX4_opensOne 13 = .ok (.bipush 12, 2) := by decide +kernel
theorem dX4_opensOne_15 : decode cX4_opensOne 15 = .ok (.if_icmp .eq 15, 3) := by decide +kernel
theorem dX4_opensOne_18 : decode cX4_opensOne 18 = .ok (.iload_n 0, 1) := by decide +kernel
theorem dX4_opensOne_19 : decode cX4_opensOne 19 = .ok (.bipush 10, 2) := by decide +kernel
theorem dX4_opensOne_21 : decode cX4_opensOne 21 = .ok (.if_icmp .eq 9, 3) := by decide +kernel
theorem dX4_opensOne_24 : decode cX4_opensOne 24 = .ok (.iload_n 0, 1) := by decide +kernel
theorem dX4_opensOne_25 : decode cX4_opensOne 25 = .ok (.bipush 11, 2) := by decide +kernel
theorem dX4_opensOne_27 : decode cX4_opensOne 27 = .ok (.if_icmp .ne 7, 3) := by decide +kernel
theorem dX4_opensOne_30 : decode cX4_opensOne 30 = .ok (.iconst 1, 1) := by decide +kernel
theorem dX4_opensOne_31 : decode cX4_opensOne 31 = .ok (.goto 4, 3) := by decide +kernel
theorem dX4_opensOne_34 : decode cX4_opensOne 34 = .ok (.iconst 0, 1) := by decide +kernel
theorem dX4_opensOne_35 : decode cX4_opensOne 35 = .ok (.ireturn, 1) := by decide +kernel
def f_X4_opensOne (a0 : Int32) : Int32 := (if a0 = (35 : Int32) then (1 : Int32) else (if a0 = (32 : Int32) then (1 : Int32) else (if a0 = (12 : Int32) then (1 : Int32) else (if a0 = (10 : Int32) then (1 : Int32) else (if a0 = (11 : Int32) then (1 : Int32) else (0 : Int32))))))
set_option maxHeartbeats 4000000 in
set_option maxRecDepth 20000 in
theorem c_X4_opensOne (l : Launch) (E : xE) (b : Nat) (M : xm) (a0 : Int32) {r : Int32} (hf : f_X4_opensOne a0 = r) :
    xMet l E b NX yX4_opensOne cX4_opensOne 1 (some .boolean) (xR 1) [.int a0] (cX E b M) (some (.int r)) (xbo r = true) (cX E b M) := by
  refine xMet.ofW (own := RX4) (by decide) rfl (Nat.le_of_ble_eq_true rfl) ?_
  intro p e s m below meth c H locs ls C hm hl
  have hx := C.1.1
  have hb := C.1.2.1
  have hl : lv_has ls 1 [(0, .int a0)] := hl
  unfold f_X4_opensOne at hf
  refine lv_iload_n hx hb dX4_opensOne_0 rfl (lv_at hl 0 rfl) ?_
  refine lv_bipush (v := (35 : Int32)) hx hb dX4_opensOne_1 (by decide) ?_
  refine lv_icmp_eq (tgt := 30) hx hb dX4_opensOne_3 (by decide) (fun hc1 => ?_) (fun hc1 => ?_)
  · have hf := xif_t hc1 hf
    refine lv_iconst (v := (1 : Int32)) hx hb dX4_opensOne_30 (by decide) ?_
    refine lv_goto (tgt := 35) hx hb dX4_opensOne_31 (by decide) ?_
    cases hf
    exact x_zret C hm (by decide) (by decide) dX4_opensOne_35
  have hf := xif_f hc1 hf
  refine lv_iload_n hx hb dX4_opensOne_6 rfl (lv_at hl 0 rfl) ?_
  refine lv_bipush (v := (32 : Int32)) hx hb dX4_opensOne_7 (by decide) ?_
  refine lv_icmp_eq (tgt := 30) hx hb dX4_opensOne_9 (by decide) (fun hc2 => ?_) (fun hc2 => ?_)
  · have hf := xif_t hc2 hf
    refine lv_iconst (v := (1 : Int32)) hx hb dX4_opensOne_30 (by decide) ?_
    refine lv_goto (tgt := 35) hx hb dX4_opensOne_31 (by decide) ?_
    cases hf
    exact x_zret C hm (by decide) (by decide) dX4_opensOne_35
  have hf := xif_f hc2 hf
  refine lv_iload_n hx hb dX4_opensOne_12 rfl (lv_at hl 0 rfl) ?_
  refine lv_bipush (v := (12 : Int32)) hx hb dX4_opensOne_13 (by decide) ?_
  refine lv_icmp_eq (tgt := 30) hx hb dX4_opensOne_15 (by decide) (fun hc3 => ?_) (fun hc3 => ?_)
  · have hf := xif_t hc3 hf
    refine lv_iconst (v := (1 : Int32)) hx hb dX4_opensOne_30 (by decide) ?_
    refine lv_goto (tgt := 35) hx hb dX4_opensOne_31 (by decide) ?_
    cases hf
    exact x_zret C hm (by decide) (by decide) dX4_opensOne_35
  have hf := xif_f hc3 hf
  refine lv_iload_n hx hb dX4_opensOne_18 rfl (lv_at hl 0 rfl) ?_
  refine lv_bipush (v := (10 : Int32)) hx hb dX4_opensOne_19 (by decide) ?_
  refine lv_icmp_eq (tgt := 30) hx hb dX4_opensOne_21 (by decide) (fun hc4 => ?_) (fun hc4 => ?_)
  · have hf := xif_t hc4 hf
    refine lv_iconst (v := (1 : Int32)) hx hb dX4_opensOne_30 (by decide) ?_
    refine lv_goto (tgt := 35) hx hb dX4_opensOne_31 (by decide) ?_
    cases hf
    exact x_zret C hm (by decide) (by decide) dX4_opensOne_35
  have hf := xif_f hc4 hf
  refine lv_iload_n hx hb dX4_opensOne_24 rfl (lv_at hl 0 rfl) ?_
  refine lv_bipush (v := (11 : Int32)) hx hb dX4_opensOne_25 (by decide) ?_
  refine lv_icmp_ne (tgt := 34) hx hb dX4_opensOne_27 (by decide) (fun hc5 => ?_) (fun hc5 => ?_)
  · have hf := xif_f hc5 hf
    refine lv_iconst (v := (0 : Int32)) hx hb dX4_opensOne_34 (by decide) ?_
    cases hf
    exact x_zret C hm (by decide) (by decide) dX4_opensOne_35
  have hf := xif_t hc5 hf
  refine lv_iconst (v := (1 : Int32)) hx hb dX4_opensOne_30 (by decide) ?_
  refine lv_goto (tgt := 35) hx hb dX4_opensOne_31 (by decide) ?_
  cases hf
  exact x_zret C hm (by decide) (by decide) dX4_opensOne_35
