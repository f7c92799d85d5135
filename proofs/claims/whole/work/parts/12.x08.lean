/-! ColouredHeap.foretold(II)I -/
theorem dX9_foretold_0 : decode cX9_foretold 0 = .ok (.iload_n 1, 1) := by decide +kernel
theorem dX9_foretold_1 : decode cX9_foretold 1 = .ok (.iconst 1, 1) := by decide +kernel
theorem dX9_foretold_2 : decode cX9_foretold 2 = .ok (.if_icmp .lt 18, 3) := by decide +kernel
theorem dX9_foretold_5 : decode cX9_foretold 5 = .ok (.iload_n 1, 1) := by decide +kernel
theorem dX9_foretold_6 : decode cX9_foretold 6 = .ok (.bipush 60, 2) := by decide +kernel
theorem dX9_foretold_8 : decode cX9_foretold 8 = .ok (.if_icmp .gt 12, 3) := by decide +kernel
theorem dX9_foretold_11 : decode cX9_foretold 11 = .ok (.iload_n 2, 1) := by decide +kernel
theorem dX9_foretold_12 : decode cX9_foretold 12 = .ok (.ifCond .lt 8, 3) := by decide +kernel
theorem dX9_foretold_15 : decode cX9_foretold 15 = .ok (.iload_n 2, 1) := by decide +kernel
theorem dX9_foretold_16 : decode cX9_foretold 16 = .ok (.iconst 1, 1) := by decide +kernel
theorem dX9_foretold_17 : decode cX9_foretold 17 = .ok (.if_icmp .le 5, 3) := by decide +kernel
theorem dX9_foretold_20 : decode cX9_foretold 20 = .ok (.iconst (-1), 1) := by decide +kernel
theorem dX9_foretold_21 : decode cX9_foretold 21 = .ok (.ireturn, 1) := by decide +kernel
theorem dX9_foretold_22 : decode cX9_foretold 22 = .ok (.aload_n 0, 1) := by decide +kernel
theorem dX9_foretold_23 : decode cX9_foretold 23 = .ok (.getfield 39, 3) := by decide +kernel
theorem dX9_foretold_26 : decode cX9_foretold 26 = .ok (.aload_n 0, 1) := by decide +kernel
theorem dX9_foretold_27 : decode cX9_foretold 27 = .ok (.getfield 10, 3) := by decide +kernel
theorem dX9_foretold_30 : decode cX9_foretold 30 = .ok (.invokevirtual 261, 3) := by decide +kernel
theorem dX9_foretold_33 : decode cX9_foretold 33 = .ok (.iconst 0, 1) := by decide +kernel
theorem dX9_foretold_34 : decode cX9_foretold 34 = .ok (.istore_n 3, 1) := by decide +kernel
theorem dX9_foretold_35 : decode cX9_foretold 35 = .ok (.iload_n 3, 1) := by decide +kernel
theorem dX9_foretold_36 : decode cX9_foretold 36 = .ok (.iload_n 1, 1) := by decide +kernel
theorem dX9_foretold_37 : decode cX9_foretold 37 = .ok (.if_icmp .ge 44, 3) := by decide +kernel
theorem dX9_foretold_40 : decode cX9_foretold 40 = .ok (.aload_n 0, 1) := by decide +kernel
theorem dX9_foretold_41 : decode cX9_foretold 41 = .ok (.getfield 39, 3) := by decide +kernel
theorem dX9_foretold_44 : decode cX9_foretold 44 = .ok (.getfield 124, 3) := by decide +kernel
theorem dX9_foretold_47 : decode cX9_foretold 47 = .ok (.sipush 9999, 3) := by decide +kernel
theorem dX9_foretold_50 : decode cX9_foretold 50 = .ok (.if_icmp .ge 31, 3) := by decide +kernel
theorem dX9_foretold_53 : decode cX9_foretold 53 = .ok (.aload_n 0, 1) := by decide +kernel
theorem dX9_foretold_54 : decode cX9_foretold 54 = .ok (.getfield 39, 3) := by decide +kernel
theorem dX9_foretold_57 : decode cX9_foretold 57 = .ok (.aload_n 0, 1) := by decide +kernel
theorem dX9_foretold_58 : decode cX9_foretold 58 = .ok (.getfield 59, 3) := by decide +kernel
theorem dX9_foretold_61 : decode cX9_foretold 61 = .ok (.aload_n 0, 1) := by decide +kernel
theorem dX9_foretold_62 : decode cX9_foretold 62 = .ok (.aload_n 0, 1) := by decide +kernel
theorem dX9_foretold_63 : decode cX9_foretold 63 = .ok (.getfield 26, 3) := by decide +kernel
theorem dX9_foretold_66 : decode cX9_foretold 66 = .ok (.getfield 102, 3) := by decide +kernel
theorem dX9_foretold_69 : decode cX9_foretold 69 = .ok (.invokevirtual 80, 3) := by decide +kernel
theorem dX9_foretold_72 : decode cX9_foretold 72 = .ok (.invokevirtual 127, 3) := by decide +kernel
theorem dX9_foretold_75 : decode cX9_foretold 75 = .ok (.iinc 3 1, 3) := by decide +kernel
theorem dX9_foretold_78 : decode cX9_foretold 78 = .ok (.goto (-43), 3) := by decide +kernel
theorem dX9_foretold_81 : decode cX9_foretold 81 = .ok (.iload_n 2, 1) := by decide +kernel
theorem dX9_foretold_82 : decode cX9_foretold 82 = .ok (.ifCond .ne 13, 3) := by decide +kernel
theorem dX9_foretold_85 : decode cX9_foretold 85 = .ok (.aload_n 0, 1) := by decide +kernel
theorem dX9_foretold_86 : decode cX9_foretold 86 = .ok (.getfield 39, 3) := by decide +kernel
theorem dX9_foretold_89 : decode cX9_foretold 89 = .ok (.getfield 172, 3) := by decide +kernel
theorem dX9_foretold_92 : decode cX9_foretold 92 = .ok (.goto 10, 3) := by decide +kernel
theorem dX9_foretold_95 : decode cX9_foretold 95 = .ok (.aload_n 0, 1) := by decide +kernel
theorem dX9_foretold_96 : decode cX9_foretold 96 = .ok (.getfield 39, 3) := by decide +kernel
theorem dX9_foretold_99 : decode cX9_foretold 99 = .ok (.invokevirtual 263, 3) := by decide +kernel
theorem dX9_foretold_102 : decode cX9_foretold 102 = .ok (.ireturn, 1) := by decide +kernel
def g_X9_foretold_35 (x8 : Int32) (x9 : Int32) : Nat → xm → Int32 → Option ((xm))
  | 0, _, _ => none
  | n + 1, M11, x10 => (if x8 ≤ x10 then some (M11) else (if (9999 : Int32) ≤ (M11 971 17) then some (M11) else xb1 (f_X9_textAt (M11 483 4)) (fun o16 => xb1 (f_X1_tick 971 o16 M11) (fun M19 => xlet (x10 + (1 : Int32)) (fun v21 => g_X9_foretold_35 x8 x9 n M19 v21)))))
def f_X9_foretold (M : xm) (a1 : Int32) (a2 : Int32) : Option (Int32 × xm) := (if a1 < (1 : Int32) then some ((-1 : Int32), M) else (if (60 : Int32) < a1 then some ((-1 : Int32), M) else (if a2 < 0 then some ((-1 : Int32), M) else (if a2 ≤ (1 : Int32) then xb1 (f_X1_takeOver 971 1 M) (fun M6 => xb1 (g_X9_foretold_35 a1 a2 xfuel M6 (0 : Int32)) (fun M22 => (if a2 = 0 then some ((M22 971 14), M22) else xb1 (f_X1_freePages 971 M22) (fun v25 => some (v25, M22))))) else some ((-1 : Int32), M)))))
set_option maxHeartbeats 4000000 in
set_option maxRecDepth 20000 in
theorem j_X9_foretold_35 {p : Program} {l : Launch} {e : Env} {s : State} {m : MethodId} {args : Array Value} {below : List Frame} {meth : Method} {c : Code} {Q : State → Prop} {E : xE} {b : Nat} (C : xC p s m args meth c cX9_foretold 4 RX9 (some .int) E b) (x8 : Int32) (x9 : Int32) {y12 : xm}
    (kx0 : ∀ (H : Heap) (locs : List Loc) (ls : Array Slot), xM E b NX (cX E b y12) s.heap H locs → lv_has ls 4 [(0, .ref (b + 0)), (2, .int x9)] → W p l e (xR 8) s m args below meth c H locs 0 0 Q (F0 m 81 ls [])) :
    ∀ (n : Nat) (M11 : xm) (x10 : Int32) (H : Heap) (locs : List Loc) (ls : Array Slot), g_X9_foretold_35 x8 x9 n M11 x10 = some y12 → xM E b NX (cX E b M11) s.heap H locs → lv_has ls 4 [(0, .ref (b + 0)), (1, .int x8), (2, .int x9), (3, .int x10)] → W p l e (xR 8) s m args below meth c H locs 0 0 Q (F0 m 35 ls []) := by
  have hx := C.1.1
  have hb := C.1.2.1
  intro n
  induction n with
  | zero =>
    intro M11 x10 H locs ls hf hm hl
    rw [g_X9_foretold_35] at hf
    cases hf
  | succ n ih =>
    intro M11 x10 H locs ls hf hm hl
    rw [g_X9_foretold_35] at hf
    refine lv_iload_n hx hb dX9_foretold_35 rfl (lv_at hl 3 rfl) ?_
    refine lv_iload_n hx hb dX9_foretold_36 rfl (lv_at hl 1 rfl) ?_
    refine lv_icmp_ge (tgt := 81) hx hb dX9_foretold_37 (by decide) (fun hc13 => ?_) (fun hc13 => ?_)
    · have hf := xif_t hc13 hf
      cases hf
      exact kx0 H locs ls hm (lv_sub hl [0, 2] rfl)
    have hf := xif_f hc13 hf
    refine lv_aload_n hx hb dX9_foretold_40 rfl (lv_at hl 0 rfl) ?_
    refine x_get C hm inX9 rfl 6 (by decide) tf_RX9_39 (cx_ColouredHeap LX_top) rfl dX9_foretold_41 ?_
    refine x_get C hm inX1 rfl 17 (by decide) tf_RX9_124 (cx_Heap (LX_trial 0 _ rfl)) rfl dX9_foretold_44 ?_
    refine lv_sipush (v := (9999 : Int32)) hx hb dX9_foretold_47 (by decide) ?_
    refine lv_icmp_ge (tgt := 81) hx hb dX9_foretold_50 (by decide) (fun hc14 => ?_) (fun hc14 => ?_)
    · have hf := xif_t hc14 hf
      cases hf
      exact kx0 H locs ls hm (lv_sub hl [0, 2] rfl)
    have hf := xif_f hc14 hf
    refine lv_aload_n hx hb dX9_foretold_53 rfl (lv_at hl 0 rfl) ?_
    refine x_get C hm inX9 rfl 6 (by decide) tf_RX9_39 (cx_ColouredHeap LX_top) rfl dX9_foretold_54 ?_
    refine lv_aload_n hx hb dX9_foretold_57 rfl (lv_at hl 0 rfl) ?_
    refine x_get C hm inX9 rfl 9 (by decide) tf_RX9_59 (cx_ColouredHeap LX_top) rfl dX9_foretold_58 ?_
    refine lv_aload_n hx hb dX9_foretold_61 rfl (lv_at hl 0 rfl) ?_
    refine lv_aload_n hx hb dX9_foretold_62 rfl (lv_at hl 0 rfl) ?_
    refine x_get C hm inX9 rfl 2 (by decide) tf_RX9_26 (cx_ColouredHeap LX_top) rfl dX9_foretold_63 ?_
    refine x_get C hm inX8 rfl 4 (by decide) tf_RX9_102 (cx_Told (LX_told 0 _ rfl)) rfl dX9_foretold_66 ?_
    obtain ⟨o16, hq15, hf⟩ := xb1_e hf
    refine x_callVr (As := [.int (M11 483 4)]) (rest := [.ref (b + 1004), .ref (b + 971)]) C hm (c_X9_textAt l E b M11 (M11 483 4) hq15) rfl (cx_ColouredHeap LX_top) tc_X9_textAt tm_RX9_80 ti_X9_textAt ts_X9_textAt tn_RX9 td_X9_textAt rfl rfl ⟨Nat.le_of_ble_eq_true rfl, Nat.le_of_ble_eq_true rfl⟩ rfl hl.1 rfl (Nat.le_of_ble_eq_true rfl) ⟨Nat.zero_le _, Nat.zero_le _⟩ dX9_foretold_69 (fun H locs hP17 hm => ?_)
    obtain ⟨M19, hq18, hf⟩ := xb1_e hf
    refine x_callVv (As := [.ref (b + 1004), xrf b o16]) (rest := []) C hm (c_X1_tick l E b LX_trial (X9_textAt_lat  hq15) M11 hq18) rfl (cx_Heap (LX_trial 0 _ rfl)) tc_X1_tick tm_RX9_127 ti_X1_tick ts_X1_tick tn_RX1 td_X1_tick rfl rfl ⟨Nat.le_of_ble_eq_true rfl, Nat.le_of_ble_eq_true rfl⟩ rfl hl.1 rfl (Nat.le_of_ble_eq_true rfl) ⟨Nat.zero_le _, Nat.zero_le _⟩ dX9_foretold_72 (fun H locs hP20 hm => ?_)
    obtain ⟨v21, ev21, hf⟩ := xlet_x hf
    refine lv_iinc (v := v21) (lv' := [(3, .int v21), (0, .ref (b + 0)), (1, .int x8), (2, .int x9)]) hx hb dX9_foretold_75 hl (k := 3) rfl (by rw [ev21]; rfl) (by decide) rfl (fun ls hl => ?_)
    refine lv_goto (tgt := 35) hx hb dX9_foretold_78 (by decide) ?_
    exact ih M19 v21 H locs ls hf hm (lv_sub hl [1, 2, 3, 0] rfl)
set_option maxHeartbeats 4000000 in
set_option maxRecDepth 20000 in
theorem c_X9_foretold (l : Launch) (E : xE) (b : Nat) (M : xm) (a1 : Int32) (a2 : Int32) {r : Int32} {M' : xm} (hf : f_X9_foretold M a1 a2 = some (r, M')) :
    xMet l E b NX yX9_foretold cX9_foretold 4 (some .int) (xR 8) [.ref (b + 0), .int a1, .int a2] (cX E b M) (some (.int r)) True (cX E b M') := by
  refine xMet.ofW (own := RX9) (by decide) rfl (Nat.le_of_ble_eq_true rfl) ?_
  intro p e s m below meth c H locs ls C hm hl
  have hx := C.1.1
  have hb := C.1.2.1
  have hl : lv_has ls 4 [(0, .ref (b + 0)), (1, .int a1), (2, .int a2)] := hl
  unfold f_X9_foretold at hf
  refine lv_iload_n hx hb dX9_foretold_0 rfl (lv_at hl 1 rfl) ?_
  refine lv_iconst (v := (1 : Int32)) hx hb dX9_foretold_1 (by decide) ?_
  refine lv_icmp_lt (tgt := 20) hx hb dX9_foretold_2 (by decide) (fun hc1 => ?_) (fun hc1 => ?_)
  · have hf := xif_t hc1 hf
    refine lv_iconst (v := (-1 : Int32)) hx hb dX9_foretold_20 (by decide) ?_
    cases hf
    exact x_iret C hm trivial dX9_foretold_21
  have hf := xif_f hc1 hf
  refine lv_iload_n hx hb dX9_foretold_5 rfl (lv_at hl 1 rfl) ?_
  refine lv_bipush (v := (60 : Int32)) hx hb dX9_foretold_6 (by decide) ?_
  refine lv_icmp_gt (tgt := 20) hx hb dX9_foretold_8 (by decide) (fun hc2 => ?_) (fun hc2 => ?_)
  · have hf := xif_t hc2 hf
    refine lv_iconst (v := (-1 : Int32)) hx hb dX9_foretold_20 (by decide) ?_
    cases hf
    exact x_iret C hm trivial dX9_foretold_21
  have hf := xif_f hc2 hf
  refine lv_iload_n hx hb dX9_foretold_11 rfl (lv_at hl 2 rfl) ?_
  refine lv_if_lt (tgt := 20) hx hb dX9_foretold_12 (by decide) (fun hc3 => ?_) (fun hc3 => ?_)
  · have hf := xif_t hc3 hf
    refine lv_iconst (v := (-1 : Int32)) hx hb dX9_foretold_20 (by decide) ?_
    cases hf
    exact x_iret C hm trivial dX9_foretold_21
  have hf := xif_f hc3 hf
  refine lv_iload_n hx hb dX9_foretold_15 rfl (lv_at hl 2 rfl) ?_
  refine lv_iconst (v := (1 : Int32)) hx hb dX9_foretold_16 (by decide) ?_
  refine lv_icmp_le (tgt := 22) hx hb dX9_foretold_17 (by decide) (fun hc4 => ?_) (fun hc4 => ?_)
  rotate_left
  · have hf := xif_f hc4 hf
    refine lv_iconst (v := (-1 : Int32)) hx hb dX9_foretold_20 (by decide) ?_
    cases hf
    exact x_iret C hm trivial dX9_foretold_21
  have hf := xif_t hc4 hf
  refine lv_aload_n hx hb dX9_foretold_22 rfl (lv_at hl 0 rfl) ?_
  refine x_get C hm inX9 rfl 6 (by decide) tf_RX9_39 (cx_ColouredHeap LX_top) rfl dX9_foretold_23 ?_
  refine lv_aload_n hx hb dX9_foretold_26 rfl (lv_at hl 0 rfl) ?_
  refine x_get C hm inX9 rfl 0 (by decide) tf_RX9_10 (cx_ColouredHeap LX_top) rfl dX9_foretold_27 ?_
  obtain ⟨M6, hq5, hf⟩ := xb1_e hf
  refine x_callVv (As := [.ref (b + 1)]) (rest := []) C hm (c_X1_takeOver l E b LX_trial LX_heap M hq5) rfl (cx_Heap (LX_trial 0 _ rfl)) tc_X1_takeOver tm_RX9_261 ti_X1_takeOver ts_X1_takeOver tn_RX1 td_X1_takeOver rfl rfl ⟨Nat.le_of_ble_eq_true rfl, Nat.le_of_ble_eq_true rfl⟩ rfl hl.1 rfl (Nat.le_of_ble_eq_true rfl) ⟨Nat.zero_le _, Nat.zero_le _⟩ dX9_foretold_30 (fun H locs hP7 hm => ?_)
  refine lv_iconst (v := (0 : Int32)) hx hb dX9_foretold_33 (by decide) ?_
  refine lv_istore_n (lv' := [(3, .int (0 : Int32)), (0, .ref (b + 0)), (1, .int a1), (2, .int a2)]) hx hb dX9_foretold_34 rfl hl (by decide) rfl (fun ls hl => ?_)
  obtain ⟨M22, hq, hf⟩ := xb1_e hf
  refine j_X9_foretold_35 C a1 a2 (fun H locs ls hm hl => ?_) xfuel M6 (0 : Int32) H locs ls hq hm (lv_sub hl [1, 2, 3, 0] rfl)
  refine lv_iload_n hx hb dX9_foretold_81 rfl (lv_at hl 1 rfl) ?_
  refine lv_if_ne (tgt := 95) hx hb dX9_foretold_82 (by decide) (fun hc23 => ?_) (fun hc23 => ?_)
  · have hf := xif_f hc23 hf
    refine lv_aload_n hx hb dX9_foretold_95 rfl (lv_at hl 0 rfl) ?_
    refine x_get C hm inX9 rfl 6 (by decide) tf_RX9_39 (cx_ColouredHeap LX_top) rfl dX9_foretold_96 ?_
    obtain ⟨v25, hq24, hf⟩ := xb1_e hf
    refine x_callVi (As := []) (rest := []) C hm (c_X1_freePages l E b LX_trial M22 hq24) rfl (cx_Heap (LX_trial 0 _ rfl)) tc_X1_freePages tm_RX9_263 ti_X1_freePages ts_X1_freePages tn_RX1 td_X1_freePages rfl rfl ⟨Nat.le_of_ble_eq_true rfl, Nat.le_of_ble_eq_true rfl⟩ rfl hl.1 rfl (Nat.le_of_ble_eq_true rfl) ⟨Nat.zero_le _, Nat.zero_le _⟩ dX9_foretold_99 (fun H locs hP26 hm => ?_)
    cases hf
    exact x_iret C hm trivial dX9_foretold_102
  have hf := xif_t hc23 hf
  refine lv_aload_n hx hb dX9_foretold_85 rfl (lv_at hl 0 rfl) ?_
  refine x_get C hm inX9 rfl 6 (by decide) tf_RX9_39 (cx_ColouredHeap LX_top) rfl dX9_foretold_86 ?_
  refine x_get C hm inX1 rfl 14 (by decide) tf_RX9_172 (cx_Heap (LX_trial 0 _ rfl)) rfl dX9_foretold_89 ?_
  refine lv_goto (tgt := 102) hx hb dX9_foretold_92 (by decide) ?_
  cases hf
  exact x_iret C hm trivial dX9_foretold_102
/-! ColouredHeap.forward(I)I -/
theorem dX9_forward_0 : decode cX9_forward 0 = .ok (.iload_n 1, 1) := by decide +kernel
theorem dX9_forward_1 : decode cX9_forward 1 = .ok (.invokestatic 214, 3) := by decide +kernel
theorem dX9_forward_4 : decode cX9_forward 4 = .ok (.ifCond .eq 15, 3) := by decide +kernel
theorem dX9_forward_7 : decode cX9_forward 7 = .ok (.aload_n 0, 1) := by decide +kernel
theorem dX9_forward_8 : decode cX9_forward 8 = .ok (.getfield 10, 3) := by decide +kernel
theorem dX9_forward_11 : decode cX9_forward 11 = .ok (.getfield 220, 3) := by decide +kernel
theorem dX9_forward_14 : decode cX9_forward 14 = .ok (.iload_n 1, 1) := by decide +kernel
theorem dX9_forward_15 : decode cX9_forward 15 = .ok (.iaload, 1) := by decide +kernel
theorem dX9_forward_16 : decode cX9_forward 16 = .ok (.goto 4, 3) := by decide +kernel
theorem dX9_forward_19 : decode cX9_forward 19 = .ok (.iconst (-1), 1) := by decide +kernel
theorem dX9_forward_20 : decode cX9_forward 20 = .ok (.ireturn, 1) := by decide +kernel
def f_X9_forward (M : xm) (a1 : Int32) : Option (Int32) := (if (f_X9_isAddress a1) = 0 then some (-1 : Int32) else if xin a1 64 = true then some (M (1 + 2) (Int32.toNatClampNeg a1)) else none)
set_option maxHeartbeats 4000000 in
set_option maxRecDepth 20000 in
theorem c_X9_forward (l : Launch) (E : xE) (b : Nat) (M : xm) (a1 : Int32) {r : Int32} (hf : f_X9_forward M a1 = some r) :
    xMet l E b NX yX9_forward cX9_forward 2 (some .int) (xR 2) [.ref (b + 0), .int a1] (cX E b M) (some (.int r)) True (cX E b M) := by
  refine xMet.ofW (own := RX9) (by decide) rfl (Nat.le_of_ble_eq_true rfl) ?_
  intro p e s m below meth c H locs ls C hm hl
  have hx := C.1.1
  have hb := C.1.2.1
  have hl : lv_has ls 2 [(0, .ref (b + 0)), (1, .int a1)] := hl
  unfold f_X9_forward at hf
  refine lv_iload_n hx hb dX9_forward_0 rfl (lv_at hl 1 rfl) ?_
  refine x_callSi (As := [.int a1]) (rest := []) C hm (c_X9_isAddress l E b M a1 rfl) tc_X9_isAddress tm_RX9_214 tz_X9_isAddress tn_RX9 td_X9_isAddress rfl rfl ⟨Nat.le_of_ble_eq_true rfl, Nat.le_of_ble_eq_true rfl⟩ rfl hl.1 rfl (Nat.le_of_ble_eq_true rfl) ⟨Nat.zero_le _, Nat.zero_le _⟩ dX9_forward_1 (fun H locs hP1 hm => ?_)
  refine lv_if_eq (tgt := 19) hx hb dX9_forward_4 (by decide) (fun hc2 => ?_) (fun hc2 => ?_)
  · have hf := xif_t hc2 hf
    refine lv_iconst (v := (-1 : Int32)) hx hb dX9_forward_19 (by decide) ?_
    cases hf
    exact x_iret C hm trivial dX9_forward_20
  have hf := xif_f hc2 hf
  refine lv_aload_n hx hb dX9_forward_7 rfl (lv_at hl 0 rfl) ?_
  refine x_get C hm inX9 rfl 0 (by decide) tf_RX9_10 (cx_ColouredHeap LX_top) rfl dX9_forward_8 ?_
  refine x_get C hm inX1 rfl 1 (by decide) tf_RX9_220 (cx_Heap (LX_heap 0 _ rfl)) rfl dX9_forward_11 ?_
  refine lv_iload_n hx hb dX9_forward_14 rfl (lv_at hl 1 rfl) ?_
  obtain ⟨hi3, hf⟩ := xif_s hf
  refine x_iald (j := (Int32.toNatClampNeg a1)) C hm (cx_I (LX_heap 2 _ rfl)) hi3 dX9_forward_15 rfl ?_
  refine lv_goto (tgt := 20) hx hb dX9_forward_16 (by decide) ?_
  cases hf
  exact x_iret C hm trivial dX9_forward_20
/-! ColouredHeap.gaps(I)I -/
theorem dX9_gaps_0 : decode cX9_gaps 0 = .ok (.iload_n 1, 1) := by decide +kernel
theorem dX9_gaps_1 : decode cX9_gaps 1 = .ok (.invokestatic 223, 3) := by decide +kernel
theorem dX9_gaps_4 : decode cX9_gaps 4 = .ok (.ifCond .ne 5, 3) := by decide +kernel
theorem dX9_gaps_7 : decode cX9_gaps 7 = .ok (.iconst (-1), 1) := by decide +kernel
theorem dX9_gaps_8 : decode cX9_gaps 8 = .ok (.ireturn, 1) := by decide +kernel
theorem dX9_gaps_9 : decode cX9_gaps 9 = .ok (.aload_n 0, 1) := by decide +kernel
theorem dX9_gaps_10 : decode cX9_gaps 10 = .ok (.getfield 45, 3) := by decide +kernel
theorem dX9_gaps_13 : decode cX9_gaps 13 = .ok (.aload_n 0, 1) := by decide +kernel
theorem dX9_gaps_14 : decode cX9_gaps 14 = .ok (.getfield 10, 3) := by decide +kernel
theorem dX9_gaps_17 : decode cX9_gaps 17 = .ok (.iconst (-1), 1) := by decide +kernel
theorem dX9_gaps_18 : decode cX9_gaps 18 = .ok (.invokevirtual 273, 3) := by decide +kernel
theorem dX9_gaps_21 : decode cX9_gaps 21 = .ok (.aload_n 0, 1) := by decide +kernel
theorem dX9_gaps_22 : decode cX9_gaps 22 = .ok (.getfield 45, 3) := by decide +kernel
theorem dX9_gaps_25 : decode cX9_gaps 25 = .ok (.aload_n 0, 1) := by decide +kernel
theorem dX9_gaps_26 : decode cX9_gaps 26 = .ok (.getfield 10, 3) := by decide +kernel
theorem dX9_gaps_29 : decode cX9_gaps 29 = .ok (.iload_n 1, 1) := by decide +kernel
theorem dX9_gaps_30 : decode cX9_gaps 30 = .ok (.invokevirtual 280, 3) := by decide +kernel
theorem dX9_gaps_33 : decode cX9_gaps 33 = .ok (.ireturn, 1) := by decide +kernel
def f_X9_gaps (M : xm) (a1 : Int32) : Option (Int32 × xm) := (if (f_X9_isPage a1) = 0 then some ((-1 : Int32), M) else xb1 (f_X6_take 1 M (-1 : Int32)) (fun M4 => xb1 (f_X6_gapsOf 1 M4 a1) (fun v7 => some (v7, M4))))
set_option maxHeartbeats 4000000 in
set_option maxRecDepth 20000 in
theorem c_X9_gaps (l : Launch) (E : xE) (b : Nat) (M : xm) (a1 : Int32) {r : Int32} {M' : xm} (hf : f_X9_gaps M a1 = some (r, M')) :
    xMet l E b NX yX9_gaps cX9_gaps 2 (some .int) (xR 5) [.ref (b + 0), .int a1] (cX E b M) (some (.int r)) True (cX E b M') := by
  refine xMet.ofW (own := RX9) (by decide) rfl (Nat.le_of_ble_eq_true rfl) ?_
  intro p e s m below meth c H locs ls C hm hl
  have hx := C.1.1
  have hb := C.1.2.1
  have hl : lv_has ls 2 [(0, .ref (b + 0)), (1, .int a1)] := hl
  unfold f_X9_gaps at hf
  refine lv_iload_n hx hb dX9_gaps_0 rfl (lv_at hl 1 rfl) ?_
  refine x_callSi (As := [.int a1]) (rest := []) C hm (c_X9_isPage l E b M a1 rfl) tc_X9_isPage tm_RX9_223 tz_X9_isPage tn_RX9 td_X9_isPage rfl rfl ⟨Nat.le_of_ble_eq_true rfl, Nat.le_of_ble_eq_true rfl⟩ rfl hl.1 rfl (Nat.le_of_ble_eq_true rfl) ⟨Nat.zero_le _, Nat.zero_le _⟩ dX9_gaps_1 (fun H locs hP1 hm => ?_)
  refine lv_if_ne (tgt := 9) hx hb dX9_gaps_4 (by decide) (fun hc2 => ?_) (fun hc2 => ?_)
  rotate_left
  · have hf := xif_t hc2 hf
    refine lv_iconst (v := (-1 : Int32)) hx hb dX9_gaps_7 (by decide) ?_
    cases hf
    exact x_iret C hm trivial dX9_gaps_8
  have hf := xif_f hc2 hf
  refine lv_aload_n hx hb dX9_gaps_9 rfl (lv_at hl 0 rfl) ?_
  refine x_get C hm inX9 rfl 7 (by decide) tf_RX9_45 (cx_ColouredHeap LX_top) rfl dX9_gaps_10 ?_
  refine lv_aload_n hx hb dX9_gaps_13 rfl (lv_at hl 0 rfl) ?_
  refine x_get C hm inX9 rfl 0 (by decide) tf_RX9_10 (cx_ColouredHeap LX_top) rfl dX9_gaps_14 ?_
  refine lv_iconst (v := (-1 : Int32)) hx hb dX9_gaps_17 (by decide) ?_
  obtain ⟨M4, hq3, hf⟩ := xb1_e hf
  refine x_callVv (As := [.ref (b + 1), .int (-1 : Int32)]) (rest := []) C hm (c_X6_take l E b LX_heap M (-1 : Int32) hq3) rfl (cx_Survey (LX_survey 0 _ rfl)) tc_X6_take tm_RX9_273 ti_X6_take ts_X6_take tn_RX6 td_X6_take rfl rfl ⟨Nat.le_of_ble_eq_true rfl, Nat.le_of_ble_eq_true rfl⟩ rfl hl.1 rfl (Nat.le_of_ble_eq_true rfl) ⟨Nat.zero_le _, Nat.zero_le _⟩ dX9_gaps_18 (fun H locs hP5 hm => ?_)
  refine lv_aload_n hx hb dX9_gaps_21 rfl (lv_at hl 0 rfl) ?_
  refine x_get C hm inX9 rfl 7 (by decide) tf_RX9_45 (cx_ColouredHeap LX_top) rfl dX9_gaps_22 ?_
  refine lv_aload_n hx hb dX9_gaps_25 rfl (lv_at hl 0 rfl) ?_
  refine x_get C hm inX9 rfl 0 (by decide) tf_RX9_10 (cx_ColouredHeap LX_top) rfl dX9_gaps_26 ?_
  refine lv_iload_n hx hb dX9_gaps_29 rfl (lv_at hl 1 rfl) ?_
  obtain ⟨v7, hq6, hf⟩ := xb1_e hf
  refine x_callVi (As := [.ref (b + 1), .int a1]) (rest := []) C hm (c_X6_gapsOf l E b LX_heap M4 a1 hq6) rfl (cx_Survey (LX_survey 0 _ rfl)) tc_X6_gapsOf tm_RX9_280 ti_X6_gapsOf ts_X6_gapsOf tn_RX6 td_X6_gapsOf rfl rfl ⟨Nat.le_of_ble_eq_true rfl, Nat.le_of_ble_eq_true rfl⟩ rfl hl.1 rfl (Nat.le_of_ble_eq_true rfl) ⟨Nat.zero_le _, Nat.zero_le _⟩ dX9_gaps_30 (fun H locs hP8 hm => ?_)
  cases hf
  exact x_iret C hm trivial dX9_gaps_33
/-! ColouredHeap.image()I -/
theorem dX9_image_0 : decode cX9_image 0 = .ok (.aload_n 0, 1) := by decide +kernel
theorem dX9_image_1 : decode cX9_image 1 = .ok (.getfield 30, 3) := by decide +kernel
theorem dX9_image_4 : decode cX9_image 4 = .ok (.aload_n 0, 1) := by decide +kernel
theorem dX9_image_5 : decode cX9_image 5 = .ok (.getfield 10, 3) := by decide +kernel
theorem dX9_image_8 : decode cX9_image 8 = .ok (.invokevirtual 261, 3) := by decide +kernel
theorem dX9_image_11 : decode cX9_image 11 = .ok (.aload_n 0, 1) := by decide +kernel
theorem dX9_image_12 : decode cX9_image 12 = .ok (.getfield 33, 3) := by decide +kernel
theorem dX9_image_15 : decode cX9_image 15 = .ok (.aload_n 0, 1) := by decide +kernel
theorem dX9_image_16 : decode cX9_image 16 = .ok (.getfield 19, 3) := by decide +kernel
theorem dX9_image_19 : decode cX9_image 19 = .ok (.invokevirtual 326, 3) := by decide +kernel
theorem dX9_image_22 : decode cX9_image 22 = .ok (.aload_n 0, 1) := by decide +kernel
theorem dX9_image_23 : decode cX9_image 23 = .ok (.getfield 36, 3) := by decide +kernel
theorem dX9_image_26 : decode cX9_image 26 = .ok (.aload_n 0, 1) := by decide +kernel
theorem dX9_image_27 : decode cX9_image 27 = .ok (.getfield 26, 3) := by decide +kernel
theorem dX9_image_30 : decode cX9_image 30 = .ok (.invokevirtual 329, 3) := by decide +kernel
theorem dX9_image_33 : decode cX9_image 33 = .ok (.aload_n 0, 1) := by decide +kernel
theorem dX9_image_34 : decode cX9_image 34 = .ok (.getfield 10, 3) := by decide +kernel
theorem dX9_image_37 : decode cX9_image 37 = .ok (.getfield 124, 3) := by decide +kernel
theorem dX9_image_40 : decode cX9_image 40 = .ok (.ireturn, 1) := by decide +kernel
def f_X9_image (M : xm) : Option (Int32 × xm) := xb1 (f_X1_takeOver 486 1 M) (fun M2 => xb1 (f_X5_takeOver 501 16 M2) (fun M5 => xb1 (f_X8_takeOver 968 483 M5) (fun M8 => some ((M8 1 17), M8))))
set_option maxHeartbeats 4000000 in
set_option maxRecDepth 20000 in
theorem c_X9_image (l : Launch) (E : xE) (b : Nat) (M : xm) {r : Int32} {M' : xm} (hf : f_X9_image M = some (r, M')) :
    xMet l E b NX yX9_image cX9_image 1 (some .int) (xR 5) [.ref (b + 0)] (cX E b M) (some (.int r)) True (cX E b M') := by
  refine xMet.ofW (own := RX9) (by decide) rfl (Nat.le_of_ble_eq_true rfl) ?_
  intro p e s m below meth c H locs ls C hm hl
  have hx := C.1.1
  have hb := C.1.2.1
  have hl : lv_has ls 1 [(0, .ref (b + 0))] := hl
  unfold f_X9_image at hf
  refine lv_aload_n hx hb dX9_image_0 rfl (lv_at hl 0 rfl) ?_
  refine x_get C hm inX9 rfl 3 (by decide) tf_RX9_30 (cx_ColouredHeap LX_top) rfl dX9_image_1 ?_
  refine lv_aload_n hx hb dX9_image_4 rfl (lv_at hl 0 rfl) ?_
  refine x_get C hm inX9 rfl 0 (by decide) tf_RX9_10 (cx_ColouredHeap LX_top) rfl dX9_image_5 ?_
  obtain ⟨M2, hq1, hf⟩ := xb1_e hf
  refine x_callVv (As := [.ref (b + 1)]) (rest := []) C hm (c_X1_takeOver l E b LX_imageHeap LX_heap M hq1) rfl (cx_Heap (LX_imageHeap 0 _ rfl)) tc_X1_takeOver tm_RX9_261 ti_X1_takeOver ts_X1_takeOver tn_RX1 td_X1_takeOver rfl rfl ⟨Nat.le_of_ble_eq_true rfl, Nat.le_of_ble_eq_true rfl⟩ rfl hl.1 rfl (Nat.le_of_ble_eq_true rfl) ⟨Nat.zero_le _, Nat.zero_le _⟩ dX9_image_8 (fun H locs hP3 hm => ?_)
  refine lv_aload_n hx hb dX9_image_11 rfl (lv_at hl 0 rfl) ?_
  refine x_get C hm inX9 rfl 4 (by decide) tf_RX9_33 (cx_ColouredHeap LX_top) rfl dX9_image_12 ?_
  refine lv_aload_n hx hb dX9_image_15 rfl (lv_at hl 0 rfl) ?_
  refine x_get C hm inX9 rfl 1 (by decide) tf_RX9_19 (cx_ColouredHeap LX_top) rfl dX9_image_16 ?_
  obtain ⟨M5, hq4, hf⟩ := xb1_e hf
  refine x_callVv (As := [.ref (b + 16)]) (rest := []) C hm (c_X5_takeOver l E b LX_imageSteps LX_steps M2 hq4) rfl (cx_Steps (LX_imageSteps 0 _ rfl)) tc_X5_takeOver tm_RX9_326 ti_X5_takeOver ts_X5_takeOver tn_RX5 td_X5_takeOver rfl rfl ⟨Nat.le_of_ble_eq_true rfl, Nat.le_of_ble_eq_true rfl⟩ rfl hl.1 rfl (Nat.le_of_ble_eq_true rfl) ⟨Nat.zero_le _, Nat.zero_le _⟩ dX9_image_19 (fun H locs hP6 hm => ?_)
  refine lv_aload_n hx hb dX9_image_22 rfl (lv_at hl 0 rfl) ?_
  refine x_get C hm inX9 rfl 5 (by decide) tf_RX9_36 (cx_ColouredHeap LX_top) rfl dX9_image_23 ?_
  refine lv_aload_n hx hb dX9_image_26 rfl (lv_at hl 0 rfl) ?_
  refine x_get C hm inX9 rfl 2 (by decide) tf_RX9_26 (cx_ColouredHeap LX_top) rfl dX9_image_27 ?_
  obtain ⟨M8, hq7, hf⟩ := xb1_e hf
  refine x_callVv (As := [.ref (b + 483)]) (rest := []) C hm (c_X8_takeOver l E b LX_imageTold LX_told M5 hq7) rfl (cx_Told (LX_imageTold 0 _ rfl)) tc_X8_takeOver tm_RX9_329 ti_X8_takeOver ts_X8_takeOver tn_RX8 td_X8_takeOver rfl rfl ⟨Nat.le_of_ble_eq_true rfl, Nat.le_of_ble_eq_true rfl⟩ rfl hl.1 rfl (Nat.le_of_ble_eq_true rfl) ⟨Nat.zero_le _, Nat.zero_le _⟩ dX9_image_30 (fun H locs hP9 hm => ?_)
  refine lv_aload_n hx hb dX9_image_33 rfl (lv_at hl 0 rfl) ?_
  refine x_get C hm inX9 rfl 0 (by decide) tf_RX9_10 (cx_ColouredHeap LX_top) rfl dX9_image_34 ?_
  refine x_get C hm inX1 rfl 17 (by decide) tf_RX9_124 (cx_Heap (LX_heap 0 _ rfl)) rfl dX9_image_37 ?_
  cases hf
  exact x_iret C hm trivial dX9_image_40
/-! ColouredHeap.is(I)I -/
theorem dX9_is_0 : decode cX9_is 0 = .ok (.iload_n 1, 1) := by decide +kernel
theorem dX9_is_1 : decode cX9_is 1 = .ok (.tableswitch 103 0 6 #[43, 51, 59, 67, 75, 83, 93], 43) := by decide +kernel
theorem dX9_is_44 : decode cX9_is 44 = .ok (.aload_n 0, 1) := by decide +kernel
theorem dX9_is_45 : decode cX9_is 45 = .ok (.getfield 10, 3) := by decide +kernel
theorem dX9_is_48 : decode cX9_is 48 = .ok (.getfield 124, 3) := by decide +kernel
theorem dX9_is_51 : decode cX9_is 51 = .ok (.ireturn, 1) := by decide +kernel
theorem dX9_is_52 : decode cX9_is 52 = .ok (.aload_n 0, 1) := by decide +kernel
theorem dX9_is_53 : decode cX9_is 53 = .ok (.getfield 10, 3) := by decide +kernel
theorem dX9_is_56 : decode cX9_is 56 = .ok (.getfield 202, 3) := by decide +kernel
theorem dX9_is_59 : decode cX9_is 59 = .ok (.ireturn, 1) := by decide +kernel
theorem dX9_is_60 : decode cX9_is 60 = .ok (.aload_n 0, 1) := by decide +kernel
theorem dX9_is_61 : decode cX9_is 61 = .ok (.getfield 10, 3) := by decide +kernel
theorem dX9_is_64 : decode cX9_is 64 = .ok (.getfield 172, 3) := by decide +kernel
theorem dX9_is_67 : decode cX9_is 67 = .ok (.ireturn, 1) := by decide +kernel
theorem dX9_is_68 : decode cX9_is 68 = .ok (.aload_n 0, 1) := by decide +kernel
theorem dX9_is_69 : decode cX9_is 69 = .ok (.getfield 10, 3) := by decide +kernel
theorem dX9_is_72 : decode cX9_is 72 = .ok (.getfield 239, 3) := by decide +kernel
theorem dX9_is_75 : decode cX9_is 75 = .ok (.ireturn, 1) := by decide +kernel
theorem dX9_is_76 : decode cX9_is 76 = .ok (.aload_n 0, 1) := by decide +kernel
theorem dX9_is_77 : decode cX9_is 77 = .ok (.getfield 10, 3) := by decide +kernel
theorem dX9_is_80 : decode cX9_is 80 = .ok (.getfield 242, 3) := by decide +kernel
theorem dX9_is_83 : decode cX9_is 83 = .ok (.ireturn, 1) := by decide +kernel
theorem dX9_is_84 : decode cX9_is 84 = .ok (.aload_n 0, 1) := by decide +kernel
theorem dX9_is_85 : decode cX9_is 85 = .ok (.getfield 10, 3) := by decide +kernel
theorem dX9_is_88 : decode cX9_is 88 = .ok (.getfield 245, 3) := by decide +kernel
theorem dX9_is_91 : decode cX9_is 91 = .ok (.iconst 0, 1) := by decide +kernel
theorem dX9_is_92 : decode cX9_is 92 = .ok (.iaload, 1) := by decide +kernel
theorem dX9_is_93 : decode cX9_is 93 = .ok (.ireturn, 1) := by decide +kernel
theorem dX9_is_94 : decode cX9_is 94 = .ok (.aload_n 0, 1) := by decide +kernel
theorem dX9_is_95 : decode cX9_is 95 = .ok (.getfield 10, 3) := by decide +kernel
theorem dX9_is_98 : decode cX9_is 98 = .ok (.getfield 245, 3) := by decide +kernel
theorem dX9_is_101 : decode cX9_is 101 = .ok (.iconst 1, 1) := by decide +kernel
theorem dX9_is_102 : decode cX9_is 102 = .ok (.iaload, 1) := by decide +kernel
theorem dX9_is_103 : decode cX9_is 103 = .ok (.ireturn, 1) := by decide +kernel
theorem dX9_is_104 : decode cX9_is 104 = .ok (.bipush (-2), 2) := by decide +kernel
theorem dX9_is_106 : decode cX9_is 106 = .ok (.ireturn, 1) := by decide +kernel
def f_X9_is (M : xm) (a1 : Int32) : Int32 := (if a1 = (0 : Int32) then (M 1 17) else (if a1 = (1 : Int32) then (M 1 18) else (if a1 = (2 : Int32) then (M 1 14) else (if a1 = (3 : Int32) then (M 1 15) else (if a1 = (4 : Int32) then (M 1 13) else (if a1 = (5 : Int32) then (M (1 + 9) 0) else (if a1 = (6 : Int32) then (M (1 + 9) 1) else (-2 : Int32))))))))
set_option maxHeartbeats 4000000 in
set_option maxRecDepth 20000 in
theorem c_X9_is (l : Launch) (E : xE) (b : Nat) (M : xm) (a1 : Int32) {r : Int32} (hf : f_X9_is M a1 = r) :
    xMet l E b NX yX9_is cX9_is 2 (some .int) (xR 1) [.ref (b + 0), .int a1] (cX E b M) (some (.int r)) True (cX E b M) := by
  refine xMet.ofW (own := RX9) (by decide) rfl (Nat.le_of_ble_eq_true rfl) ?_
  intro p e s m below meth c H locs ls C hm hl
  have hx := C.1.1
  have hb := C.1.2.1
  have hl : lv_has ls 2 [(0, .ref (b + 0)), (1, .int a1)] := hl
  unfold f_X9_is at hf
  refine lv_iload_n hx hb dX9_is_0 rfl (lv_at hl 1 rfl) ?_
  by_cases hs1 : a1 = (0 : Int32)
  · have hf := xif_t hs1 hf
    refine x_tabIn (tgt := 44) hx hb (0 : Int32) hs1 dX9_is_1 (by decide) (by decide) rfl (by decide) ?_
    refine lv_aload_n hx hb dX9_is_44 rfl (lv_at hl 0 rfl) ?_
    refine x_get C hm inX9 rfl 0 (by decide) tf_RX9_10 (cx_ColouredHeap LX_top) rfl dX9_is_45 ?_
    refine x_get C hm inX1 rfl 17 (by decide) tf_RX9_124 (cx_Heap (LX_heap 0 _ rfl)) rfl dX9_is_48 ?_
    cases hf
    exact x_iret C hm trivial dX9_is_51
  have hf := xif_f hs1 hf
  by_cases hs2 : a1 = (1 : Int32)
  · have hf := xif_t hs2 hf
    refine x_tabIn (tgt := 52) hx hb (1 : Int32) hs2 dX9_is_1 (by decide) (by decide) rfl (by decide) ?_
    refine lv_aload_n hx hb dX9_is_52 rfl (lv_at hl 0 rfl) ?_
    refine x_get C hm inX9 rfl 0 (by decide) tf_RX9_10 (cx_ColouredHeap LX_top) rfl dX9_is_53 ?_
    refine x_get C hm inX1 rfl 18 (by decide) tf_RX9_202 (cx_Heap (LX_heap 0 _ rfl)) rfl dX9_is_56 ?_
    cases hf
    exact x_iret C hm trivial dX9_is_59
  have hf := xif_f hs2 hf
  by_cases hs3 : a1 = (2 : Int32)
  · have hf := xif_t hs3 hf
    refine x_tabIn (tgt := 60) hx hb (2 : Int32) hs3 dX9_is_1 (by decide) (by decide) rfl (by decide) ?_
    refine lv_aload_n hx hb dX9_is_60 rfl (lv_at hl 0 rfl) ?_
    refine x_get C hm inX9 rfl 0 (by decide) tf_RX9_10 (cx_ColouredHeap LX_top) rfl dX9_is_61 ?_
    refine x_get C hm inX1 rfl 14 (by decide) tf_RX9_172 (cx_Heap (LX_heap 0 _ rfl)) rfl dX9_is_64 ?_
    cases hf
    exact x_iret C hm trivial dX9_is_67
  have hf := xif_f hs3 hf
  by_cases hs4 : a1 = (3 : Int32)
  · have hf := xif_t hs4 hf
    refine x_tabIn (tgt := 68) hx hb (3 : Int32) hs4 dX9_is_1 (by decide) (by decide) rfl (by decide) ?_
    refine lv_aload_n hx hb dX9_is_68 rfl (lv_at hl 0 rfl) ?_
    refine x_get C hm inX9 rfl 0 (by decide) tf_RX9_10 (cx_ColouredHeap LX_top) rfl dX9_is_69 ?_
    refine x_get C hm inX1 rfl 15 (by decide) tf_RX9_239 (cx_Heap (LX_heap 0 _ rfl)) rfl dX9_is_72 ?_
    cases hf
    exact x_iret C hm trivial dX9_is_75
  have hf := xif_f hs4 hf
  by_cases hs5 : a1 = (4 : Int32)
  · have hf := xif_t hs5 hf
    refine x_tabIn (tgt := 76) hx hb (4 : Int32) hs5 dX9_is_1 (by decide) (by decide) rfl (by decide) ?_
    refine lv_aload_n hx hb dX9_is_76 rfl (lv_at hl 0 rfl) ?_
    refine x_get C hm inX9 rfl 0 (by decide) tf_RX9_10 (cx_ColouredHeap LX_top) rfl dX9_is_77 ?_
    refine x_get C hm inX1 rfl 13 (by decide) tf_RX9_242 (cx_Heap (LX_heap 0 _ rfl)) rfl dX9_is_80 ?_
    cases hf
    exact x_iret C hm trivial dX9_is_83
  have hf := xif_f hs5 hf
  by_cases hs6 : a1 = (5 : Int32)
  · have hf := xif_t hs6 hf
    refine x_tabIn (tgt := 84) hx hb (5 : Int32) hs6 dX9_is_1 (by decide) (by decide) rfl (by decide) ?_
    refine lv_aload_n hx hb dX9_is_84 rfl (lv_at hl 0 rfl) ?_
    refine x_get C hm inX9 rfl 0 (by decide) tf_RX9_10 (cx_ColouredHeap LX_top) rfl dX9_is_85 ?_
    refine x_get C hm inX1 rfl 8 (by decide) tf_RX9_245 (cx_Heap (LX_heap 0 _ rfl)) rfl dX9_is_88 ?_
    refine lv_iconst (v := (0 : Int32)) hx hb dX9_is_91 (by decide) ?_
    refine x_iald (j := 0) C hm (cx_I (LX_heap 9 _ rfl)) (by decide) dX9_is_92 (by decide) ?_
    cases hf
    exact x_iret C hm trivial dX9_is_93
  have hf := xif_f hs6 hf
  by_cases hs7 : a1 = (6 : Int32)
  · have hf := xif_t hs7 hf
    refine x_tabIn (tgt := 94) hx hb (6 : Int32) hs7 dX9_is_1 (by decide) (by decide) rfl (by decide) ?_
    refine lv_aload_n hx hb dX9_is_94 rfl (lv_at hl 0 rfl) ?_
    refine x_get C hm inX9 rfl 0 (by decide) tf_RX9_10 (cx_ColouredHeap LX_top) rfl dX9_is_95 ?_
    refine x_get C hm inX1 rfl 8 (by decide) tf_RX9_245 (cx_Heap (LX_heap 0 _ rfl)) rfl dX9_is_98 ?_
    refine lv_iconst (v := (1 : Int32)) hx hb dX9_is_101 (by decide) ?_
    refine x_iald (j := 1) C hm (cx_I (LX_heap 9 _ rfl)) (by decide) dX9_is_102 (by decide) ?_
    cases hf
    exact x_iret C hm trivial dX9_is_103
  have hf := xif_f hs7 hf
  refine x_tabOut (tgt := 104) hx hb dX9_is_1 (by decide) (fun i hi => ?_) (by decide) ?_
  · match i, hi with
    | 0, _ => exact hs1
    | 1, _ => exact hs2
    | 2, _ => exact hs3
    | 3, _ => exact hs4
    | 4, _ => exact hs5
    | 5, _ => exact hs6
    | 6, _ => exact hs7
    | (i + 7), hi => exact absurd hi (by omega)
  refine lv_bipush (v := (-2 : Int32)) hx hb dX9_is_104 (by decide) ?_
  cases hf
  exact x_iret C hm trivial dX9_is_106
/-! ColouredHeap.ledger(I)I -/
theorem dX9_ledger_0 : decode cX9_ledger 0 = .ok (.iload_n 1, 1) := by decide +kernel
theorem dX9_ledger_1 : decode cX9_ledger 1 = .ok (.ifCond .lt 9, 3) := by decide +kernel
theorem dX9_ledger_4 : decode cX9_ledger 4 = .ok (.iload_n 1, 1) := by decide +kernel
theorem dX9_ledger_5 : decode cX9_ledger 5 = .ok (.bipush 6, 2) := by decide +kernel
theorem dX9_ledger_7 : decode cX9_ledger 7 = .ok (.if_icmp .lt 8, 3) := by decide +kernel
theorem dX9_ledger_10 : decode cX9_ledger 10 = .ok (.bipush (-2), 2) := by decide +kernel
theorem dX9_ledger_12 : decode cX9_ledger 12 = .ok (.goto 14, 3) := by decide +kernel
theorem dX9_ledger_15 : decode cX9_ledger 15 = .ok (.aload_n 0, 1) := by decide +kernel
theorem dX9_ledger_16 : decode cX9_ledger 16 = .ok (.getfield 10, 3) := by decide +kernel
theorem dX9_ledger_19 : decode cX9_ledger 19 = .ok (.getfield 251, 3) := by decide +kernel
theorem dX9_ledger_22 : decode cX9_ledger 22 = .ok (.iload_n 1, 1) := by decide +kernel
theorem dX9_ledger_23 : decode cX9_ledger 23 = .ok (.invokevirtual 323, 3) := by decide +kernel
theorem dX9_ledger_26 : decode cX9_ledger 26 = .ok (.ireturn, 1) := by decide +kernel
def f_X9_ledger (M : xm) (a1 : Int32) : Option (Int32) := (if a1 < 0 then some (-2 : Int32) else (if a1 < (6 : Int32) then xb1 (f_X0_linesOf (1 + 13) M a1) (fun v4 => some v4) else some (-2 : Int32)))
set_option maxHeartbeats 4000000 in
set_option maxRecDepth 20000 in
theorem c_X9_ledger (l : Launch) (E : xE) (b : Nat) (M : xm) (a1 : Int32) {r : Int32} (hf : f_X9_ledger M a1 = some r) :
    xMet l E b NX yX9_ledger cX9_ledger 2 (some .int) (xR 3) [.ref (b + 0), .int a1] (cX E b M) (some (.int r)) True (cX E b M) := by
  refine xMet.ofW (own := RX9) (by decide) rfl (Nat.le_of_ble_eq_true rfl) ?_
  intro p e s m below meth c H locs ls C hm hl
  have hx := C.1.1
  have hb := C.1.2.1
  have hl : lv_has ls 2 [(0, .ref (b + 0)), (1, .int a1)] := hl
  unfold f_X9_ledger at hf
  refine lv_iload_n hx hb dX9_ledger_0 rfl (lv_at hl 1 rfl) ?_
  refine lv_if_lt (tgt := 10) hx hb dX9_ledger_1 (by decide) (fun hc1 => ?_) (fun hc1 => ?_)
  · have hf := xif_t hc1 hf
    refine lv_bipush (v := (-2 : Int32)) hx hb dX9_ledger_10 (by decide) ?_
    refine lv_goto (tgt := 26) hx hb dX9_ledger_12 (by decide) ?_
    cases hf
    exact x_iret C hm trivial dX9_ledger_26
  have hf := xif_f hc1 hf
  refine lv_iload_n hx hb dX9_ledger_4 rfl (lv_at hl 1 rfl) ?_
  refine lv_bipush (v := (6 : Int32)) hx hb dX9_ledger_5 (by decide) ?_
  refine lv_icmp_lt (tgt := 15) hx hb dX9_ledger_7 (by decide) (fun hc2 => ?_) (fun hc2 => ?_)
  rotate_left
  · have hf := xif_f hc2 hf
    refine lv_bipush (v := (-2 : Int32)) hx hb dX9_ledger_10 (by decide) ?_
    refine lv_goto (tgt := 26) hx hb dX9_ledger_12 (by decide) ?_
    cases hf
    exact x_iret C hm trivial dX9_ledger_26
  have hf := xif_t hc2 hf
  refine lv_aload_n hx hb dX9_ledger_15 rfl (lv_at hl 0 rfl) ?_
  refine x_get C hm inX9 rfl 0 (by decide) tf_RX9_10 (cx_ColouredHeap LX_top) rfl dX9_ledger_16 ?_
  refine x_get C hm inX1 rfl 12 (by decide) tf_RX9_251 (cx_Heap (LX_heap 0 _ rfl)) rfl dX9_ledger_19 ?_
  refine lv_iload_n hx hb dX9_ledger_22 rfl (lv_at hl 1 rfl) ?_
  obtain ⟨v4, hq3, hf⟩ := xb1_e hf
  refine x_callVi (As := [.int a1]) (rest := []) C hm (c_X0_linesOf l E b (lat_book LX_heap) M a1 hq3) rfl (cx_Book ((lat_book LX_heap) 0 _ rfl)) tc_X0_linesOf tm_RX9_323 ti_X0_linesOf ts_X0_linesOf tn_RX0 td_X0_linesOf rfl rfl ⟨Nat.le_of_ble_eq_true rfl, Nat.le_of_ble_eq_true rfl⟩ rfl hl.1 rfl (Nat.le_of_ble_eq_true rfl) ⟨Nat.zero_le _, Nat.zero_le _⟩ dX9_ledger_23 (fun H locs hP5 hm => ?_)
  cases hf
  exact x_iret C hm trivial dX9_ledger_26
/-! ColouredHeap.load(III)I -/
theorem dX9_load_0 : decode cX9_load 0 = .ok (.iload_n 1, 1) := by decide +kernel
theorem dX9_load_1 : decode cX9_load 1 = .ok (.invokestatic 105, 3) := by decide +kernel
theorem dX9_load_4 : decode cX9_load 4 = .ok (.ifCond .ne 6, 3) := by decide +kernel
theorem dX9_load_7 : decode cX9_load 7 = .ok (.bipush (-2), 2) := by decide +kernel
theorem dX9_load_9 : decode cX9_load 9 = .ok (.ireturn, 1) := by decide +kernel
theorem dX9_load_10 : decode cX9_load 10 = .ok (.aload_n 0, 1) := by decide +kernel
theorem dX9_load_11 : decode cX9_load 11 = .ok (.getfield 19, 3) := by decide +kernel
theorem dX9_load_14 : decode cX9_load 14 = .ok (.aload_n 0, 1) := by decide +kernel
theorem dX9_load_15 : decode cX9_load 15 = .ok (.getfield 10, 3) := by decide +kernel
theorem dX9_load_18 : decode cX9_load 18 = .ok (.invokevirtual 113, 3) := by decide +kernel
theorem dX9_load_21 : decode cX9_load 21 = .ok (.aload_n 0, 1) := by decide +kernel
theorem dX9_load_22 : decode cX9_load 22 = .ok (.getfield 10, 3) := by decide +kernel
theorem dX9_load_25 : decode cX9_load 25 = .ok (.iload_n 1, 1) := by decide +kernel
theorem dX9_load_26 : decode cX9_load 26 = .ok (.iload_n 2, 1) := by decide +kernel
theorem dX9_load_27 : decode cX9_load 27 = .ok (.iload_n 3, 1) := by decide +kernel
theorem dX9_load_28 : decode cX9_load 28 = .ok (.invokevirtual 131, 3) := by decide +kernel
theorem dX9_load_31 : decode cX9_load 31 = .ok (.istore 4, 2) := by decide +kernel
theorem dX9_load_33 : decode cX9_load 33 = .ok (.iload 4, 2) := by decide +kernel
theorem dX9_load_35 : decode cX9_load 35 = .ok (.bipush (-2), 2) := by decide +kernel
theorem dX9_load_37 : decode cX9_load 37 = .ok (.if_icmp .eq 10, 3) := by decide +kernel
theorem dX9_load_40 : decode cX9_load 40 = .ok (.aload_n 0, 1) := by decide +kernel
theorem dX9_load_41 : decode cX9_load 41 = .ok (.getfield 19, 3) := by decide +kernel
theorem dX9_load_44 : decode cX9_load 44 = .ok (.invokevirtual 121, 3) := by decide +kernel
theorem dX9_load_47 : decode cX9_load 47 = .ok (.iload 4, 2) := by decide +kernel
theorem dX9_load_49 : decode cX9_load 49 = .ok (.ireturn, 1) := by decide +kernel
def f_X9_load (M : xm) (a1 : Int32) (a2 : Int32) (a3 : Int32) : Option (Int32 × xm) := (if (f_X9_isRoot a1) = 0 then some ((-2 : Int32), M) else xb1 (f_X5_prepare 16 1 M) (fun M4 => xb2 (f_X1_loadField 1 M4 a1 a2 a3) (fun v7 M8 => (if v7 = (-2 : Int32) then some (v7, M8) else xb1 (f_X5_keep 16 M8) (fun M12 => some (v7, M12))))))
set_option maxHeartbeats 4000000 in
set_option maxRecDepth 20000 in
theorem c_X9_load (l : Launch) (E : xE) (b : Nat) (M : xm) (a1 : Int32) (a2 : Int32) (a3 : Int32) {r : Int32} {M' : xm} (hf : f_X9_load M a1 a2 a3 = some (r, M')) :
    xMet l E b NX yX9_load cX9_load 5 (some .int) (xR 6) [.ref (b + 0), .int a1, .int a2, .int a3] (cX E b M) (some (.int r)) True (cX E b M') := by
  refine xMet.ofW (own := RX9) (by decide) rfl (Nat.le_of_ble_eq_true rfl) ?_
  intro p e s m below meth c H locs ls C hm hl
  have hx := C.1.1
  have hb := C.1.2.1
  have hl : lv_has ls 5 [(0, .ref (b + 0)), (1, .int a1), (2, .int a2), (3, .int a3)] := hl
  unfold f_X9_load at hf
  refine lv_iload_n hx hb dX9_load_0 rfl (lv_at hl 1 rfl) ?_
  refine x_callSi (As := [.int a1]) (rest := []) C hm (c_X9_isRoot l E b M a1 rfl) tc_X9_isRoot tm_RX9_105 tz_X9_isRoot tn_RX9 td_X9_isRoot rfl rfl ⟨Nat.le_of_ble_eq_true rfl, Nat.le_of_ble_eq_true rfl⟩ rfl hl.1 rfl (Nat.le_of_ble_eq_true rfl) ⟨Nat.zero_le _, Nat.zero_le _⟩ dX9_load_1 (fun H locs hP1 hm => ?_)
  refine lv_if_ne (tgt := 10) hx hb dX9_load_4 (by decide) (fun hc2 => ?_) (fun hc2 => ?_)
  rotate_left
  · have hf := xif_t hc2 hf
    refine lv_bipush (v := (-2 : Int32)) hx hb dX9_load_7 (by decide) ?_
    cases hf
    exact x_iret C hm trivial dX9_load_9
  have hf := xif_f hc2 hf
  refine lv_aload_n hx hb dX9_load_10 rfl (lv_at hl 0 rfl) ?_
  refine x_get C hm inX9 rfl 1 (by decide) tf_RX9_19 (cx_ColouredHeap LX_top) rfl dX9_load_11 ?_
  refine lv_aload_n hx hb dX9_load_14 rfl (lv_at hl 0 rfl) ?_
  refine x_get C hm inX9 rfl 0 (by decide) tf_RX9_10 (cx_ColouredHeap LX_top) rfl dX9_load_15 ?_
  obtain ⟨M4, hq3, hf⟩ := xb1_e hf
  refine x_callVv (As := [.ref (b + 1)]) (rest := []) C hm (c_X5_prepare l E b LX_steps LX_heap M hq3) rfl (cx_Steps (LX_steps 0 _ rfl)) tc_X5_prepare tm_RX9_113 ti_X5_prepare ts_X5_prepare tn_RX5 td_X5_prepare rfl rfl ⟨Nat.le_of_ble_eq_true rfl, Nat.le_of_ble_eq_true rfl⟩ rfl hl.1 rfl (Nat.le_of_ble_eq_true rfl) ⟨Nat.zero_le _, Nat.zero_le _⟩ dX9_load_18 (fun H locs hP5 hm => ?_)
  refine lv_aload_n hx hb dX9_load_21 rfl (lv_at hl 0 rfl) ?_
  refine x_get C hm inX9 rfl 0 (by decide) tf_RX9_10 (cx_ColouredHeap LX_top) rfl dX9_load_22 ?_
  refine lv_iload_n hx hb dX9_load_25 rfl (lv_at hl 1 rfl) ?_
  refine lv_iload_n hx hb dX9_load_26 rfl (lv_at hl 2 rfl) ?_
  refine lv_iload_n hx hb dX9_load_27 rfl (lv_at hl 3 rfl) ?_
  obtain ⟨v7, M8, hq6, hf⟩ := xb2_e hf
  refine x_callVi (As := [.int a1, .int a2, .int a3]) (rest := []) C hm (c_X1_loadField l E b LX_heap M4 a1 a2 a3 hq6) rfl (cx_Heap (LX_heap 0 _ rfl)) tc_X1_loadField tm_RX9_131 ti_X1_loadField ts_X1_loadField tn_RX1 td_X1_loadField rfl rfl ⟨Nat.le_of_ble_eq_true rfl, Nat.le_of_ble_eq_true rfl⟩ rfl hl.1 rfl (Nat.le_of_ble_eq_true rfl) ⟨Nat.zero_le _, Nat.zero_le _⟩ dX9_load_28 (fun H locs hP9 hm => ?_)
  refine lv_istore (lv' := [(4, .int v7), (0, .ref (b + 0)), (1, .int a1), (2, .int a2), (3, .int a3)]) hx hb dX9_load_31 hl (by decide) rfl (fun ls hl => ?_)
  refine lv_iload hx hb dX9_load_33 (lv_at hl 0 rfl) ?_
  refine lv_bipush (v := (-2 : Int32)) hx hb dX9_load_35 (by decide) ?_
  refine lv_icmp_eq (tgt := 47) hx hb dX9_load_37 (by decide) (fun hc10 => ?_) (fun hc10 => ?_)
  · have hf := xif_t hc10 hf
    refine lv_iload hx hb dX9_load_47 (lv_at hl 0 rfl) ?_
    cases hf
    exact x_iret C hm trivial dX9_load_49
  have hf := xif_f hc10 hf
  refine lv_aload_n hx hb dX9_load_40 rfl (lv_at hl 1 rfl) ?_
  refine x_get C hm inX9 rfl 1 (by decide) tf_RX9_19 (cx_ColouredHeap LX_top) rfl dX9_load_41 ?_
  obtain ⟨M12, hq11, hf⟩ := xb1_e hf
  refine x_callVv (As := []) (rest := []) C hm (c_X5_keep l E b LX_steps M8 hq11) rfl (cx_Steps (LX_steps 0 _ rfl)) tc_X5_keep tm_RX9_121 ti_X5_keep ts_X5_keep tn_RX5 td_X5_keep rfl rfl ⟨Nat.le_of_ble_eq_true rfl, Nat.le_of_ble_eq_true rfl⟩ rfl hl.1 rfl (Nat.le_of_ble_eq_true rfl) ⟨Nat.zero_le _, Nat.zero_le _⟩ dX9_load_44 (fun H locs hP13 hm => ?_)
  refine lv_iload hx hb dX9_load_47 (lv_at hl 0 rfl) ?_
  cases hf
  exact x_iret C hm trivial dX9_load_49
/-! ColouredHeap.make(II)I -/
theorem dX9_make_0 : decode cX9_make 0 = .ok (.iload_n 1, 1) := by decide +kernel
theorem dX9_make_1 : decode cX9_make 1 = .ok (.invokestatic 105, 3) := by decide +kernel
theorem dX9_make_4 : decode cX9_make 4 = .ok (.ifCond .eq 12, 3) := by decide +kernel
theorem dX9_make_7 : decode cX9_make 7 = .ok (.iload_n 2, 1) := by decide +kernel
theorem dX9_make_8 : decode cX9_make 8 = .ok (.ifCond .lt 8, 3) := by decide +kernel
theorem dX9_make_11 : decode cX9_make 11 = .ok (.iload_n 2, 1) := by decide +kernel
theorem dX9_make_12 : decode cX9_make 12 = .ok (.iconst 3, 1) := by decide +kernel
theorem dX9_make_13 : decode cX9_make 13 = .ok (.if_icmp .le 5, 3) := by decide +kernel
theorem dX9_make_16 : decode cX9_make 16 = .ok (.iconst (-1), 1) := by decide +kernel
theorem dX9_make_17 : decode cX9_make 17 = .ok (.ireturn, 1) := by decide +kernel
theorem dX9_make_18 : decode cX9_make 18 = .ok (.aload_n 0, 1) := by decide +kernel
theorem dX9_make_19 : decode cX9_make 19 = .ok (.aload_n 0, 1) := by decide +kernel
theorem dX9_make_20 : decode cX9_make 20 = .ok (.getfield 26, 3) := by decide +kernel
theorem dX9_make_23 : decode cX9_make 23 = .ok (.getfield 102, 3) := by decide +kernel
theorem dX9_make_26 : decode cX9_make 26 = .ok (.invokevirtual 80, 3) := by decide +kernel
theorem dX9_make_29 : decode cX9_make 29 = .ok (.astore_n 3, 1) := by decide +kernel
theorem dX9_make_30 : decode cX9_make 30 = .ok (.aload_n 0, 1) := by decide +kernel
theorem dX9_make_31 : decode cX9_make 31 = .ok (.getfield 59, 3) := by decide +kernel
theorem dX9_make_34 : decode cX9_make 34 = .ok (.aload_n 3, 1) := by decide +kernel
theorem dX9_make_35 : decode cX9_make 35 = .ok (.aload_n 0, 1) := by decide +kernel
theorem dX9_make_36 : decode cX9_make 36 = .ok (.getfield 10, 3) := by decide +kernel
theorem dX9_make_39 : decode cX9_make 39 = .ok (.iload_n 2, 1) := by decide +kernel
theorem dX9_make_40 : decode cX9_make 40 = .ok (.invokevirtual 109, 3) := by decide +kernel
theorem dX9_make_43 : decode cX9_make 43 = .ok (.istore 4, 2) := by decide +kernel
theorem dX9_make_45 : decode cX9_make 45 = .ok (.aload_n 0, 1) := by decide +kernel
theorem dX9_make_46 : decode cX9_make 46 = .ok (.getfield 19, 3) := by decide +kernel
theorem dX9_make_49 : decode cX9_make 49 = .ok (.aload_n 0, 1) := by decide +kernel
theorem dX9_make_50 : decode cX9_make 50 = .ok (.getfield 10, 3) := by decide +kernel
theorem dX9_make_53 : decode cX9_make 53 = .ok (.invokevirtual 113, 3) := by decide +kernel
theorem dX9_make_56 : decode cX9_make 56 = .ok (.aload_n 0, 1) := by decide +kernel
theorem dX9_make_57 : decode cX9_make 57 = .ok (.getfield 10, 3) := by decide +kernel
theorem dX9_make_60 : decode cX9_make 60 = .ok (.iload_n 1, 1) := by decide +kernel
theorem dX9_make_61 : decode cX9_make 61 = .ok (.iload_n 2, 1) := by decide +kernel
theorem dX9_make_62 : decode cX9_make 62 = .ok (.invokevirtual 117, 3) := by decide +kernel
theorem dX9_make_65 : decode cX9_make 65 = .ok (.istore 5, 2) := by decide +kernel
theorem dX9_make_67 : decode cX9_make 67 = .ok (.iload 5, 2) := by decide +kernel
theorem dX9_make_69 : decode cX9_make 69 = .ok (.iconst (-1), 1) := by decide +kernel
theorem dX9_make_70 : decode cX9_make 70 = .ok (.if_icmp .ne 5, 3) := by decide +kernel
theorem dX9_make_73 : decode cX9_make 73 = .ok (.iconst (-1), 1) := by decide +kernel
theorem dX9_make_74 : decode cX9_make 74 = .ok (.ireturn, 1) := by decide +kernel
theorem dX9_make_75 : decode cX9_make 75 = .ok (.aload_n 0, 1) := by decide +kernel
theorem dX9_make_76 : decode cX9_make 76 = .ok (.getfield 19, 3) := by decide +kernel
theorem dX9_make_79 : decode cX9_make 79 = .ok (.invokevirtual 121, 3) := by decide +kernel
theorem dX9_make_82 : decode cX9_make 82 = .ok (.iconst 0, 1) := by decide +kernel
theorem dX9_make_83 : decode cX9_make 83 = .ok (.istore 6, 2) := by decide +kernel
theorem dX9_make_85 : decode cX9_make 85 = .ok (.iload 6, 2) := by decide +kernel
theorem dX9_make_87 : decode cX9_make 87 = .ok (.iload 4, 2) := by decide +kernel
theorem dX9_make_89 : decode cX9_make 89 = .ok (.if_icmp .ge 34, 3) := by decide +kernel
theorem dX9_make_92 : decode cX9_make 92 = .ok (.aload_n 0, 1) := by decide +kernel
theorem dX9_make_93 : decode cX9_make 93 = .ok (.getfield 10, 3) := by decide +kernel
theorem dX9_make_96 : decode cX9_make 96 = .ok (.getfield 124, 3) := by decide +kernel
theorem dX9_make_99 : decode cX9_make 99 = .ok (.sipush 9999, 3) := by decide +kernel
theorem dX9_make_102 : decode cX9_make 102 = .ok (.if_icmp .ge 21, 3) := by decide +kernel
theorem dX9_make_105 : decode cX9_make 105 = .ok (.aload_n 0, 1) := by decide +kernel
theorem dX9_make_106 : decode cX9_make 106 = .ok (.getfield 10, 3) := by decide +kernel
theorem dX9_make_109 : decode cX9_make 109 = .ok (.aload_n 0, 1) := by decide +kernel
theorem dX9_make_110 : decode cX9_make 110 = .ok (.getfield 59, 3) := by decide +kernel
theorem dX9_make_113 : decode cX9_make 113 = .ok (.aload_n 3, 1) := by decide +kernel
theorem dX9_make_114 : decode cX9_make 114 = .ok (.invokevirtual 127, 3) := by decide +kernel
theorem dX9_make_117 : decode cX9_make 117 = .ok (.iinc 6 1, 3) := by decide +kernel
theorem dX9_make_120 : decode cX9_make 120 = .ok (.goto (-35), 3) := by decide +kernel
theorem dX9_make_123 : decode cX9_make 123 = .ok (.iload 5, 2) := by decide +kernel
theorem dX9_make_125 : decode cX9_make 125 = .ok (.ireturn, 1) := by decide +kernel
def g_X9_make_85 (o23 : Option Nat) (x24 : Int32) (x25 : Int32) : Nat → xm → Int32 → Option ((xm))
  | 0, _, _ => none
  | n + 1, M27, x26 => (if x24 ≤ x26 then some (M27) else (if (9999 : Int32) ≤ (M27 1 17) then some (M27) else xb1 (f_X1_tick 1 o23 M27) (fun M32 => xlet (x26 + (1 : Int32)) (fun v34 => g_X9_make_85 o23 x24 x25 n M32 v34))))
def f_X9_make (M : xm) (a1 : Int32) (a2 : Int32) : Option (Int32 × xm) := (if (f_X9_isRoot a1) = 0 then some ((-1 : Int32), M) else (if a2 < 0 then some ((-1 : Int32), M) else (if a2 ≤ (3 : Int32) then xb1 (f_X9_textAt (M 483 4)) (fun o6 => xb2 (f_X3_paceOf o6 1 M a2) (fun v9 M10 => xb1 (f_X5_prepare 16 1 M10) (fun M13 => xb2 (f_X1_makeObject 1 M13 a1 a2) (fun v16 M17 => (if v16 = (-1 : Int32) then some ((-1 : Int32), M17) else xb1 (f_X5_keep 16 M17) (fun M21 => xb1 (g_X9_make_85 o6 v9 v16 xfuel M21 (0 : Int32)) (fun M35 => some (v16, M35)))))))) else some ((-1 : Int32), M))))
set_option maxHeartbeats 4000000 in
set_option maxRecDepth 20000 in
theorem j_X9_make_85 {p : Program} {l : Launch} {e : Env} {s : State} {m : MethodId} {args : Array Value} {below : List Frame} {meth : Method} {c : Code} {Q : State → Prop} {E : xE} {b : Nat} (C : xC p s m args meth c cX9_make 7 RX9 (some .int) E b) {o23 : Option Nat} (hQ_o23 : ∀ k, o23 = some k → lat k pText) (x24 : Int32) (x25 : Int32) {y28 : xm}
    (kx0 : ∀ (H : Heap) (locs : List Loc) (ls : Array Slot), xM E b NX (cX E b y28) s.heap H locs → lv_has ls 7 [(5, .int x25)] → W p l e (xR 8) s m args below meth c H locs 0 0 Q (F0 m 123 ls [])) :
    ∀ (n : Nat) (M27 : xm) (x26 : Int32) (H : Heap) (locs : List Loc) (ls : Array Slot), g_X9_make_85 o23 x24 x25 n M27 x26 = some y28 → xM E b NX (cX E b M27) s.heap H locs → lv_has ls 7 [(0, .ref (b + 0)), (3, xrf b o23), (4, .int x24), (5, .int x25), (6, .int x26)] → W p l e (xR 8) s m args below meth c H locs 0 0 Q (F0 m 85 ls []) := by
  have hx := C.1.1
  have hb := C.1.2.1
  intro n
  induction n with
  | zero =>
    intro M27 x26 H locs ls hf hm hl
    rw [g_X9_make_85] at hf
    cases hf
  | succ n ih =>
    intro M27 x26 H locs ls hf hm hl
    rw [g_X9_make_85] at hf
    refine lv_iload hx hb dX9_make_85 (lv_at hl 4 rfl) ?_
    refine lv_iload hx hb dX9_make_87 (lv_at hl 2 rfl) ?_
    refine lv_icmp_ge (tgt := 123) hx hb dX9_make_89 (by decide) (fun hc29 => ?_) (fun hc29 => ?_)
    · have hf := xif_t hc29 hf
      cases hf
      exact kx0 H locs ls hm (lv_sub hl [3] rfl)
    have hf := xif_f hc29 hf
    refine lv_aload_n hx hb dX9_make_92 rfl (lv_at hl 0 rfl) ?_
    refine x_get C hm inX9 rfl 0 (by decide) tf_RX9_10 (cx_ColouredHeap LX_top) rfl dX9_make_93 ?_
    refine x_get C hm inX1 rfl 17 (by decide) tf_RX9_124 (cx_Heap (LX_heap 0 _ rfl)) rfl dX9_make_96 ?_
    refine lv_sipush (v := (9999 : Int32)) hx hb dX9_make_99 (by decide) ?_
    refine lv_icmp_ge (tgt := 123) hx hb dX9_make_102 (by decide) (fun hc30 => ?_) (fun hc30 => ?_)
    · have hf := xif_t hc30 hf
      cases hf
      exact kx0 H locs ls hm (lv_sub hl [3] rfl)
    have hf := xif_f hc30 hf
    refine lv_aload_n hx hb dX9_make_105 rfl (lv_at hl 0 rfl) ?_
    refine x_get C hm inX9 rfl 0 (by decide) tf_RX9_10 (cx_ColouredHeap LX_top) rfl dX9_make_106 ?_
    refine lv_aload_n hx hb dX9_make_109 rfl (lv_at hl 0 rfl) ?_
    refine x_get C hm inX9 rfl 9 (by decide) tf_RX9_59 (cx_ColouredHeap LX_top) rfl dX9_make_110 ?_
    refine x_aloadQ_n (b := b) (o := o23) hx hb dX9_make_113 rfl (lv_at hl 1 rfl) ?_
    obtain ⟨M32, hq31, hf⟩ := xb1_e hf
    refine x_callVv (As := [.ref (b + 1004), xrf b o23]) (rest := []) C hm (c_X1_tick l E b LX_heap hQ_o23 M27 hq31) rfl (cx_Heap (LX_heap 0 _ rfl)) tc_X1_tick tm_RX9_127 ti_X1_tick ts_X1_tick tn_RX1 td_X1_tick rfl rfl ⟨Nat.le_of_ble_eq_true rfl, Nat.le_of_ble_eq_true rfl⟩ rfl hl.1 rfl (Nat.le_of_ble_eq_true rfl) ⟨Nat.zero_le _, Nat.zero_le _⟩ dX9_make_114 (fun H locs hP33 hm => ?_)
    obtain ⟨v34, ev34, hf⟩ := xlet_x hf
    refine lv_iinc (v := v34) (lv' := [(6, .int v34), (0, .ref (b + 0)), (3, xrf b o23), (4, .int x24), (5, .int x25)]) hx hb dX9_make_117 hl (k := 4) rfl (by rw [ev34]; rfl) (by decide) (by cases o23 <;> rfl) (fun ls hl => ?_)
    refine lv_goto (tgt := 85) hx hb dX9_make_120 (by decide) ?_
    exact ih M32 v34 H locs ls hf hm (lv_sub hl [1, 2, 3, 4, 0] rfl)
set_option maxHeartbeats 4000000 in
set_option maxRecDepth 20000 in
theorem c_X9_make (l : Launch) (E : xE) (b : Nat) (M : xm) (a1 : Int32) (a2 : Int32) {r : Int32} {M' : xm} (hf : f_X9_make M a1 a2 = some (r, M')) :
    xMet l E b NX yX9_make cX9_make 7 (some .int) (xR 8) [.ref (b + 0), .int a1, .int a2] (cX E b M) (some (.int r)) True (cX E b M') := by
  refine xMet.ofW (own := RX9) (by decide) rfl (Nat.le_of_ble_eq_true rfl) ?_
  intro p e s m below meth c H locs ls C hm hl
  have hx := C.1.1
  have hb := C.1.2.1
  have hl : lv_has ls 7 [(0, .ref (b + 0)), (1, .int a1), (2, .int a2)] := hl
  unfold f_X9_make at hf
  refine lv_iload_n hx hb dX9_make_0 rfl (lv_at hl 1 rfl) ?_
  refine x_callSi (As := [.int a1]) (rest := []) C hm (c_X9_isRoot l E b M a1 rfl) tc_X9_isRoot tm_RX9_105 tz_X9_isRoot tn_RX9 td_X9_isRoot rfl rfl ⟨Nat.le_of_ble_eq_true rfl, Nat.le_of_ble_eq_true rfl⟩ rfl hl.1 rfl (Nat.le_of_ble_eq_true rfl) ⟨Nat.zero_le _, Nat.zero_le _⟩ dX9_make_1 (fun H locs hP1 hm => ?_)
  refine lv_if_eq (tgt := 16) hx hb dX9_make_4 (by decide) (fun hc2 => ?_) (fun hc2 => ?_)
  · have hf := xif_t hc2 hf
    refine lv_iconst (v := (-1 : Int32)) hx hb dX9_make_16 (by decide) ?_
    cases hf
    exact x_iret C hm trivial dX9_make_17
  have hf := xif_f hc2 hf
  refine lv_iload_n hx hb dX9_make_7 rfl (lv_at hl 2 rfl) ?_
  refine lv_if_lt (tgt := 16) hx hb dX9_make_8 (by decide) (fun hc3 => ?_) (fun hc3 => ?_)
  · have hf := xif_t hc3 hf
    refine lv_iconst (v := (-1 : Int32)) hx hb dX9_make_16 (by decide) ?_
    cases hf
    exact x_iret C hm trivial dX9_make_17
  have hf := xif_f hc3 hf
  refine lv_iload_n hx hb dX9_make_11 rfl (lv_at hl 2 rfl) ?_
  refine lv_iconst (v := (3 : Int32)) hx hb dX9_make_12 (by decide) ?_
  refine lv_icmp_le (tgt := 18) hx hb dX9_make_13 (by decide) (fun hc4 => ?_) (fun hc4 => ?_)
  rotate_left
  · have hf := xif_f hc4 hf
    refine lv_iconst (v := (-1 : Int32)) hx hb dX9_make_16 (by decide) ?_
    cases hf
    exact x_iret C hm trivial dX9_make_17
  have hf := xif_t hc4 hf
  refine lv_aload_n hx hb dX9_make_18 rfl (lv_at hl 0 rfl) ?_
  refine lv_aload_n hx hb dX9_make_19 rfl (lv_at hl 0 rfl) ?_
  refine x_get C hm inX9 rfl 2 (by decide) tf_RX9_26 (cx_ColouredHeap LX_top) rfl dX9_make_20 ?_
  refine x_get C hm inX8 rfl 4 (by decide) tf_RX9_102 (cx_Told (LX_told 0 _ rfl)) rfl dX9_make_23 ?_
  obtain ⟨o6, hq5, hf⟩ := xb1_e hf
  refine x_callVr (As := [.int (M 483 4)]) (rest := []) C hm (c_X9_textAt l E b M (M 483 4) hq5) rfl (cx_ColouredHeap LX_top) tc_X9_textAt tm_RX9_80 ti_X9_textAt ts_X9_textAt tn_RX9 td_X9_textAt rfl rfl ⟨Nat.le_of_ble_eq_true rfl, Nat.le_of_ble_eq_true rfl⟩ rfl hl.1 rfl (Nat.le_of_ble_eq_true rfl) ⟨Nat.zero_le _, Nat.zero_le _⟩ dX9_make_26 (fun H locs hP7 hm => ?_)
  refine x_astoreQ_n (b := b) (o := o6) (lv' := [(3, xrf b o6), (0, .ref (b + 0)), (1, .int a1), (2, .int a2)]) hx hb dX9_make_29 rfl hl (by decide) (by cases o6 <;> rfl) (fun ls hl => ?_)
  refine lv_aload_n hx hb dX9_make_30 rfl (lv_at hl 1 rfl) ?_
  refine x_get C hm inX9 rfl 9 (by decide) tf_RX9_59 (cx_ColouredHeap LX_top) rfl dX9_make_31 ?_
  refine x_aloadQ_n (b := b) (o := o6) hx hb dX9_make_34 rfl (lv_at hl 0 rfl) ?_
  refine lv_aload_n hx hb dX9_make_35 rfl (lv_at hl 1 rfl) ?_
  refine x_get C hm inX9 rfl 0 (by decide) tf_RX9_10 (cx_ColouredHeap LX_top) rfl dX9_make_36 ?_
  refine lv_iload_n hx hb dX9_make_39 rfl (lv_at hl 3 rfl) ?_
  obtain ⟨v9, M10, hq8, hf⟩ := xb2_e hf
  refine x_callVi (As := [xrf b o6, .ref (b + 1), .int a2]) (rest := []) C hm (c_X3_paceOf l E b (X9_textAt_lat  hq5) LX_heap M a2 hq8) rfl (cx_Law (LX_law 0 _ rfl)) tc_X3_paceOf tm_RX9_109 ti_X3_paceOf ts_X3_paceOf tn_RX3 td_X3_paceOf rfl rfl ⟨Nat.le_of_ble_eq_true rfl, Nat.le_of_ble_eq_true rfl⟩ rfl hl.1 rfl (Nat.le_of_ble_eq_true rfl) ⟨Nat.zero_le _, Nat.zero_le _⟩ dX9_make_40 (fun H locs hP11 hm => ?_)
  refine lv_istore (lv' := [(4, .int v9), (3, xrf b o6), (0, .ref (b + 0)), (1, .int a1), (2, .int a2)]) hx hb dX9_make_43 hl (by decide) (by cases o6 <;> rfl) (fun ls hl => ?_)
  refine lv_aload_n hx hb dX9_make_45 rfl (lv_at hl 2 rfl) ?_
  refine x_get C hm inX9 rfl 1 (by decide) tf_RX9_19 (cx_ColouredHeap LX_top) rfl dX9_make_46 ?_
  refine lv_aload_n hx hb dX9_make_49 rfl (lv_at hl 2 rfl) ?_
  refine x_get C hm inX9 rfl 0 (by decide) tf_RX9_10 (cx_ColouredHeap LX_top) rfl dX9_make_50 ?_
  obtain ⟨M13, hq12, hf⟩ := xb1_e hf
  refine x_callVv (As := [.ref (b + 1)]) (rest := []) C hm (c_X5_prepare l E b LX_steps LX_heap M10 hq12) rfl (cx_Steps (LX_steps 0 _ rfl)) tc_X5_prepare tm_RX9_113 ti_X5_prepare ts_X5_prepare tn_RX5 td_X5_prepare rfl rfl ⟨Nat.le_of_ble_eq_true rfl, Nat.le_of_ble_eq_true rfl⟩ rfl hl.1 rfl (Nat.le_of_ble_eq_true rfl) ⟨Nat.zero_le _, Nat.zero_le _⟩ dX9_make_53 (fun H locs hP14 hm => ?_)
  refine lv_aload_n hx hb dX9_make_56 rfl (lv_at hl 2 rfl) ?_
  refine x_get C hm inX9 rfl 0 (by decide) tf_RX9_10 (cx_ColouredHeap LX_top) rfl dX9_make_57 ?_
  refine lv_iload_n hx hb dX9_make_60 rfl (lv_at hl 3 rfl) ?_
  refine lv_iload_n hx hb dX9_make_61 rfl (lv_at hl 4 rfl) ?_
  obtain ⟨v16, M17, hq15, hf⟩ := xb2_e hf
  refine x_callVi (As := [.int a1, .int a2]) (rest := []) C hm (c_X1_makeObject l E b LX_heap M13 a1 a2 hq15) rfl (cx_Heap (LX_heap 0 _ rfl)) tc_X1_makeObject tm_RX9_117 ti_X1_makeObject ts_X1_makeObject tn_RX1 td_X1_makeObject rfl rfl ⟨Nat.le_of_ble_eq_true rfl, Nat.le_of_ble_eq_true rfl⟩ rfl hl.1 rfl (Nat.le_of_ble_eq_true rfl) ⟨Nat.zero_le _, Nat.zero_le _⟩ dX9_make_62 (fun H locs hP18 hm => ?_)
  refine lv_istore (lv' := [(5, .int v16), (4, .int v9), (3, xrf b o6), (0, .ref (b + 0)), (1, .int a1), (2, .int a2)]) hx hb dX9_make_65 hl (by decide) (by cases o6 <;> rfl) (fun ls hl => ?_)
  refine lv_iload hx hb dX9_make_67 (lv_at hl 0 rfl) ?_
  refine lv_iconst (v := (-1 : Int32)) hx hb dX9_make_69 (by decide) ?_
  refine lv_icmp_ne (tgt := 75) hx hb dX9_make_70 (by decide) (fun hc19 => ?_) (fun hc19 => ?_)
  rotate_left
  · have hf := xif_t hc19 hf
    refine lv_iconst (v := (-1 : Int32)) hx hb dX9_make_73 (by decide) ?_
    cases hf
    exact x_iret C hm trivial dX9_make_74
  have hf := xif_f hc19 hf
  refine lv_aload_n hx hb dX9_make_75 rfl (lv_at hl 3 rfl) ?_
  refine x_get C hm inX9 rfl 1 (by decide) tf_RX9_19 (cx_ColouredHeap LX_top) rfl dX9_make_76 ?_
  obtain ⟨M21, hq20, hf⟩ := xb1_e hf
  refine x_callVv (As := []) (rest := []) C hm (c_X5_keep l E b LX_steps M17 hq20) rfl (cx_Steps (LX_steps 0 _ rfl)) tc_X5_keep tm_RX9_121 ti_X5_keep ts_X5_keep tn_RX5 td_X5_keep rfl rfl ⟨Nat.le_of_ble_eq_true rfl, Nat.le_of_ble_eq_true rfl⟩ rfl hl.1 rfl (Nat.le_of_ble_eq_true rfl) ⟨Nat.zero_le _, Nat.zero_le _⟩ dX9_make_79 (fun H locs hP22 hm => ?_)
  refine lv_iconst (v := (0 : Int32)) hx hb dX9_make_82 (by decide) ?_
  refine lv_istore (lv' := [(6, .int (0 : Int32)), (5, .int v16), (4, .int v9), (3, xrf b o6), (0, .ref (b + 0)), (1, .int a1), (2, .int a2)]) hx hb dX9_make_83 hl (by decide) (by cases o6 <;> rfl) (fun ls hl => ?_)
  obtain ⟨M35, hq, hf⟩ := xb1_e hf
  refine j_X9_make_85 C (X9_textAt_lat  hq5) v9 v16 (fun H locs ls hm hl => ?_) xfuel M21 (0 : Int32) H locs ls hq hm (lv_sub hl [4, 3, 2, 1, 0] rfl)
  refine lv_iload hx hb dX9_make_123 (lv_at hl 0 rfl) ?_
  cases hf
  exact x_iret C hm trivial dX9_make_125
/-! ColouredHeap.marked(I)Z -/
theorem dX9_marked_0 : decode cX9_marked 0 = .ok (.iload_n 1, 1) := by decide +kernel
theorem dX9_marked_1 : decode cX9_marked 1 = .ok (.invokestatic 214, 3) := by decide +kernel
theorem dX9_marked_4 : decode cX9_marked 4 = .ok (.ifCond .eq 20, 3) := by decide +kernel
theorem dX9_marked_7 : decode cX9_marked 7 = .ok (.aload_n 0, 1) := by decide +kernel
theorem dX9_marked_8 : decode cX9_marked 8 = .ok (.getfield 10, 3) := by decide +kernel
theorem dX9_marked_11 : decode cX9_marked 11 = .ok (.getfield 248, 3) := by decide +kernel
theorem dX9_marked_14 : decode cX9_marked 14 = .ok (.iload_n 1, 1) := by decide +kernel
theorem dX9_marked_15 : decode cX9_marked 15 = .ok (.iaload, 1) := by decide +kernel
theorem dX9_marked_16 : decode cX9_marked 16 = .ok (.iconst 1, 1) := by decide +kernel
theorem dX9_marked_17 : decode cX9_marked 17 = .ok (.if_icmp .ne 7, 3) := by decide +kernel
theorem dX9_marked_20 : decode cX9_marked 20 = .ok (.iconst 1, 1) := by decide +kernel
theorem dX9_marked_21 : decode cX9_marked 21 = .ok (.goto 4, 3) := by decide +kernel
theorem dX9_marked_24 : decode cX9_marked 24 = .ok (.iconst 0, 1) := by decide +kernel
theorem dX9_marked_25 : decode cX9_marked 25 = .ok (.ireturn, 1) := by decide +kernel
def f_X9_marked (M : xm) (a1 : Int32) : Option (Int32) := (if (f_X9_isAddress a1) = 0 then some (0 : Int32) else if xin a1 64 = true then (if (M (1 + 3) (Int32.toNatClampNeg a1)) = (1 : Int32) then some (1 : Int32) else some (0 : Int32)) else none)
set_option maxHeartbeats 4000000 in
set_option maxRecDepth 20000 in
theorem c_X9_marked (l : Launch) (E : xE) (b : Nat) (M : xm) (a1 : Int32) {r : Int32} (hf : f_X9_marked M a1 = some r) :
    xMet l E b NX yX9_marked cX9_marked 2 (some .boolean) (xR 2) [.ref (b + 0), .int a1] (cX E b M) (some (.int r)) (xbo r = true) (cX E b M) := by
  refine xMet.ofW (own := RX9) (by decide) rfl (Nat.le_of_ble_eq_true rfl) ?_
  intro p e s m below meth c H locs ls C hm hl
  have hx := C.1.1
  have hb := C.1.2.1
  have hl : lv_has ls 2 [(0, .ref (b + 0)), (1, .int a1)] := hl
  unfold f_X9_marked at hf
  refine lv_iload_n hx hb dX9_marked_0 rfl (lv_at hl 1 rfl) ?_
  refine x_callSi (As := [.int a1]) (rest := []) C hm (c_X9_isAddress l E b M a1 rfl) tc_X9_isAddress tm_RX9_214 tz_X9_isAddress tn_RX9 td_X9_isAddress rfl rfl ⟨Nat.le_of_ble_eq_true rfl, Nat.le_of_ble_eq_true rfl⟩ rfl hl.1 rfl (Nat.le_of_ble_eq_true rfl) ⟨Nat.zero_le _, Nat.zero_le _⟩ dX9_marked_1 (fun H locs hP1 hm => ?_)
  refine lv_if_eq (tgt := 24) hx hb dX9_marked_4 (by decide) (fun hc2 => ?_) (fun hc2 => ?_)
  · have hf := xif_t hc2 hf
    refine lv_iconst (v := (0 : Int32)) hx hb dX9_marked_24 (by decide) ?_
    cases hf
    exact x_zret C hm (by decide) (by decide) dX9_marked_25
  have hf := xif_f hc2 hf
  refine lv_aload_n hx hb dX9_marked_7 rfl (lv_at hl 0 rfl) ?_
  refine x_get C hm inX9 rfl 0 (by decide) tf_RX9_10 (cx_ColouredHeap LX_top) rfl dX9_marked_8 ?_
  refine x_get C hm inX1 rfl 2 (by decide) tf_RX9_248 (cx_Heap (LX_heap 0 _ rfl)) rfl dX9_marked_11 ?_
  refine lv_iload_n hx hb dX9_marked_14 rfl (lv_at hl 1 rfl) ?_
  obtain ⟨hi3, hf⟩ := xif_s hf
  refine x_iald (j := (Int32.toNatClampNeg a1)) C hm (cx_I (LX_heap 3 _ rfl)) hi3 dX9_marked_15 rfl ?_
  refine lv_iconst (v := (1 : Int32)) hx hb dX9_marked_16 (by decide) ?_
  refine lv_icmp_ne (tgt := 24) hx hb dX9_marked_17 (by decide) (fun hc4 => ?_) (fun hc4 => ?_)
  · have hf := xif_f hc4 hf
    refine lv_iconst (v := (0 : Int32)) hx hb dX9_marked_24 (by decide) ?_
    cases hf
    exact x_zret C hm (by decide) (by decide) dX9_marked_25
  have hf := xif_t hc4 hf
  refine lv_iconst (v := (1 : Int32)) hx hb dX9_marked_20 (by decide) ?_
  refine lv_goto (tgt := 25) hx hb dX9_marked_21 (by decide) ?_
  cases hf
  exact x_zret C hm (by decide) (by decide) dX9_marked_25
/-! ColouredHeap.paces(I)I -/
theorem dX9_paces_0 : decode cX9_paces 0 = .ok (.iload_n 1, 1) := by decide +kernel
theorem dX9_paces_1 : decode cX9_paces 1 = .ok (.ifCond .lt 8, 3) := by decide +kernel
theorem dX9_paces_4 : decode cX9_paces 4 = .ok (.iload_n 1, 1) := by decide +kernel
theorem dX9_paces_5 : decode cX9_paces 5 = .ok (.iconst 3, 1) := by decide +kernel
theorem dX9_paces_6 : decode cX9_paces 6 = .ok (.if_icmp .le 5, 3) := by decide +kernel
theorem dX9_paces_9 : decode cX9_paces 9 = .ok (.iconst (-1), 1) := by decide +kernel
theorem dX9_paces_10 : decode cX9_paces 10 = .ok (.ireturn, 1) := by decide +kernel
theorem dX9_paces_11 : decode cX9_paces 11 = .ok (.aload_n 0, 1) := by decide +kernel
theorem dX9_paces_12 : decode cX9_paces 12 = .ok (.getfield 59, 3) := by decide +kernel
theorem dX9_paces_15 : decode cX9_paces 15 = .ok (.aload_n 0, 1) := by decide +kernel
theorem dX9_paces_16 : decode cX9_paces 16 = .ok (.aload_n 0, 1) := by decide +kernel
theorem dX9_paces_17 : decode cX9_paces 17 = .ok (.getfield 26, 3) := by decide +kernel
theorem dX9_paces_20 : decode cX9_paces 20 = .ok (.getfield 102, 3) := by decide +kernel
theorem dX9_paces_23 : decode cX9_paces 23 = .ok (.invokevirtual 80, 3) := by decide +kernel
theorem dX9_paces_26 : decode cX9_paces 26 = .ok (.aload_n 0, 1) := by decide +kernel
theorem dX9_paces_27 : decode cX9_paces 27 = .ok (.getfield 10, 3) := by decide +kernel
theorem dX9_paces_30 : decode cX9_paces 30 = .ok (.iload_n 1, 1) := by decide +kernel
theorem dX9_paces_31 : decode cX9_paces 31 = .ok (.invokevirtual 109, 3) := by decide +kernel
theorem dX9_paces_34 : decode cX9_paces 34 = .ok (.ireturn, 1) := by decide +kernel
def f_X9_paces (M : xm) (a1 : Int32) : Option (Int32 × xm) := (if a1 < 0 then some ((-1 : Int32), M) else (if a1 ≤ (3 : Int32) then xb1 (f_X9_textAt (M 483 4)) (fun o4 => xb2 (f_X3_paceOf o4 1 M a1) (fun v7 M8 => some (v7, M8))) else some ((-1 : Int32), M)))
set_option maxHeartbeats 4000000 in
set_option maxRecDepth 20000 in
theorem c_X9_paces (l : Launch) (E : xE) (b : Nat) (M : xm) (a1 : Int32) {r : Int32} {M' : xm} (hf : f_X9_paces M a1 = some (r, M')) :
    xMet l E b NX yX9_paces cX9_paces 2 (some .int) (xR 5) [.ref (b + 0), .int a1] (cX E b M) (some (.int r)) True (cX E b M') := by
  refine xMet.ofW (own := RX9) (by decide) rfl (Nat.le_of_ble_eq_true rfl) ?_
  intro p e s m below meth c H locs ls C hm hl
  have hx := C.1.1
  have hb := C.1.2.1
  have hl : lv_has ls 2 [(0, .ref (b + 0)), (1, .int a1)] := hl
  unfold f_X9_paces at hf
  refine lv_iload_n hx hb dX9_paces_0 rfl (lv_at hl 1 rfl) ?_
  refine lv_if_lt (tgt := 9) hx hb dX9_paces_1 (by decide) (fun hc1 => ?_) (fun hc1 => ?_)
  · have hf := xif_t hc1 hf
    refine lv_iconst (v := (-1 : Int32)) hx hb dX9_paces_9 (by decide) ?_
    cases hf
    exact x_iret C hm trivial dX9_paces_10
  have hf := xif_f hc1 hf
  refine lv_iload_n hx hb dX9_paces_4 rfl (lv_at hl 1 rfl) ?_
  refine lv_iconst (v := (3 : Int32)) hx hb dX9_paces_5 (by decide) ?_
  refine lv_icmp_le (tgt := 11) hx hb dX9_paces_6 (by decide) (fun hc2 => ?_) (fun hc2 => ?_)
  rotate_left
  · have hf := xif_f hc2 hf
    refine lv_iconst (v := (-1 : Int32)) hx hb dX9_paces_9 (by decide) ?_
    cases hf
    exact x_iret C hm trivial dX9_paces_10
  have hf := xif_t hc2 hf
  refine lv_aload_n hx hb dX9_paces_11 rfl (lv_at hl 0 rfl) ?_
  refine x_get C hm inX9 rfl 9 (by decide) tf_RX9_59 (cx_ColouredHeap LX_top) rfl dX9_paces_12 ?_
  refine lv_aload_n hx hb dX9_paces_15 rfl (lv_at hl 0 rfl) ?_
  refine lv_aload_n hx hb dX9_paces_16 rfl (lv_at hl 0 rfl) ?_
  refine x_get C hm inX9 rfl 2 (by decide) tf_RX9_26 (cx_ColouredHeap LX_top) rfl dX9_paces_17 ?_
  refine x_get C hm inX8 rfl 4 (by decide) tf_RX9_102 (cx_Told (LX_told 0 _ rfl)) rfl dX9_paces_20 ?_
  obtain ⟨o4, hq3, hf⟩ := xb1_e hf
  refine x_callVr (As := [.int (M 483 4)]) (rest := [.ref (b + 1004)]) C hm (c_X9_textAt l E b M (M 483 4) hq3) rfl (cx_ColouredHeap LX_top) tc_X9_textAt tm_RX9_80 ti_X9_textAt ts_X9_textAt tn_RX9 td_X9_textAt rfl rfl ⟨Nat.le_of_ble_eq_true rfl, Nat.le_of_ble_eq_true rfl⟩ rfl hl.1 rfl (Nat.le_of_ble_eq_true rfl) ⟨Nat.zero_le _, Nat.zero_le _⟩ dX9_paces_23 (fun H locs hP5 hm => ?_)
  refine lv_aload_n hx hb dX9_paces_26 rfl (lv_at hl 0 rfl) ?_
  refine x_get C hm inX9 rfl 0 (by decide) tf_RX9_10 (cx_ColouredHeap LX_top) rfl dX9_paces_27 ?_
  refine lv_iload_n hx hb dX9_paces_30 rfl (lv_at hl 1 rfl) ?_
  obtain ⟨v7, M8, hq6, hf⟩ := xb2_e hf
  refine x_callVi (As := [xrf b o4, .ref (b + 1), .int a1]) (rest := []) C hm (c_X3_paceOf l E b (X9_textAt_lat  hq3) LX_heap M a1 hq6) rfl (cx_Law (LX_law 0 _ rfl)) tc_X3_paceOf tm_RX9_109 ti_X3_paceOf ts_X3_paceOf tn_RX3 td_X3_paceOf rfl rfl ⟨Nat.le_of_ble_eq_true rfl, Nat.le_of_ble_eq_true rfl⟩ rfl hl.1 rfl (Nat.le_of_ble_eq_true rfl) ⟨Nat.zero_le _, Nat.zero_le _⟩ dX9_paces_31 (fun H locs hP9 hm => ?_)
  cases hf
  exact x_iret C hm trivial dX9_paces_34
/-! ColouredHeap.pack()I -/
theorem dX9_pack_0 : decode cX9_pack 0 = .ok (.aload_n 0, 1) := by decide +kernel
theorem dX9_pack_1 : decode cX9_pack 1 = .ok (.getfield 45, 3) := by decide +kernel
theorem dX9_pack_4 : decode cX9_pack 4 = .ok (.aload_n 0, 1) := by decide +kernel
theorem dX9_pack_5 : decode cX9_pack 5 = .ok (.getfield 10, 3) := by decide +kernel
theorem dX9_pack_8 : decode cX9_pack 8 = .ok (.iconst (-1), 1) := by decide +kernel
theorem dX9_pack_9 : decode cX9_pack 9 = .ok (.invokevirtual 273, 3) := by decide +kernel
theorem dX9_pack_12 : decode cX9_pack 12 = .ok (.aload_n 0, 1) := by decide +kernel
theorem dX9_pack_13 : decode cX9_pack 13 = .ok (.getfield 45, 3) := by decide +kernel
theorem dX9_pack_16 : decode cX9_pack 16 = .ok (.aload_n 0, 1) := by decide +kernel
theorem dX9_pack_17 : decode cX9_pack 17 = .ok (.getfield 10, 3) := by decide +kernel
theorem dX9_pack_20 : decode cX9_pack 20 = .ok (.invokevirtual 294, 3) := by decide +kernel
theorem dX9_pack_23 : decode cX9_pack 23 = .ok (.ireturn, 1) := by decide +kernel
def f_X9_pack (M : xm) : Option (Int32 × xm) := xb1 (f_X6_take 1 M (-1 : Int32)) (fun M2 => xb1 (f_X6_fewestPages 1 M2) (fun v5 => some (v5, M2)))
set_option maxHeartbeats 4000000 in
set_option maxRecDepth 20000 in
theorem c_X9_pack (l : Launch) (E : xE) (b : Nat) (M : xm) {r : Int32} {M' : xm} (hf : f_X9_pack M = some (r, M')) :
    xMet l E b NX yX9_pack cX9_pack 1 (some .int) (xR 5) [.ref (b + 0)] (cX E b M) (some (.int r)) True (cX E b M') := by
  refine xMet.ofW (own := RX9) (by decide) rfl (Nat.le_of_ble_eq_true rfl) ?_
  intro p e s m below meth c H locs ls C hm hl
  have hx := C.1.1
  have hb := C.1.2.1
  have hl : lv_has ls 1 [(0, .ref (b + 0))] := hl
  unfold f_X9_pack at hf
  refine lv_aload_n hx hb dX9_pack_0 rfl (lv_at hl 0 rfl) ?_
  refine x_get C hm inX9 rfl 7 (by decide) tf_RX9_45 (cx_ColouredHeap LX_top) rfl dX9_pack_1 ?_
  refine lv_aload_n hx hb dX9_pack_4 rfl (lv_at hl 0 rfl) ?_
  refine x_get C hm inX9 rfl 0 (by decide) tf_RX9_10 (cx_ColouredHeap LX_top) rfl dX9_pack_5 ?_
  refine lv_iconst (v := (-1 : Int32)) hx hb dX9_pack_8 (by decide) ?_
  obtain ⟨M2, hq1, hf⟩ := xb1_e hf
  refine x_callVv (As := [.ref (b + 1), .int (-1 : Int32)]) (rest := []) C hm (c_X6_take l E b LX_heap M (-1 : Int32) hq1) rfl (cx_Survey (LX_survey 0 _ rfl)) tc_X6_take tm_RX9_273 ti_X6_take ts_X6_take tn_RX6 td_X6_take rfl rfl ⟨Nat.le_of_ble_eq_true rfl, Nat.le_of_ble_eq_true rfl⟩ rfl hl.1 rfl (Nat.le_of_ble_eq_true rfl) ⟨Nat.zero_le _, Nat.zero_le _⟩ dX9_pack_9 (fun H locs hP3 hm => ?_)
  refine lv_aload_n hx hb dX9_pack_12 rfl (lv_at hl 0 rfl) ?_
  refine x_get C hm inX9 rfl 7 (by decide) tf_RX9_45 (cx_ColouredHeap LX_top) rfl dX9_pack_13 ?_
  refine lv_aload_n hx hb dX9_pack_16 rfl (lv_at hl 0 rfl) ?_
  refine x_get C hm inX9 rfl 0 (by decide) tf_RX9_10 (cx_ColouredHeap LX_top) rfl dX9_pack_17 ?_
  obtain ⟨v5, hq4, hf⟩ := xb1_e hf
  refine x_callVi (As := [.ref (b + 1)]) (rest := []) C hm (c_X6_fewestPages l E b LX_heap M2 hq4) rfl (cx_Survey (LX_survey 0 _ rfl)) tc_X6_fewestPages tm_RX9_294 ti_X6_fewestPages ts_X6_fewestPages tn_RX6 td_X6_fewestPages rfl rfl ⟨Nat.le_of_ble_eq_true rfl, Nat.le_of_ble_eq_true rfl⟩ rfl hl.1 rfl (Nat.le_of_ble_eq_true rfl) ⟨Nat.zero_le _, Nat.zero_le _⟩ dX9_pack_20 (fun H locs hP6 hm => ?_)
  cases hf
  exact x_iret C hm trivial dX9_pack_23
/-! ColouredHeap.page(II)I -/
theorem dX9_page_0 : decode cX9_page 0 = .ok (.iload_n 1, 1) := by decide +kernel
theorem dX9_page_1 : decode cX9_page 1 = .ok (.invokestatic 223, 3) := by decide +kernel
theorem dX9_page_4 : decode cX9_page 4 = .ok (.ifCond .ne 5, 3) := by decide +kernel
theorem dX9_page_7 : decode cX9_page 7 = .ok (.iconst (-1), 1) := by decide +kernel
theorem dX9_page_8 : decode cX9_page 8 = .ok (.ireturn, 1) := by decide +kernel
theorem dX9_page_9 : decode cX9_page 9 = .ok (.iload_n 2, 1) := by decide +kernel
theorem dX9_page_10 : decode cX9_page 10 = .ok (.tableswitch 92 0 3 #[30, 40, 50, 60], 30) := by decide +kernel
theorem dX9_page_40 : decode cX9_page 40 = .ok (.aload_n 0, 1) := by decide +kernel
theorem dX9_page_41 : decode cX9_page 41 = .ok (.getfield 10, 3) := by decide +kernel
theorem dX9_page_44 : decode cX9_page 44 = .ok (.getfield 226, 3) := by decide +kernel
theorem dX9_page_47 : decode cX9_page 47 = .ok (.iload_n 1, 1) := by decide +kernel
theorem dX9_page_48 : decode cX9_page 48 = .ok (.iaload, 1) := by decide +kernel
theorem dX9_page_49 : decode cX9_page 49 = .ok (.ireturn, 1) := by decide +kernel
theorem dX9_page_50 : decode cX9_page 50 = .ok (.aload_n 0, 1) := by decide +kernel
theorem dX9_page_51 : decode cX9_page 51 = .ok (.getfield 10, 3) := by decide +kernel
theorem dX9_page_54 : decode cX9_page 54 = .ok (.getfield 229, 3) := by decide +kernel
theorem dX9_page_57 : decode cX9_page 57 = .ok (.iload_n 1, 1) := by decide +kernel
theorem dX9_page_58 : decode cX9_page 58 = .ok (.iaload, 1) := by decide +kernel
theorem dX9_page_59 : decode cX9_page 59 = .ok (.ireturn, 1) := by decide +kernel
theorem dX9_page_60 : decode cX9_page 60 = .ok (.aload_n 0, 1) := by decide +kernel
theorem dX9_page_61 : decode cX9_page 61 = .ok (.getfield 10, 3) := by decide +kernel
theorem dX9_page_64 : decode cX9_page 64 = .ok (.getfield 232, 3) := by decide +kernel
theorem dX9_page_67 : decode cX9_page 67 = .ok (.iload_n 1, 1) := by decide +kernel
theorem dX9_page_68 : decode cX9_page 68 = .ok (.iaload, 1) := by decide +kernel
theorem dX9_page_69 : decode cX9_page 69 = .ok (.ireturn, 1) := by decide +kernel
theorem dX9_page_70 : decode cX9_page 70 = .ok (.aload_n 0, 1) := by decide +kernel
theorem dX9_page_71 : decode cX9_page 71 = .ok (.getfield 59, 3) := by decide +kernel
theorem dX9_page_74 : decode cX9_page 74 = .ok (.aload_n 0, 1) := by decide +kernel
theorem dX9_page_75 : decode cX9_page 75 = .ok (.aload_n 0, 1) := by decide +kernel
theorem dX9_page_76 : decode cX9_page 76 = .ok (.getfield 26, 3) := by decide +kernel
theorem dX9_page_79 : decode cX9_page 79 = .ok (.getfield 102, 3) := by decide +kernel
theorem dX9_page_82 : decode cX9_page 82 = .ok (.invokevirtual 80, 3) := by decide +kernel
theorem dX9_page_85 : decode cX9_page 85 = .ok (.aload_n 0, 1) := by decide +kernel
theorem dX9_page_86 : decode cX9_page 86 = .ok (.getfield 10, 3) := by decide +kernel
theorem dX9_page_89 : decode cX9_page 89 = .ok (.iload_n 1, 1) := by decide +kernel
theorem dX9_page_90 : decode cX9_page 90 = .ok (.invokevirtual 235, 3) := by decide +kernel
theorem dX9_page_93 : decode cX9_page 93 = .ok (.ifCond .eq 7, 3) := by decide +kernel
theorem dX9_page_96 : decode cX9_page 96 = .ok (.iconst 1, 1) := by decide +kernel
theorem dX9_page_97 : decode cX9_page 97 = .ok (.goto 4, 3) := by decide +kernel
theorem dX9_page_100 : decode cX9_page 100 = .ok (.iconst 0, 1) := by decide +kernel
theorem dX9_page_101 : decode cX9_page 101 = .ok (.ireturn, 1) := by decide +kernel
theorem dX9_page_102 : decode cX9_page 102 = .ok (.iconst (-1), 1) := by decide +kernel
theorem dX9_page_103 : decode cX9_page 103 = .ok (.ireturn, 1) := by decide +kernel
def f_X9_page (M : xm) (a1 : Int32) (a2 : Int32) : Option (Int32 × xm) := (if (f_X9_isPage a1) = 0 then some ((-1 : Int32), M) else (if a2 = (0 : Int32) then if xin a1 8 = true then some ((M (1 + 7) (Int32.toNatClampNeg a1)), M) else none else (if a2 = (1 : Int32) then if xin a1 8 = true then some ((M (1 + 6) (Int32.toNatClampNeg a1)), M) else none else (if a2 = (2 : Int32) then if xin a1 8 = true then some ((M (1 + 5) (Int32.toNatClampNeg a1)), M) else none else (if a2 = (3 : Int32) then xb1 (f_X9_textAt (M 483 4)) (fun o11 => xb2 (f_X3_picked o11 1 M a1) (fun v14 M15 => (if v14 = 0 then some ((0 : Int32), M15) else some ((1 : Int32), M15)))) else some ((-1 : Int32), M))))))
set_option maxHeartbeats 4000000 in
set_option maxRecDepth 20000 in
theorem c_X9_page (l : Launch) (E : xE) (b : Nat) (M : xm) (a1 : Int32) (a2 : Int32) {r : Int32} {M' : xm} (hf : f_X9_page M a1 a2 = some (r, M')) :
    xMet l E b NX yX9_page cX9_page 3 (some .int) (xR 5) [.ref (b + 0), .int a1, .int a2] (cX E b M) (some (.int r)) True (cX E b M') := by
  refine xMet.ofW (own := RX9) (by decide) rfl (Nat.le_of_ble_eq_true rfl) ?_
  intro p e s m below meth c H locs ls C hm hl
  have hx := C.1.1
  have hb := C.1.2.1
  have hl : lv_has ls 3 [(0, .ref (b + 0)), (1, .int a1), (2, .int a2)] := hl
  unfold f_X9_page at hf
  refine lv_iload_n hx hb dX9_page_0 rfl (lv_at hl 1 rfl) ?_
  refine x_callSi (As := [.int a1]) (rest := []) C hm (c_X9_isPage l E b M a1 rfl) tc_X9_isPage tm_RX9_223 tz_X9_isPage tn_RX9 td_X9_isPage rfl rfl ⟨Nat.le_of_ble_eq_true rfl, Nat.le_of_ble_eq_true rfl⟩ rfl hl.1 rfl (Nat.le_of_ble_eq_true rfl) ⟨Nat.zero_le _, Nat.zero_le _⟩ dX9_page_1 (fun H locs hP1 hm => ?_)
  refine lv_if_ne (tgt := 9) hx hb dX9_page_4 (by decide) (fun hc2 => ?_) (fun hc2 => ?_)
  rotate_left
  · have hf := xif_t hc2 hf
    refine lv_iconst (v := (-1 : Int32)) hx hb dX9_page_7 (by decide) ?_
    cases hf
    exact x_iret C hm trivial dX9_page_8
  have hf := xif_f hc2 hf
  refine lv_iload_n hx hb dX9_page_9 rfl (lv_at hl 2 rfl) ?_
  by_cases hs3 : a2 = (0 : Int32)
  · have hf := xif_t hs3 hf
    refine x_tabIn (tgt := 40) hx hb (0 : Int32) hs3 dX9_page_10 (by decide) (by decide) rfl (by decide) ?_
    refine lv_aload_n hx hb dX9_page_40 rfl (lv_at hl 0 rfl) ?_
    refine x_get C hm inX9 rfl 0 (by decide) tf_RX9_10 (cx_ColouredHeap LX_top) rfl dX9_page_41 ?_
    refine x_get C hm inX1 rfl 6 (by decide) tf_RX9_226 (cx_Heap (LX_heap 0 _ rfl)) rfl dX9_page_44 ?_
    refine lv_iload_n hx hb dX9_page_47 rfl (lv_at hl 1 rfl) ?_
    obtain ⟨hi4, hf⟩ := xif_s hf
    refine x_iald (j := (Int32.toNatClampNeg a1)) C hm (cx_I (LX_heap 7 _ rfl)) hi4 dX9_page_48 rfl ?_
    cases hf
    exact x_iret C hm trivial dX9_page_49
  have hf := xif_f hs3 hf
  by_cases hs5 : a2 = (1 : Int32)
  · have hf := xif_t hs5 hf
    refine x_tabIn (tgt := 50) hx hb (1 : Int32) hs5 dX9_page_10 (by decide) (by decide) rfl (by decide) ?_
    refine lv_aload_n hx hb dX9_page_50 rfl (lv_at hl 0 rfl) ?_
    refine x_get C hm inX9 rfl 0 (by decide) tf_RX9_10 (cx_ColouredHeap LX_top) rfl dX9_page_51 ?_
    refine x_get C hm inX1 rfl 5 (by decide) tf_RX9_229 (cx_Heap (LX_heap 0 _ rfl)) rfl dX9_page_54 ?_
    refine lv_iload_n hx hb dX9_page_57 rfl (lv_at hl 1 rfl) ?_
    obtain ⟨hi6, hf⟩ := xif_s hf
    refine x_iald (j := (Int32.toNatClampNeg a1)) C hm (cx_I (LX_heap 6 _ rfl)) hi6 dX9_page_58 rfl ?_
    cases hf
    exact x_iret C hm trivial dX9_page_59
  have hf := xif_f hs5 hf
  by_cases hs7 : a2 = (2 : Int32)
  · have hf := xif_t hs7 hf
    refine x_tabIn (tgt := 60) hx hb (2 : Int32) hs7 dX9_page_10 (by decide) (by decide) rfl (by decide) ?_
    refine lv_aload_n hx hb dX9_page_60 rfl (lv_at hl 0 rfl) ?_
    refine x_get C hm inX9 rfl 0 (by decide) tf_RX9_10 (cx_ColouredHeap LX_top) rfl dX9_page_61 ?_
    refine x_get C hm inX1 rfl 4 (by decide) tf_RX9_232 (cx_Heap (LX_heap 0 _ rfl)) rfl dX9_page_64 ?_
    refine lv_iload_n hx hb dX9_page_67 rfl (lv_at hl 1 rfl) ?_
    obtain ⟨hi8, hf⟩ := xif_s hf
    refine x_iald (j := (Int32.toNatClampNeg a1)) C hm (cx_I (LX_heap 5 _ rfl)) hi8 dX9_page_68 rfl ?_
    cases hf
    exact x_iret C hm trivial dX9_page_69
  have hf := xif_f hs7 hf
  by_cases hs9 : a2 = (3 : Int32)
  · have hf := xif_t hs9 hf
    refine x_tabIn (tgt := 70) hx hb (3 : Int32) hs9 dX9_page_10 (by decide) (by decide) rfl (by decide) ?_
    refine lv_aload_n hx hb dX9_page_70 rfl (lv_at hl 0 rfl) ?_
    refine x_get C hm inX9 rfl 9 (by decide) tf_RX9_59 (cx_ColouredHeap LX_top) rfl dX9_page_71 ?_
    refine lv_aload_n hx hb dX9_page_74 rfl (lv_at hl 0 rfl) ?_
    refine lv_aload_n hx hb dX9_page_75 rfl (lv_at hl 0 rfl) ?_
    refine x_get C hm inX9 rfl 2 (by decide) tf_RX9_26 (cx_ColouredHeap LX_top) rfl dX9_page_76 ?_
    refine x_get C hm inX8 rfl 4 (by decide) tf_RX9_102 (cx_Told (LX_told 0 _ rfl)) rfl dX9_page_79 ?_
    obtain ⟨o11, hq10, hf⟩ := xb1_e hf
    refine x_callVr (As := [.int (M 483 4)]) (rest := [.ref (b + 1004)]) C hm (c_X9_textAt l E b M (M 483 4) hq10) rfl (cx_ColouredHeap LX_top) tc_X9_textAt tm_RX9_80 ti_X9_textAt ts_X9_textAt tn_RX9 td_X9_textAt rfl rfl ⟨Nat.le_of_ble_eq_true rfl, Nat.le_of_ble_eq_true rfl⟩ rfl hl.1 rfl (Nat.le_of_ble_eq_true rfl) ⟨Nat.zero_le _, Nat.zero_le _⟩ dX9_page_82 (fun H locs hP12 hm => ?_)
    refine lv_aload_n hx hb dX9_page_85 rfl (lv_at hl 0 rfl) ?_
    refine x_get C hm inX9 rfl 0 (by decide) tf_RX9_10 (cx_ColouredHeap LX_top) rfl dX9_page_86 ?_
    refine lv_iload_n hx hb dX9_page_89 rfl (lv_at hl 1 rfl) ?_
    obtain ⟨v14, M15, hq13, hf⟩ := xb2_e hf
    refine x_callVi (As := [xrf b o11, .ref (b + 1), .int a1]) (rest := []) C hm (c_X3_picked l E b (X9_textAt_lat  hq10) LX_heap M a1 hq13) rfl (cx_Law (LX_law 0 _ rfl)) tc_X3_picked tm_RX9_235 ti_X3_picked ts_X3_picked tn_RX3 td_X3_picked rfl rfl ⟨Nat.le_of_ble_eq_true rfl, Nat.le_of_ble_eq_true rfl⟩ rfl hl.1 rfl (Nat.le_of_ble_eq_true rfl) ⟨Nat.zero_le _, Nat.zero_le _⟩ dX9_page_90 (fun H locs hP16 hm => ?_)
    refine lv_if_eq (tgt := 100) hx hb dX9_page_93 (by decide) (fun hc17 => ?_) (fun hc17 => ?_)
    · have hf := xif_t hc17 hf
      refine lv_iconst (v := (0 : Int32)) hx hb dX9_page_100 (by decide) ?_
      cases hf
      exact x_iret C hm trivial dX9_page_101
    have hf := xif_f hc17 hf
    refine lv_iconst (v := (1 : Int32)) hx hb dX9_page_96 (by decide) ?_
    refine lv_goto (tgt := 101) hx hb dX9_page_97 (by decide) ?_
    cases hf
    exact x_iret C hm trivial dX9_page_101
  have hf := xif_f hs9 hf
  refine x_tabOut (tgt := 102) hx hb dX9_page_10 (by decide) (fun i hi => ?_) (by decide) ?_
  · match i, hi with
    | 0, _ => exact hs3
    | 1, _ => exact hs5
    | 2, _ => exact hs7
    | 3, _ => exact hs9
    | (i + 4), hi => exact absurd hi (by omega)
  refine lv_iconst (v := (-1 : Int32)) hx hb dX9_page_102 (by decide) ?_
  cases hf
  exact x_iret C hm trivial dX9_page_103
/-! ColouredHeap.store(III)Z -/
theorem dX9_store_0 : decode cX9_store 0 = .ok (.iload_n 3, 1) := by decide +kernel
theorem dX9_store_1 : decode cX9_store 1 = .ok (.invokestatic 105, 3) := by decide +kernel
theorem dX9_store_4 : decode cX9_store 4 = .ok (.ifCond .ne 5, 3) := by decide +kernel
theorem dX9_store_7 : decode cX9_store 7 = .ok (.iconst 0, 1) := by decide +kernel
theorem dX9_store_8 : decode cX9_store 8 = .ok (.ireturn, 1) := by decide +kernel
theorem dX9_store_9 : decode cX9_store 9 = .ok (.aload_n 0, 1) := by decide +kernel
theorem dX9_store_10 : decode cX9_store 10 = .ok (.getfield 19, 3) := by decide +kernel
theorem dX9_store_13 : decode cX9_store 13 = .ok (.aload_n 0, 1) := by decide +kernel
theorem dX9_store_14 : decode cX9_store 14 = .ok (.getfield 10, 3) := by decide +kernel
theorem dX9_store_17 : decode cX9_store 17 = .ok (.invokevirtual 113, 3) := by decide +kernel
theorem dX9_store_20 : decode cX9_store 20 = .ok (.aload_n 0, 1) := by decide +kernel
theorem dX9_store_21 : decode cX9_store 21 = .ok (.getfield 10, 3) := by decide +kernel
theorem dX9_store_24 : decode cX9_store 24 = .ok (.iload_n 1, 1) := by decide +kernel
theorem dX9_store_25 : decode cX9_store 25 = .ok (.iload_n 2, 1) := by decide +kernel
theorem dX9_store_26 : decode cX9_store 26 = .ok (.iload_n 3, 1) := by decide +kernel
theorem dX9_store_27 : decode cX9_store 27 = .ok (.invokevirtual 135, 3) := by decide +kernel
theorem dX9_store_30 : decode cX9_store 30 = .ok (.istore 4, 2) := by decide +kernel
theorem dX9_store_32 : decode cX9_store 32 = .ok (.iload 4, 2) := by decide +kernel
theorem dX9_store_34 : decode cX9_store 34 = .ok (.ifCond .eq 10, 3) := by decide +kernel
theorem dX9_store_37 : decode cX9_store 37 = .ok (.aload_n 0, 1) := by decide +kernel
theorem dX9_store_38 : decode cX9_store 38 = .ok (.getfield 19, 3) := by decide +kernel
theorem dX9_store_41 : decode cX9_store 41 = .ok (.invokevirtual 121, 3) := by decide +kernel
theorem dX9_store_44 : decode cX9_store 44 = .ok (.iload 4, 2) := by decide +kernel
theorem dX9_store_46 : decode cX9_store 46 = .ok (.ireturn, 1) := by decide +kernel
def f_X9_store (M : xm) (a1 : Int32) (a2 : Int32) (a3 : Int32) : Option (Int32 × xm) := (if (f_X9_isRoot a3) = 0 then some ((0 : Int32), M) else xb1 (f_X5_prepare 16 1 M) (fun M4 => xb2 (f_X1_storeField 1 M4 a1 a2 a3) (fun v7 M8 => (if v7 = 0 then some (v7, M8) else xb1 (f_X5_keep 16 M8) (fun M12 => some (v7, M12))))))
set_option maxHeartbeats 4000000 in
set_option maxRecDepth 20000 in
theorem c_X9_store (l : Launch) (E : xE) (b : Nat) (M : xm) (a1 : Int32) (a2 : Int32) (a3 : Int32) {r : Int32} {M' : xm} (hf : f_X9_store M a1 a2 a3 = some (r, M')) :
    xMet l E b NX yX9_store cX9_store 5 (some .boolean) (xR 5) [.ref (b + 0), .int a1, .int a2, .int a3] (cX E b M) (some (.int r)) (xbo r = true) (cX E b M') := by
  refine xMet.ofW (own := RX9) (by decide) rfl (Nat.le_of_ble_eq_true rfl) ?_
  intro p e s m below meth c H locs ls C hm hl
  have hx := C.1.1
  have hb := C.1.2.1
  have hl : lv_has ls 5 [(0, .ref (b + 0)), (1, .int a1), (2, .int a2), (3, .int a3)] := hl
  unfold f_X9_store at hf
  refine lv_iload_n hx hb dX9_store_0 rfl (lv_at hl 3 rfl) ?_
  refine x_callSi (As := [.int a3]) (rest := []) C hm (c_X9_isRoot l E b M a3 rfl) tc_X9_isRoot tm_RX9_105 tz_X9_isRoot tn_RX9 td_X9_isRoot rfl rfl ⟨Nat.le_of_ble_eq_true rfl, Nat.le_of_ble_eq_true rfl⟩ rfl hl.1 rfl (Nat.le_of_ble_eq_true rfl) ⟨Nat.zero_le _, Nat.zero_le _⟩ dX9_store_1 (fun H locs hP1 hm => ?_)
  refine lv_if_ne (tgt := 9) hx hb dX9_store_4 (by decide) (fun hc2 => ?_) (fun hc2 => ?_)
  rotate_left
  · have hf := xif_t hc2 hf
    refine lv_iconst (v := (0 : Int32)) hx hb dX9_store_7 (by decide) ?_
    cases hf
    exact x_zret C hm (by decide) (by decide) dX9_store_8
  have hf := xif_f hc2 hf
  refine lv_aload_n hx hb dX9_store_9 rfl (lv_at hl 0 rfl) ?_
  refine x_get C hm inX9 rfl 1 (by decide) tf_RX9_19 (cx_ColouredHeap LX_top) rfl dX9_store_10 ?_
  refine lv_aload_n hx hb dX9_store_13 rfl (lv_at hl 0 rfl) ?_
  refine x_get C hm inX9 rfl 0 (by decide) tf_RX9_10 (cx_ColouredHeap LX_top) rfl dX9_store_14 ?_
  obtain ⟨M4, hq3, hf⟩ := xb1_e hf
  refine x_callVv (As := [.ref (b + 1)]) (rest := []) C hm (c_X5_prepare l E b LX_steps LX_heap M hq3) rfl (cx_Steps (LX_steps 0 _ rfl)) tc_X5_prepare tm_RX9_113 ti_X5_prepare ts_X5_prepare tn_RX5 td_X5_prepare rfl rfl ⟨Nat.le_of_ble_eq_true rfl, Nat.le_of_ble_eq_true rfl⟩ rfl hl.1 rfl (Nat.le_of_ble_eq_true rfl) ⟨Nat.zero_le _, Nat.zero_le _⟩ dX9_store_17 (fun H locs hP5 hm => ?_)
  refine lv_aload_n hx hb dX9_store_20 rfl (lv_at hl 0 rfl) ?_
  refine x_get C hm inX9 rfl 0 (by decide) tf_RX9_10 (cx_ColouredHeap LX_top) rfl dX9_store_21 ?_
  refine lv_iload_n hx hb dX9_store_24 rfl (lv_at hl 1 rfl) ?_
  refine lv_iload_n hx hb dX9_store_25 rfl (lv_at hl 2 rfl) ?_
  refine lv_iload_n hx hb dX9_store_26 rfl (lv_at hl 3 rfl) ?_
  obtain ⟨v7, M8, hq6, hf⟩ := xb2_e hf
  refine x_callVi (As := [.int a1, .int a2, .int a3]) (rest := []) C hm (c_X1_storeField l E b LX_heap M4 a1 a2 a3 hq6) rfl (cx_Heap (LX_heap 0 _ rfl)) tc_X1_storeField tm_RX9_135 ti_X1_storeField ts_X1_storeField tn_RX1 td_X1_storeField rfl rfl ⟨Nat.le_of_ble_eq_true rfl, Nat.le_of_ble_eq_true rfl⟩ rfl hl.1 rfl (Nat.le_of_ble_eq_true rfl) ⟨Nat.zero_le _, Nat.zero_le _⟩ dX9_store_27 (fun H locs hP9 hm => ?_)
  refine lv_istore (lv' := [(4, .int v7), (0, .ref (b + 0)), (1, .int a1), (2, .int a2), (3, .int a3)]) hx hb dX9_store_30 hl (by decide) rfl (fun ls hl => ?_)
  refine lv_iload hx hb dX9_store_32 (lv_at hl 0 rfl) ?_
  refine lv_if_eq (tgt := 44) hx hb dX9_store_34 (by decide) (fun hc10 => ?_) (fun hc10 => ?_)
  · have hf := xif_t hc10 hf
    refine lv_iload hx hb dX9_store_44 (lv_at hl 0 rfl) ?_
    cases hf
    exact x_zret C hm hP9 hP9 dX9_store_46
  have hf := xif_f hc10 hf
  refine lv_aload_n hx hb dX9_store_37 rfl (lv_at hl 1 rfl) ?_
  refine x_get C hm inX9 rfl 1 (by decide) tf_RX9_19 (cx_ColouredHeap LX_top) rfl dX9_store_38 ?_
  obtain ⟨M12, hq11, hf⟩ := xb1_e hf
  refine x_callVv (As := []) (rest := []) C hm (c_X5_keep l E b LX_steps M8 hq11) rfl (cx_Steps (LX_steps 0 _ rfl)) tc_X5_keep tm_RX9_121 ti_X5_keep ts_X5_keep tn_RX5 td_X5_keep rfl rfl ⟨Nat.le_of_ble_eq_true rfl, Nat.le_of_ble_eq_true rfl⟩ rfl hl.1 rfl (Nat.le_of_ble_eq_true rfl) ⟨Nat.zero_le _, Nat.zero_le _⟩ dX9_store_41 (fun H locs hP13 hm => ?_)
  refine lv_iload hx hb dX9_store_44 (lv_at hl 0 rfl) ?_
  cases hf
  exact x_zret C hm hP9 hP9 dX9_store_46
/-! ColouredHeap.played(I)I -/
theorem dX9_played_0 : decode cX9_played 0 = .ok (.iload_n 1, 1) := by decide +kernel
theorem dX9_played_1 : decode cX9_played 1 = .ok (.aload_n 0, 1) := by decide +kernel
theorem dX9_played_2 : decode cX9_played 2 = .ok (.getfield 26, 3) := by decide +kernel
theorem dX9_played_5 : decode cX9_played 5 = .ok (.getfield 78, 3) := by decide +kernel
theorem dX9_played_8 : decode cX9_played 8 = .ok (.if_icmp .ge 11, 3) := by decide +kernel
theorem dX9_played_11 : decode cX9_played 11 = .ok (.aload_n 0, 1) := by decide +kernel
theorem dX9_played_12 : decode cX9_played 12 = .ok (.iload_n 1, 1) := by decide +kernel
theorem dX9_played_13 : decode cX9_played 13 = .ok (.invokevirtual 80, 3) := by decide +kernel
theorem dX9_played_16 : decode cX9_played 16 = .ok (.goto 4, 3) := by decide +kernel
theorem dX9_played_19 : decode cX9_played 19 = .ok (.aconst_null, 1) := by decide +kernel
theorem dX9_played_20 : decode cX9_played 20 = .ok (.astore_n 2, 1) := by decide +kernel
theorem dX9_played_21 : decode cX9_played 21 = .ok (.aload_n 2, 1) := by decide +kernel
theorem dX9_played_22 : decode cX9_played 22 = .ok (.ifnonnull 6, 3) := by decide +kernel
theorem dX9_played_25 : decode cX9_played 25 = .ok (.bipush (-2), 2) := by decide +kernel
theorem dX9_played_27 : decode cX9_played 27 = .ok (.ireturn, 1) := by decide +kernel
theorem dX9_played_28 : decode cX9_played 28 = .ok (.iconst 0, 1) := by decide +kernel
theorem dX9_played_29 : decode cX9_played 29 = .ok (.istore_n 3, 1) := by decide +kernel
theorem dX9_played_30 : decode cX9_played 30 = .ok (.iload_n 3, 1) := by decide +kernel
theorem dX9_played_31 : decode cX9_played 31 = .ok (.bipush 24, 2) := by decide +kernel
theorem dX9_played_33 : decode cX9_played 33 = .ok (.if_icmp .ge 186, 3) := by decide +kernel
theorem dX9_played_36 : decode cX9_played 36 = .ok (.iload_n 3, 1) := by decide +kernel
theorem dX9_played_37 : decode cX9_played 37 = .ok (.aload_n 2, 1) := by decide +kernel
theorem dX9_played_38 : decode cX9_played 38 = .ok (.getfield 175, 3) := by decide +kernel
theorem dX9_played_41 : decode cX9_played 41 = .ok (.if_icmp .ge 178, 3) := by decide +kernel
theorem dX9_played_44 : decode cX9_played 44 = .ok (.aload_n 2, 1) := by decide +kernel
theorem dX9_played_45 : decode cX9_played 45 = .ok (.getfield 178, 3) := by decide +kernel
theorem dX9_played_48 : decode cX9_played 48 = .ok (.iload_n 3, 1) := by decide +kernel
theorem dX9_played_49 : decode cX9_played 49 = .ok (.iaload, 1) := by decide +kernel
theorem dX9_played_50 : decode cX9_played 50 = .ok (.istore 4, 2) := by decide +kernel
theorem dX9_played_52 : decode cX9_played 52 = .ok (.aload_n 2, 1) := by decide +kernel
theorem dX9_played_53 : decode cX9_played 53 = .ok (.getfield 181, 3) := by decide +kernel
theorem dX9_played_56 : decode cX9_played 56 = .ok (.iload_n 3, 1) := by decide +kernel
theorem dX9_played_57 : decode cX9_played 57 = .ok (.iaload, 1) := by decide +kernel
theorem dX9_played_58 : decode cX9_played 58 = .ok (.istore 5, 2) := by decide +kernel
theorem dX9_played_60 : decode cX9_played 60 = .ok (.aload_n 2, 1) := by decide +kernel
theorem dX9_played_61 : decode cX9_played 61 = .ok (.getfield 184, 3) := by decide +kernel
theorem dX9_played_64 : decode cX9_played 64 = .ok (.iload_n 3, 1) := by decide +kernel
theorem dX9_played_65 : decode cX9_played 65 = .ok (.iaload, 1) := by decide +kernel
theorem dX9_played_66 : decode cX9_played 66 = .ok (.istore 6, 2) := by decide +kernel
theorem dX9_played_68 : decode cX9_played 68 = .ok (.iconst 1, 1) := by decide +kernel
theorem dX9_played_69 : decode cX9_played 69 = .ok (.istore 7, 2) := by decide +kernel
theorem dX9_played_71 : decode cX9_played 71 = .ok (.aload_n 2, 1) := by decide +kernel
theorem dX9_played_72 : decode cX9_played 72 = .ok (.getfield 187, 3) := by decide +kernel
theorem dX9_played_75 : decode cX9_played 75 = .ok (.iload_n 3, 1) := by decide +kernel
theorem dX9_played_76 : decode cX9_played 76 = .ok (.iaload, 1) := by decide +kernel
theorem dX9_played_77 : decode cX9_played 77 = .ok (.tableswitch 129 2 6 #[35, 57, 82, 97, 108], 35) := by decide +kernel
theorem dX9_played_112 : decode cX9_played 112 = .ok (.aload_n 0, 1) := by decide +kernel
theorem dX9_played_113 : decode cX9_played 113 = .ok (.iload 4, 2) := by decide +kernel
theorem dX9_played_115 : decode cX9_played 115 = .ok (.iload 5, 2) := by decide +kernel
theorem dX9_played_117 : decode cX9_played 117 = .ok (.invokevirtual 190, 3) := by decide +kernel
theorem dX9_played_120 : decode cX9_played 120 = .ok (.iconst (-1), 1) := by decide +kernel
theorem dX9_played_121 : decode cX9_played 121 = .ok (.if_icmp .eq 7, 3) := by decide +kernel
theorem dX9_played_124 : decode cX9_played 124 = .ok (.iconst 1, 1) := by decide +kernel
theorem dX9_played_125 : decode cX9_played 125 = .ok (.goto 4, 3) := by decide +kernel
theorem dX9_played_128 : decode cX9_played 128 = .ok (.iconst 0, 1) := by decide +kernel
theorem dX9_played_129 : decode cX9_played 129 = .ok (.istore 7, 2) := by decide +kernel
theorem dX9_played_131 : decode cX9_played 131 = .ok (.goto 75, 3) := by decide +kernel
theorem dX9_played_134 : decode cX9_played 134 = .ok (.aload_n 0, 1) := by decide +kernel
theorem dX9_played_135 : decode cX9_played 135 = .ok (.iload 4, 2) := by decide +kernel
theorem dX9_played_137 : decode cX9_played 137 = .ok (.iload 5, 2) := by decide +kernel
theorem dX9_played_139 : decode cX9_played 139 = .ok (.iload 6, 2) := by decide +kernel
theorem dX9_played_141 : decode cX9_played 141 = .ok (.invokevirtual 193, 3) := by decide +kernel
theorem dX9_played_144 : decode cX9_played 144 = .ok (.bipush (-2), 2) := by decide +kernel
theorem dX9_played_146 : decode cX9_played 146 = .ok (.if_icmp .eq 7, 3) := by decide +kernel
theorem dX9_played_149 : decode cX9_played 149 = .ok (.iconst 1, 1) := by decide +kernel
theorem dX9_played_150 : decode cX9_played 150 = .ok (.goto 4, 3) := by decide +kernel
theorem dX9_played_153 : decode cX9_played 153 = .ok (.iconst 0, 1) := by decide +kernel
theorem dX9_played_154 : decode cX9_played 154 = .ok (.istore 7, 2) := by decide +kernel
theorem dX9_played_156 : decode cX9_played 156 = .ok (.goto 50, 3) := by decide +kernel
theorem dX9_played_159 : decode cX9_played 159 = .ok (.aload_n 0, 1) := by decide +kernel
theorem dX9_played_160 : decode cX9_played 160 = .ok (.iload 5, 2) := by decide +kernel
theorem dX9_played_162 : decode cX9_played 162 = .ok (.iload 6, 2) := by decide +kernel
theorem dX9_played_164 : decode cX9_played 164 = .ok (.iload 4, 2) := by decide +kernel
theorem dX9_played_166 : decode cX9_played 166 = .ok (.invokevirtual 196, 3) := by decide +kernel
theorem dX9_played_169 : decode cX9_played 169 = .ok (.istore 7, 2) := by decide +kernel
theorem dX9_played_171 : decode cX9_played 171 = .ok (.goto 35, 3) := by decide +kernel
theorem dX9_played_174 : decode cX9_played 174 = .ok (.aload_n 0, 1) := by decide +kernel
theorem dX9_played_175 : decode cX9_played 175 = .ok (.iload 4, 2) := by decide +kernel
theorem dX9_played_177 : decode cX9_played 177 = .ok (.invokevirtual 199, 3) := by decide +kernel
theorem dX9_played_180 : decode cX9_played 180 = .ok (.istore 7, 2) := by decide +kernel
theorem dX9_played_182 : decode cX9_played 182 = .ok (.goto 24, 3) := by decide +kernel
theorem dX9_played_185 : decode cX9_played 185 = .ok (.aload_n 0, 1) := by decide +kernel
theorem dX9_played_186 : decode cX9_played 186 = .ok (.iload 4, 2) := by decide +kernel
theorem dX9_played_188 : decode cX9_played 188 = .ok (.invokevirtual 168, 3) := by decide +kernel
theorem dX9_played_191 : decode cX9_played 191 = .ok (.iload 4, 2) := by decide +kernel
theorem dX9_played_193 : decode cX9_played 193 = .ok (.if_icmp .ne 7, 3) := by decide +kernel
theorem dX9_played_196 : decode cX9_played 196 = .ok (.iconst 1, 1) := by decide +kernel
theorem dX9_played_197 : decode cX9_played 197 = .ok (.goto 4, 3) := by decide +kernel
theorem dX9_played_200 : decode cX9_played 200 = .ok (.iconst 0, 1) := by decide +kernel
theorem dX9_played_201 : decode cX9_played 201 = .ok (.istore 7, 2) := by decide +kernel
theorem dX9_played_203 : decode cX9_played 203 = .ok (.goto 3, 3) := by decide +kernel
theorem dX9_played_206 : decode cX9_played 206 = .ok (.iload 7, 2) := by decide +kernel
theorem dX9_played_208 : decode cX9_played 208 = .ok (.ifCond .ne 5, 3) := by decide +kernel
theorem dX9_played_211 : decode cX9_played 211 = .ok (.iload_n 3, 1) := by decide +kernel
theorem dX9_played_212 : decode cX9_played 212 = .ok (.ireturn, 1) := by decide +kernel
theorem dX9_played_213 : decode cX9_played 213 = .ok (.iinc 3 1, 3) := by decide +kernel
theorem dX9_played_216 : decode cX9_played 216 = .ok (.goto (-186), 3) := by decide +kernel
theorem dX9_played_219 : decode cX9_played 219 = .ok (.iconst (-1), 1) := by decide +kernel
theorem dX9_played_220 : decode cX9_played 220 = .ok (.ireturn, 1) := by decide +kernel
def g_X9_played_30 (o5 : Nat) : Nat → xm → Int32 → Option ((Int32 × xm) ⊕ (xm))
  | 0, _, _ => none
  | n + 1, M7, x6 => (if (24 : Int32) ≤ x6 then some (Sum.inr M7) else (if (M7 o5 8) ≤ x6 then some (Sum.inr M7) else if xin x6 24 = true then xlet (M7 (o5 + 2) (Int32.toNatClampNeg x6)) (fun v11 => xlet (M7 (o5 + 3) (Int32.toNatClampNeg x6)) (fun v12 => xlet (M7 (o5 + 4) (Int32.toNatClampNeg x6)) (fun v13 => (if (M7 (o5 + 1) (Int32.toNatClampNeg x6)) = (2 : Int32) then xb2 (f_X9_make M7 v11 v12) (fun v16 M17 => (if v16 = (-1 : Int32) then some (Sum.inl (x6, M17)) else xlet (x6 + (1 : Int32)) (fun v20 => g_X9_played_30 o5 n M17 v20))) else (if (M7 (o5 + 1) (Int32.toNatClampNeg x6)) = (3 : Int32) then xb2 (f_X9_load M7 v11 v12 v13) (fun v23 M24 => (if v23 = (-2 : Int32) then some (Sum.inl (x6, M24)) else xlet (x6 + (1 : Int32)) (fun v27 => g_X9_played_30 o5 n M24 v27))) else (if (M7 (o5 + 1) (Int32.toNatClampNeg x6)) = (4 : Int32) then xb2 (f_X9_store M7 v12 v13 v11) (fun v30 M31 => (if v30 = 0 then some (Sum.inl (x6, M31)) else xlet (x6 + (1 : Int32)) (fun v34 => g_X9_played_30 o5 n M31 v34))) else (if (M7 (o5 + 1) (Int32.toNatClampNeg x6)) = (5 : Int32) then xb2 (f_X9_drop M7 v11) (fun v37 M38 => (if v37 = 0 then some (Sum.inl (x6, M38)) else xlet (x6 + (1 : Int32)) (fun v41 => g_X9_played_30 o5 n M38 v41))) else (if (M7 (o5 + 1) (Int32.toNatClampNeg x6)) = (6 : Int32) then xb2 (f_X9_passTicks M7 v11) (fun v44 M45 => (if v44 = v11 then xlet (x6 + (1 : Int32)) (fun v48 => g_X9_played_30 o5 n M45 v48) else some (Sum.inl (x6, M45)))) else xlet (x6 + (1 : Int32)) (fun v49 => g_X9_played_30 o5 n M7 v49))))))))) else none))
def f_X9_played (M : xm) (a1 : Int32) : Option (Int32 × xm) := xlet (fun (o1 : Option Nat) => xopt o1 (some ((-2 : Int32), M)) (fun o3 => xs2 (g_X9_played_30 o3 xfuel M (0 : Int32)) (fun q50 => some (q50.1, (q50.2))) (fun q50 => some ((-1 : Int32), q50)))) (fun k2 => (if (M 483 3) ≤ a1 then (k2 none) else xb1 (f_X9_textAt a1) (fun o53 => (k2 o53))))
set_option maxHeartbeats 4000000 in
set_option maxRecDepth 20000 in
theorem j_X9_played_30 {p : Program} {l : Launch} {e : Env} {s : State} {m : MethodId} {args : Array Value} {below : List Frame} {meth : Method} {c : Code} {Q : State → Prop} {E : xE} {b : Nat} (C : xC p s m args meth c cX9_played 8 RX9 (some .int) E b) {o5 : Nat} (L_o5 : lat o5 pText) {r : (Int32 × xm) ⊕ (xm)}
    (kx0 : ∀ q : Int32 × xm, r = Sum.inl q → ∀ (H : Heap) (locs : List Loc) (ls : Array Slot), xM E b NX (cX E b q.2) s.heap H locs → lv_has ls 8 [(3, .int q.1)] → W p l e (xR 9) s m args below meth c H locs 0 0 Q (F0 m 211 ls []))
    (kx1 : ∀ q : xm, r = Sum.inr q → ∀ (H : Heap) (locs : List Loc) (ls : Array Slot), xM E b NX (cX E b q) s.heap H locs → lv_has ls 8 [] → W p l e (xR 9) s m args below meth c H locs 0 0 Q (F0 m 219 ls [])) :
    ∀ (n : Nat) (M7 : xm) (x6 : Int32) (H : Heap) (locs : List Loc) (ls : Array Slot), g_X9_played_30 o5 n M7 x6 = some r → xM E b NX (cX E b M7) s.heap H locs → lv_has ls 8 [(0, .ref (b + 0)), (2, .ref (b + o5)), (3, .int x6)] → W p l e (xR 9) s m args below meth c H locs 0 0 Q (F0 m 30 ls []) := by
  have hx := C.1.1
  have hb := C.1.2.1
  intro n
  induction n with
  | zero =>
    intro M7 x6 H locs ls hf hm hl
    rw [g_X9_played_30] at hf
    cases hf
  | succ n ih =>
    intro M7 x6 H locs ls hf hm hl
    rw [g_X9_played_30] at hf
    refine lv_iload_n hx hb dX9_played_30 rfl (lv_at hl 2 rfl) ?_
    refine lv_bipush (v := (24 : Int32)) hx hb dX9_played_31 (by decide) ?_
    refine lv_icmp_ge (tgt := 219) hx hb dX9_played_33 (by decide) (fun hc8 => ?_) (fun hc8 => ?_)
    · have hf := xif_t hc8 hf
      cases hf
      exact kx1 M7 rfl H locs ls hm (lv_sub hl [] rfl)
    have hf := xif_f hc8 hf
    refine lv_iload_n hx hb dX9_played_36 rfl (lv_at hl 2 rfl) ?_
    refine lv_aload_n hx hb dX9_played_37 rfl (lv_at hl 1 rfl) ?_
    refine x_get C hm inX7 rfl 8 (by decide) tf_RX9_175 (cx_Text (L_o5 0 _ rfl)) rfl dX9_played_38 ?_
    refine lv_icmp_ge (tgt := 219) hx hb dX9_played_41 (by decide) (fun hc9 => ?_) (fun hc9 => ?_)
    · have hf := xif_t hc9 hf
      cases hf
      exact kx1 M7 rfl H locs ls hm (lv_sub hl [] rfl)
    have hf := xif_f hc9 hf
    refine lv_aload_n hx hb dX9_played_44 rfl (lv_at hl 1 rfl) ?_
    refine x_get C hm inX7 rfl 1 (by decide) tf_RX9_178 (cx_Text (L_o5 0 _ rfl)) rfl dX9_played_45 ?_
    refine lv_iload_n hx hb dX9_played_48 rfl (lv_at hl 2 rfl) ?_
    obtain ⟨hi10, hf⟩ := xif_s hf
    refine x_iald (j := (Int32.toNatClampNeg x6)) C hm (cx_I (L_o5 2 _ rfl)) hi10 dX9_played_49 rfl ?_
    refine lv_topi (fun v11 ev11 => ?_)
    have hf := xlet_e ev11 hf
    refine lv_istore (lv' := [(4, .int v11), (0, .ref (b + 0)), (2, .ref (b + o5)), (3, .int x6)]) hx hb dX9_played_50 hl (by decide) rfl (fun ls hl => ?_)
    refine lv_aload_n hx hb dX9_played_52 rfl (lv_at hl 2 rfl) ?_
    refine x_get C hm inX7 rfl 2 (by decide) tf_RX9_181 (cx_Text (L_o5 0 _ rfl)) rfl dX9_played_53 ?_
    refine lv_iload_n hx hb dX9_played_56 rfl (lv_at hl 3 rfl) ?_
    refine x_iald (j := (Int32.toNatClampNeg x6)) C hm (cx_I (L_o5 3 _ rfl)) hi10 dX9_played_57 rfl ?_
    refine lv_topi (fun v12 ev12 => ?_)
    have hf := xlet_e ev12 hf
    refine lv_istore (lv' := [(5, .int v12), (4, .int v11), (0, .ref (b + 0)), (2, .ref (b + o5)), (3, .int x6)]) hx hb dX9_played_58 hl (by decide) rfl (fun ls hl => ?_)
    refine lv_aload_n hx hb dX9_played_60 rfl (lv_at hl 3 rfl) ?_
    refine x_get C hm inX7 rfl 3 (by decide) tf_RX9_184 (cx_Text (L_o5 0 _ rfl)) rfl dX9_played_61 ?_
    refine lv_iload_n hx hb dX9_played_64 rfl (lv_at hl 4 rfl) ?_
    refine x_iald (j := (Int32.toNatClampNeg x6)) C hm (cx_I (L_o5 4 _ rfl)) hi10 dX9_played_65 rfl ?_
    refine lv_topi (fun v13 ev13 => ?_)
    have hf := xlet_e ev13 hf
    refine lv_istore (lv' := [(6, .int v13), (5, .int v12), (4, .int v11), (0, .ref (b + 0)), (2, .ref (b + o5)), (3, .int x6)]) hx hb dX9_played_66 hl (by decide) rfl (fun ls hl => ?_)
    refine lv_iconst (v := (1 : Int32)) hx hb dX9_played_68 (by decide) ?_
    refine lv_istore (lv' := [(7, .int (1 : Int32)), (6, .int v13), (5, .int v12), (4, .int v11), (0, .ref (b + 0)), (2, .ref (b + o5)), (3, .int x6)]) hx hb dX9_played_69 hl (by decide) rfl (fun ls hl => ?_)
    refine lv_aload_n hx hb dX9_played_71 rfl (lv_at hl 5 rfl) ?_
    refine x_get C hm inX7 rfl 0 (by decide) tf_RX9_187 (cx_Text (L_o5 0 _ rfl)) rfl dX9_played_72 ?_
    refine lv_iload_n hx hb dX9_played_75 rfl (lv_at hl 6 rfl) ?_
    refine x_iald (j := (Int32.toNatClampNeg x6)) C hm (cx_I (L_o5 1 _ rfl)) hi10 dX9_played_76 rfl ?_
    by_cases hs14 : (M7 (o5 + 1) (Int32.toNatClampNeg x6)) = (2 : Int32)
    · have hf := xif_t hs14 hf
      refine x_tabIn (tgt := 112) hx hb (2 : Int32) hs14 dX9_played_77 (by decide) (by decide) rfl (by decide) ?_
      refine lv_aload_n hx hb dX9_played_112 rfl (lv_at hl 4 rfl) ?_
      refine lv_iload hx hb dX9_played_113 (lv_at hl 3 rfl) ?_
      refine lv_iload hx hb dX9_played_115 (lv_at hl 2 rfl) ?_
      obtain ⟨v16, M17, hq15, hf⟩ := xb2_e hf
      refine x_callVi (As := [.int v11, .int v12]) (rest := []) C hm (c_X9_make l E b M7 v11 v12 hq15) rfl (cx_ColouredHeap LX_top) tc_X9_make tm_RX9_190 ti_X9_make ts_X9_make tn_RX9 td_X9_make rfl rfl ⟨Nat.le_of_ble_eq_true rfl, Nat.le_of_ble_eq_true rfl⟩ rfl hl.1 rfl (Nat.le_of_ble_eq_true rfl) ⟨Nat.zero_le _, Nat.zero_le _⟩ dX9_played_117 (fun H locs hP18 hm => ?_)
      refine lv_iconst (v := (-1 : Int32)) hx hb dX9_played_120 (by decide) ?_
      refine lv_icmp_eq (tgt := 128) hx hb dX9_played_121 (by decide) (fun hc19 => ?_) (fun hc19 => ?_)
      · have hf := xif_t hc19 hf
        refine lv_iconst (v := (0 : Int32)) hx hb dX9_played_128 (by decide) ?_
        refine lv_istore (lv' := [(7, .int (0 : Int32)), (6, .int v13), (5, .int v12), (4, .int v11), (0, .ref (b + 0)), (2, .ref (b + o5)), (3, .int x6)]) hx hb dX9_played_129 hl (by decide) rfl (fun ls hl => ?_)
        refine lv_goto (tgt := 206) hx hb dX9_played_131 (by decide) ?_
        refine lv_iload hx hb dX9_played_206 (lv_at hl 0 rfl) ?_
        refine lv_if_ne (tgt := 213) hx hb dX9_played_208 (by decide) (fun hc => absurd hc (by decide)) (fun hc => ?_)
        cases hf
        exact kx0 (x6, M17) rfl H locs ls hm (lv_sub hl [6] rfl)
      have hf := xif_f hc19 hf
      refine lv_iconst (v := (1 : Int32)) hx hb dX9_played_124 (by decide) ?_
      refine lv_goto (tgt := 129) hx hb dX9_played_125 (by decide) ?_
      refine lv_istore (lv' := [(7, .int (1 : Int32)), (6, .int v13), (5, .int v12), (4, .int v11), (0, .ref (b + 0)), (2, .ref (b + o5)), (3, .int x6)]) hx hb dX9_played_129 hl (by decide) rfl (fun ls hl => ?_)
      refine lv_goto (tgt := 206) hx hb dX9_played_131 (by decide) ?_
      refine lv_iload hx hb dX9_played_206 (lv_at hl 0 rfl) ?_
      refine lv_if_ne (tgt := 213) hx hb dX9_played_208 (by decide) (fun hc => ?_) (fun hc => absurd hc (by decide))
      obtain ⟨v20, ev20, hf⟩ := xlet_x hf
      refine lv_iinc (v := v20) (lv' := [(3, .int v20), (7, .int (1 : Int32)), (6, .int v13), (5, .int v12), (4, .int v11), (0, .ref (b + 0)), (2, .ref (b + o5))]) hx hb dX9_played_213 hl (k := 6) rfl (by rw [ev20]; rfl) (by decide) rfl (fun ls hl => ?_)
      refine lv_goto (tgt := 30) hx hb dX9_played_216 (by decide) ?_
      exact ih M17 v20 H locs ls hf hm (lv_sub hl [5, 6, 0] rfl)
    have hf := xif_f hs14 hf
    by_cases hs21 : (M7 (o5 + 1) (Int32.toNatClampNeg x6)) = (3 : Int32)
    · have hf := xif_t hs21 hf
      refine x_tabIn (tgt := 134) hx hb (3 : Int32) hs21 dX9_played_77 (by decide) (by decide) rfl (by decide) ?_
      refine lv_aload_n hx hb dX9_played_134 rfl (lv_at hl 4 rfl) ?_
      refine lv_iload hx hb dX9_played_135 (lv_at hl 3 rfl) ?_
      refine lv_iload hx hb dX9_played_137 (lv_at hl 2 rfl) ?_
      refine lv_iload hx hb dX9_played_139 (lv_at hl 1 rfl) ?_
      obtain ⟨v23, M24, hq22, hf⟩ := xb2_e hf
      refine x_callVi (As := [.int v11, .int v12, .int v13]) (rest := []) C hm (c_X9_load l E b M7 v11 v12 v13 hq22) rfl (cx_ColouredHeap LX_top) tc_X9_load tm_RX9_193 ti_X9_load ts_X9_load tn_RX9 td_X9_load rfl rfl ⟨Nat.le_of_ble_eq_true rfl, Nat.le_of_ble_eq_true rfl⟩ rfl hl.1 rfl (Nat.le_of_ble_eq_true rfl) ⟨Nat.zero_le _, Nat.zero_le _⟩ dX9_played_141 (fun H locs hP25 hm => ?_)
      refine lv_bipush (v := (-2 : Int32)) hx hb dX9_played_144 (by decide) ?_
      refine lv_icmp_eq (tgt := 153) hx hb dX9_played_146 (by decide) (fun hc26 => ?_) (fun hc26 => ?_)
      · have hf := xif_t hc26 hf
        refine lv_iconst (v := (0 : Int32)) hx hb dX9_played_153 (by decide) ?_
        refine lv_istore (lv' := [(7, .int (0 : Int32)), (6, .int v13), (5, .int v12), (4, .int v11), (0, .ref (b + 0)), (2, .ref (b + o5)), (3, .int x6)]) hx hb dX9_played_154 hl (by decide) rfl (fun ls hl => ?_)
        refine lv_goto (tgt := 206) hx hb dX9_played_156 (by decide) ?_
        refine lv_iload hx hb dX9_played_206 (lv_at hl 0 rfl) ?_
        refine lv_if_ne (tgt := 213) hx hb dX9_played_208 (by decide) (fun hc => absurd hc (by decide)) (fun hc => ?_)
        cases hf
        exact kx0 (x6, M24) rfl H locs ls hm (lv_sub hl [6] rfl)
      have hf := xif_f hc26 hf
      refine lv_iconst (v := (1 : Int32)) hx hb dX9_played_149 (by decide) ?_
      refine lv_goto (tgt := 154) hx hb dX9_played_150 (by decide) ?_
      refine lv_istore (lv' := [(7, .int (1 : Int32)), (6, .int v13), (5, .int v12), (4, .int v11), (0, .ref (b + 0)), (2, .ref (b + o5)), (3, .int x6)]) hx hb dX9_played_154 hl (by decide) rfl (fun ls hl => ?_)
      refine lv_goto (tgt := 206) hx hb dX9_played_156 (by decide) ?_
      refine lv_iload hx hb dX9_played_206 (lv_at hl 0 rfl) ?_
      refine lv_if_ne (tgt := 213) hx hb dX9_played_208 (by decide) (fun hc => ?_) (fun hc => absurd hc (by decide))
      obtain ⟨v27, ev27, hf⟩ := xlet_x hf
      refine lv_iinc (v := v27) (lv' := [(3, .int v27), (7, .int (1 : Int32)), (6, .int v13), (5, .int v12), (4, .int v11), (0, .ref (b + 0)), (2, .ref (b + o5))]) hx hb dX9_played_213 hl (k := 6) rfl (by rw [ev27]; rfl) (by decide) rfl (fun ls hl => ?_)
      refine lv_goto (tgt := 30) hx hb dX9_played_216 (by decide) ?_
      exact ih M24 v27 H locs ls hf hm (lv_sub hl [5, 6, 0] rfl)
    have hf := xif_f hs21 hf
    by_cases hs28 : (M7 (o5 + 1) (Int32.toNatClampNeg x6)) = (4 : Int32)
    · have hf := xif_t hs28 hf
      refine x_tabIn (tgt := 159) hx hb (4 : Int32) hs28 dX9_played_77 (by decide) (by decide) rfl (by decide) ?_
      refine lv_aload_n hx hb dX9_played_159 rfl (lv_at hl 4 rfl) ?_
      refine lv_iload hx hb dX9_played_160 (lv_at hl 2 rfl) ?_
      refine lv_iload hx hb dX9_played_162 (lv_at hl 1 rfl) ?_
      refine lv_iload hx hb dX9_played_164 (lv_at hl 3 rfl) ?_
      obtain ⟨v30, M31, hq29, hf⟩ := xb2_e hf
      refine x_callVi (As := [.int v12, .int v13, .int v11]) (rest := []) C hm (c_X9_store l E b M7 v12 v13 v11 hq29) rfl (cx_ColouredHeap LX_top) tc_X9_store tm_RX9_196 ti_X9_store ts_X9_store tn_RX9 td_X9_store rfl rfl ⟨Nat.le_of_ble_eq_true rfl, Nat.le_of_ble_eq_true rfl⟩ rfl hl.1 rfl (Nat.le_of_ble_eq_true rfl) ⟨Nat.zero_le _, Nat.zero_le _⟩ dX9_played_166 (fun H locs hP32 hm => ?_)
      refine lv_istore (lv' := [(7, .int v30), (6, .int v13), (5, .int v12), (4, .int v11), (0, .ref (b + 0)), (2, .ref (b + o5)), (3, .int x6)]) hx hb dX9_played_169 hl (by decide) rfl (fun ls hl => ?_)
      refine lv_goto (tgt := 206) hx hb dX9_played_171 (by decide) ?_
      refine lv_iload hx hb dX9_played_206 (lv_at hl 0 rfl) ?_
      refine lv_if_ne (tgt := 213) hx hb dX9_played_208 (by decide) (fun hc33 => ?_) (fun hc33 => ?_)
      rotate_left
      · have hf := xif_t hc33 hf
        cases hf
        exact kx0 (x6, M31) rfl H locs ls hm (lv_sub hl [6] rfl)
      have hf := xif_f hc33 hf
      obtain ⟨v34, ev34, hf⟩ := xlet_x hf
      refine lv_iinc (v := v34) (lv' := [(3, .int v34), (7, .int v30), (6, .int v13), (5, .int v12), (4, .int v11), (0, .ref (b + 0)), (2, .ref (b + o5))]) hx hb dX9_played_213 hl (k := 6) rfl (by rw [ev34]; rfl) (by decide) rfl (fun ls hl => ?_)
      refine lv_goto (tgt := 30) hx hb dX9_played_216 (by decide) ?_
      exact ih M31 v34 H locs ls hf hm (lv_sub hl [5, 6, 0] rfl)
    have hf := xif_f hs28 hf
    by_cases hs35 : (M7 (o5 + 1) (Int32.toNatClampNeg x6)) = (5 : Int32)
    · have hf := xif_t hs35 hf
      refine x_tabIn (tgt := 174) hx hb (5 : Int32) hs35 dX9_played_77 (by decide) (by decide) rfl (by decide) ?_
      refine lv_aload_n hx hb dX9_played_174 rfl (lv_at hl 4 rfl) ?_
      refine lv_iload hx hb dX9_played_175 (lv_at hl 3 rfl) ?_
      obtain ⟨v37, M38, hq36, hf⟩ := xb2_e hf
      refine x_callVi (As := [.int v11]) (rest := []) C hm (c_X9_drop l E b M7 v11 hq36) rfl (cx_ColouredHeap LX_top) tc_X9_drop tm_RX9_199 ti_X9_drop ts_X9_drop tn_RX9 td_X9_drop rfl rfl ⟨Nat.le_of_ble_eq_true rfl, Nat.le_of_ble_eq_true rfl⟩ rfl hl.1 rfl (Nat.le_of_ble_eq_true rfl) ⟨Nat.zero_le _, Nat.zero_le _⟩ dX9_played_177 (fun H locs hP39 hm => ?_)
      refine lv_istore (lv' := [(7, .int v37), (6, .int v13), (5, .int v12), (4, .int v11), (0, .ref (b + 0)), (2, .ref (b + o5)), (3, .int x6)]) hx hb dX9_played_180 hl (by decide) rfl (fun ls hl => ?_)
      refine lv_goto (tgt := 206) hx hb dX9_played_182 (by decide) ?_
      refine lv_iload hx hb dX9_played_206 (lv_at hl 0 rfl) ?_
      refine lv_if_ne (tgt := 213) hx hb dX9_played_208 (by decide) (fun hc40 => ?_) (fun hc40 => ?_)
      rotate_left
      · have hf := xif_t hc40 hf
        cases hf
        exact kx0 (x6, M38) rfl H locs ls hm (lv_sub hl [6] rfl)
      have hf := xif_f hc40 hf
      obtain ⟨v41, ev41, hf⟩ := xlet_x hf
      refine lv_iinc (v := v41) (lv' := [(3, .int v41), (7, .int v37), (6, .int v13), (5, .int v12), (4, .int v11), (0, .ref (b + 0)), (2, .ref (b + o5))]) hx hb dX9_played_213 hl (k := 6) rfl (by rw [ev41]; rfl) (by decide) rfl (fun ls hl => ?_)
      refine lv_goto (tgt := 30) hx hb dX9_played_216 (by decide) ?_
      exact ih M38 v41 H locs ls hf hm (lv_sub hl [5, 6, 0] rfl)
    have hf := xif_f hs35 hf
    by_cases hs42 : (M7 (o5 + 1) (Int32.toNatClampNeg x6)) = (6 : Int32)
    · have hf := xif_t hs42 hf
      refine x_tabIn (tgt := 185) hx hb (6 : Int32) hs42 dX9_played_77 (by decide) (by decide) rfl (by decide) ?_
      refine lv_aload_n hx hb dX9_played_185 rfl (lv_at hl 4 rfl) ?_
      refine lv_iload hx hb dX9_played_186 (lv_at hl 3 rfl) ?_
      obtain ⟨v44, M45, hq43, hf⟩ := xb2_e hf
      refine x_callVi (As := [.int v11]) (rest := []) C hm (c_X9_passTicks l E b M7 v11 hq43) rfl (cx_ColouredHeap LX_top) tc_X9_passTicks tm_RX9_168 ti_X9_passTicks ts_X9_passTicks tn_RX9 td_X9_passTicks rfl rfl ⟨Nat.le_of_ble_eq_true rfl, Nat.le_of_ble_eq_true rfl⟩ rfl hl.1 rfl (Nat.le_of_ble_eq_true rfl) ⟨Nat.zero_le _, Nat.zero_le _⟩ dX9_played_188 (fun H locs hP46 hm => ?_)
      refine lv_iload hx hb dX9_played_191 (lv_at hl 3 rfl) ?_
      refine lv_icmp_ne (tgt := 200) hx hb dX9_played_193 (by decide) (fun hc47 => ?_) (fun hc47 => ?_)
      · have hf := xif_f hc47 hf
        refine lv_iconst (v := (0 : Int32)) hx hb dX9_played_200 (by decide) ?_
        refine lv_istore (lv' := [(7, .int (0 : Int32)), (6, .int v13), (5, .int v12), (4, .int v11), (0, .ref (b + 0)), (2, .ref (b + o5)), (3, .int x6)]) hx hb dX9_played_201 hl (by decide) rfl (fun ls hl => ?_)
        refine lv_goto (tgt := 206) hx hb dX9_played_203 (by decide) ?_
        refine lv_iload hx hb dX9_played_206 (lv_at hl 0 rfl) ?_
        refine lv_if_ne (tgt := 213) hx hb dX9_played_208 (by decide) (fun hc => absurd hc (by decide)) (fun hc => ?_)
        cases hf
        exact kx0 (x6, M45) rfl H locs ls hm (lv_sub hl [6] rfl)
      have hf := xif_t hc47 hf
      refine lv_iconst (v := (1 : Int32)) hx hb dX9_played_196 (by decide) ?_
      refine lv_goto (tgt := 201) hx hb dX9_played_197 (by decide) ?_
      refine lv_istore (lv' := [(7, .int (1 : Int32)), (6, .int v13), (5, .int v12), (4, .int v11), (0, .ref (b + 0)), (2, .ref (b + o5)), (3, .int x6)]) hx hb dX9_played_201 hl (by decide) rfl (fun ls hl => ?_)
      refine lv_goto (tgt := 206) hx hb dX9_played_203 (by decide) ?_
      refine lv_iload hx hb dX9_played_206 (lv_at hl 0 rfl) ?_
      refine lv_if_ne (tgt := 213) hx hb dX9_played_208 (by decide) (fun hc => ?_) (fun hc => absurd hc (by decide))
      obtain ⟨v48, ev48, hf⟩ := xlet_x hf
      refine lv_iinc (v := v48) (lv' := [(3, .int v48), (7, .int (1 : Int32)), (6, .int v13), (5, .int v12), (4, .int v11), (0, .ref (b + 0)), (2, .ref (b + o5))]) hx hb dX9_played_213 hl (k := 6) rfl (by rw [ev48]; rfl) (by decide) rfl (fun ls hl => ?_)
      refine lv_goto (tgt := 30) hx hb dX9_played_216 (by decide) ?_
      exact ih M45 v48 H locs ls hf hm (lv_sub hl [5, 6, 0] rfl)
    have hf := xif_f hs42 hf
    refine x_tabOut (tgt := 206) hx hb dX9_played_77 (by decide) (fun i hi => ?_) (by decide) ?_
    · match i, hi with
      | 0, _ => exact hs14
      | 1, _ => exact hs21
      | 2, _ => exact hs28
      | 3, _ => exact hs35
      | 4, _ => exact hs42
      | (i + 5), hi => exact absurd hi (by omega)
    refine lv_iload hx hb dX9_played_206 (lv_at hl 0 rfl) ?_
    refine lv_if_ne (tgt := 213) hx hb dX9_played_208 (by decide) (fun hc => ?_) (fun hc => absurd hc (by decide))
    obtain ⟨v49, ev49, hf⟩ := xlet_x hf
    refine lv_iinc (v := v49) (lv' := [(3, .int v49), (7, .int (1 : Int32)), (6, .int v13), (5, .int v12), (4, .int v11), (0, .ref (b + 0)), (2, .ref (b + o5))]) hx hb dX9_played_213 hl (k := 6) rfl (by rw [ev49]; rfl) (by decide) rfl (fun ls hl => ?_)
    refine lv_goto (tgt := 30) hx hb dX9_played_216 (by decide) ?_
    exact ih M7 v49 H locs ls hf hm (lv_sub hl [5, 6, 0] rfl)
set_option maxHeartbeats 4000000 in
set_option maxRecDepth 20000 in
theorem c_X9_played (l : Launch) (E : xE) (b : Nat) (M : xm) (a1 : Int32) {r : Int32} {M' : xm} (hf : f_X9_played M a1 = some (r, M')) :
    xMet l E b NX yX9_played cX9_played 8 (some .int) (xR 9) [.ref (b + 0), .int a1] (cX E b M) (some (.int r)) True (cX E b M') := by
  refine xMet.ofW (own := RX9) (by decide) rfl (Nat.le_of_ble_eq_true rfl) ?_
  intro p e s m below meth c H locs ls C hm hl
  have hx := C.1.1
  have hb := C.1.2.1
  have hl : lv_has ls 8 [(0, .ref (b + 0)), (1, .int a1)] := hl
  unfold f_X9_played at hf
  refine lv_iload_n hx hb dX9_played_0 rfl (lv_at hl 1 rfl) ?_
  refine lv_aload_n hx hb dX9_played_1 rfl (lv_at hl 0 rfl) ?_
  refine x_get C hm inX9 rfl 2 (by decide) tf_RX9_26 (cx_ColouredHeap LX_top) rfl dX9_played_2 ?_
  refine x_get C hm inX8 rfl 3 (by decide) tf_RX9_78 (cx_Told (LX_told 0 _ rfl)) rfl dX9_played_5 ?_
  obtain ⟨k2, ek2, hf⟩ := xlet_x hf
  have jk2 : ∀ (o1 : Option Nat) (H : Heap) (locs : List Loc) (ls : Array Slot), (∀ k, o1 = some k → lat k pText) → k2 o1 = some (r, M') → xM E b NX (cX E b M) s.heap H locs → lv_has ls 8 [(0, .ref (b + 0))] → W p l e (xR 9) s m ([.ref (b + 0), .int a1] : List Value).toArray below meth c H locs 0 0 (MQ below (xQ E b NX (some (.int r)) True (cX E b M')) ([.ref (b + 0), .int a1] : List Value).toArray s 0 0 (xA b NX)) (F0 m 20 ls [xrf b o1]) := by
    intro o1 H locs ls hQ_o1 hf hm hl
    have hf := xap1 ek2 hf
    refine x_astoreQ_n (b := b) (o := o1) (lv' := [(2, xrf b o1), (0, .ref (b + 0))]) hx hb dX9_played_20 rfl hl (by decide) (by cases o1 <;> rfl) (fun ls hl => ?_)
    refine x_aloadQ_n (b := b) (o := o1) hx hb dX9_played_21 rfl (lv_at hl 0 rfl) ?_
    refine x_ifnonnullQ (b := b) (o := o1) (tgt := 28) hx hb dX9_played_22 (by decide) (fun hn4 => ?_) (fun o3 hn4 => ?_)
    · subst hn4
      have hf := xopt_n hf
      have hl := lv_sub (l' := [(0, .ref (b + 0))]) hl [1] rfl
      refine lv_bipush (v := (-2 : Int32)) hx hb dX9_played_25 (by decide) ?_
      cases hf
      exact x_iret C hm trivial dX9_played_27
    subst hn4
    have hf := xopt_s hf
    have hl : lv_has ls 8 [(2, .ref (b + o3)), (0, .ref (b + 0))] := hl
    refine lv_iconst (v := (0 : Int32)) hx hb dX9_played_28 (by decide) ?_
    refine lv_istore_n (lv' := [(3, .int (0 : Int32)), (2, .ref (b + o3)), (0, .ref (b + 0))]) hx hb dX9_played_29 rfl hl (by decide) rfl (fun ls hl => ?_)
    rcases xs2_e hf with ⟨q50, hq, hf⟩ | ⟨q50, hq, hf⟩
    · refine j_X9_played_30 C (hQ_o1 o3 rfl) (r := Sum.inl q50) (fun q2 hr H locs ls hm hl => ?_) (fun q2 hr => by cases hr) xfuel M (0 : Int32) H locs ls hq hm (lv_sub hl [2, 1, 0] rfl)
      cases hr
      refine lv_iload_n hx hb dX9_played_211 rfl (lv_at hl 0 rfl) ?_
      cases hf
      exact x_iret C hm trivial dX9_played_212
    · refine j_X9_played_30 C (hQ_o1 o3 rfl) (r := Sum.inr q50) (fun q2 hr => by cases hr) (fun q2 hr H locs ls hm hl => ?_) xfuel M (0 : Int32) H locs ls hq hm (lv_sub hl [2, 1, 0] rfl)
      cases hr
      refine lv_iconst (v := (-1 : Int32)) hx hb dX9_played_219 (by decide) ?_
      cases hf
      exact x_iret C hm trivial dX9_played_220
  refine lv_icmp_ge (tgt := 19) hx hb dX9_played_8 (by decide) (fun hc51 => ?_) (fun hc51 => ?_)
  · have hf := xif_t hc51 hf
    refine lv_null hx hb dX9_played_19 ?_
    exact jk2 none H locs ls (fun k h => by cases h) hf hm (lv_sub hl [0] rfl)
  have hf := xif_f hc51 hf
  refine lv_aload_n hx hb dX9_played_11 rfl (lv_at hl 0 rfl) ?_
  refine lv_iload_n hx hb dX9_played_12 rfl (lv_at hl 1 rfl) ?_
  obtain ⟨o53, hq52, hf⟩ := xb1_e hf
  refine x_callVr (As := [.int a1]) (rest := []) C hm (c_X9_textAt l E b M a1 hq52) rfl (cx_ColouredHeap LX_top) tc_X9_textAt tm_RX9_80 ti_X9_textAt ts_X9_textAt tn_RX9 td_X9_textAt rfl rfl ⟨Nat.le_of_ble_eq_true rfl, Nat.le_of_ble_eq_true rfl⟩ rfl hl.1 rfl (Nat.le_of_ble_eq_true rfl) ⟨Nat.zero_le _, Nat.zero_le _⟩ dX9_played_13 (fun H locs hP54 hm => ?_)
  refine lv_goto (tgt := 20) hx hb dX9_played_16 (by decide) ?_
  exact jk2 o53 H locs ls (X9_textAt_lat  hq52) hf hm (lv_sub hl [0] rfl)
/-! ColouredHeap.poorest()I -/
theorem dX9_poorest_0 : decode cX9_poorest 0 = .ok (.iconst (-1), 1) := by decide +kernel
theorem dX9_poorest_1 : decode cX9_poorest 1 = .ok (.istore_n 1, 1) := by decide +kernel
theorem dX9_poorest_2 : decode cX9_poorest 2 = .ok (.bipush 7, 2) := by decide +kernel
theorem dX9_poorest_4 : decode cX9_poorest 4 = .ok (.istore_n 2, 1) := by decide +kernel
theorem dX9_poorest_5 : decode cX9_poorest 5 = .ok (.iload_n 2, 1) := by decide +kernel
theorem dX9_poorest_6 : decode cX9_poorest 6 = .ok (.ifCond .lt 50, 3) := by decide +kernel
theorem dX9_poorest_9 : decode cX9_poorest 9 = .ok (.aload_n 0, 1) := by decide +kernel
theorem dX9_poorest_10 : decode cX9_poorest 10 = .ok (.getfield 10, 3) := by decide +kernel
theorem dX9_poorest_13 : decode cX9_poorest 13 = .ok (.getfield 226, 3) := by decide +kernel
theorem dX9_poorest_16 : decode cX9_poorest 16 = .ok (.iload_n 2, 1) := by decide +kernel
theorem dX9_poorest_17 : decode cX9_poorest 17 = .ok (.iaload, 1) := by decide +kernel
theorem dX9_poorest_18 : decode cX9_poorest 18 = .ok (.iconst 1, 1) := by decide +kernel
theorem dX9_poorest_19 : decode cX9_poorest 19 = .ok (.if_icmp .ne 31, 3) := by decide +kernel
theorem dX9_poorest_22 : decode cX9_poorest 22 = .ok (.iload_n 1, 1) := by decide +kernel
theorem dX9_poorest_23 : decode cX9_poorest 23 = .ok (.iconst (-1), 1) := by decide +kernel
theorem dX9_poorest_24 : decode cX9_poorest 24 = .ok (.if_icmp .eq 24, 3) := by decide +kernel
theorem dX9_poorest_27 : decode cX9_poorest 27 = .ok (.aload_n 0, 1) := by decide +kernel
theorem dX9_poorest_28 : decode cX9_poorest 28 = .ok (.getfield 10, 3) := by decide +kernel
theorem dX9_poorest_31 : decode cX9_poorest 31 = .ok (.getfield 232, 3) := by decide +kernel
theorem dX9_poorest_34 : decode cX9_poorest 34 = .ok (.iload_n 2, 1) := by decide +kernel
theorem dX9_poorest_35 : decode cX9_poorest 35 = .ok (.iaload, 1) := by decide +kernel
theorem dX9_poorest_36 : decode cX9_poorest 36 = .ok (.aload_n 0, 1) := by decide +kernel
theorem dX9_poorest_37 : decode cX9_poorest 37 = .ok (.getfield 10, 3) := by decide +kernel
theorem dX9_poorest_40 : decode cX9_poorest 40 = .ok (.getfield 232, 3) := by decide +kernel
theorem dX9_poorest_43 : decode cX9_poorest 43 = .ok (.iload_n 1, 1) := by decide +kernel
theorem dX9_poorest_44 : decode cX9_poorest 44 = .ok (.iaload, 1) := by decide +kernel
theorem dX9_poorest_45 : decode cX9_poorest 45 = .ok (.if_icmp .gt 5, 3) := by decide +kernel
theorem dX9_poorest_48 : decode cX9_poorest 48 = .ok (.iload_n 2, 1) := by decide +kernel
theorem dX9_poorest_49 : decode cX9_poorest 49 = .ok (.istore_n 1, 1) := by decide +kernel
theorem dX9_poorest_50 : decode cX9_poorest 50 = .ok (.iinc 2 (-1), 3) := by decide +kernel
theorem dX9_poorest_53 : decode cX9_poorest 53 = .ok (.goto (-48), 3) := by decide +kernel
theorem dX9_poorest_56 : decode cX9_poorest 56 = .ok (.iload_n 1, 1) := by decide +kernel
theorem dX9_poorest_57 : decode cX9_poorest 57 = .ok (.ireturn, 1) := by decide +kernel
def g_X9_poorest_5 (M : xm) : Nat → Int32 → Int32 → Option ((Int32))
  | 0, _, _ => none
  | n + 1, x1, x2 => (if x2 < 0 then some (x1) else if xin x2 8 = true then (if (M (1 + 7) (Int32.toNatClampNeg x2)) = (1 : Int32) then (if x1 = (-1 : Int32) then xlet (x2 + (-1 : Int32)) (fun v9 => g_X9_poorest_5 M n x2 v9) else if xin x1 8 = true then (if (M (1 + 5) (Int32.toNatClampNeg x1)) < (M (1 + 5) (Int32.toNatClampNeg x2)) then xlet (x2 + (-1 : Int32)) (fun v12 => g_X9_poorest_5 M n x1 v12) else xlet (x2 + (-1 : Int32)) (fun v13 => g_X9_poorest_5 M n x2 v13)) else none) else xlet (x2 + (-1 : Int32)) (fun v7 => g_X9_poorest_5 M n x1 v7)) else none)
def f_X9_poorest (M : xm) : Option (Int32) := xb1 (g_X9_poorest_5 M xfuel (-1 : Int32) (7 : Int32)) (fun v14 => some v14)
set_option maxHeartbeats 4000000 in
set_option maxRecDepth 20000 in
theorem j_X9_poorest_5 {p : Program} {l : Launch} {e : Env} {s : State} {m : MethodId} {args : Array Value} {below : List Frame} {meth : Method} {c : Code} {Q : State → Prop} {E : xE} {b : Nat} (C : xC p s m args meth c cX9_poorest 3 RX9 (some .int) E b) (M : xm) {y3 : Int32}
    (kx0 : ∀ (H : Heap) (locs : List Loc) (ls : Array Slot), xM E b NX (cX E b M) s.heap H locs → lv_has ls 3 [(1, .int y3)] → W p l e (xR 1) s m args below meth c H locs 0 0 Q (F0 m 56 ls [])) :
    ∀ (n : Nat) (x1 : Int32) (x2 : Int32) (H : Heap) (locs : List Loc) (ls : Array Slot), g_X9_poorest_5 M n x1 x2 = some y3 → xM E b NX (cX E b M) s.heap H locs → lv_has ls 3 [(0, .ref (b + 0)), (1, .int x1), (2, .int x2)] → W p l e (xR 1) s m args below meth c H locs 0 0 Q (F0 m 5 ls []) := by
  have hx := C.1.1
  have hb := C.1.2.1
  intro n
  induction n with
  | zero =>
    intro x1 x2 H locs ls hf hm hl
    rw [g_X9_poorest_5] at hf
    cases hf
  | succ n ih =>
    intro x1 x2 H locs ls hf hm hl
    rw [g_X9_poorest_5] at hf
    refine lv_iload_n hx hb dX9_poorest_5 rfl (lv_at hl 2 rfl) ?_
    refine lv_if_lt (tgt := 56) hx hb dX9_poorest_6 (by decide) (fun hc4 => ?_) (fun hc4 => ?_)
    · have hf := xif_t hc4 hf
      cases hf
      exact kx0 H locs ls hm (lv_sub hl [1] rfl)
    have hf := xif_f hc4 hf
    refine lv_aload_n hx hb dX9_poorest_9 rfl (lv_at hl 0 rfl) ?_
    refine x_get C hm inX9 rfl 0 (by decide) tf_RX9_10 (cx_ColouredHeap LX_top) rfl dX9_poorest_10 ?_
    refine x_get C hm inX1 rfl 6 (by decide) tf_RX9_226 (cx_Heap (LX_heap 0 _ rfl)) rfl dX9_poorest_13 ?_
    refine lv_iload_n hx hb dX9_poorest_16 rfl (lv_at hl 2 rfl) ?_
    obtain ⟨hi5, hf⟩ := xif_s hf
    refine x_iald (j := (Int32.toNatClampNeg x2)) C hm (cx_I (LX_heap 7 _ rfl)) hi5 dX9_poorest_17 rfl ?_
    refine lv_iconst (v := (1 : Int32)) hx hb dX9_poorest_18 (by decide) ?_
    refine lv_icmp_ne (tgt := 50) hx hb dX9_poorest_19 (by decide) (fun hc6 => ?_) (fun hc6 => ?_)
    · have hf := xif_f hc6 hf
      obtain ⟨v7, ev7, hf⟩ := xlet_x hf
      refine lv_iinc (v := v7) (lv' := [(2, .int v7), (0, .ref (b + 0)), (1, .int x1)]) hx hb dX9_poorest_50 hl (k := 2) rfl (by rw [ev7]; rfl) (by decide) rfl (fun ls hl => ?_)
      refine lv_goto (tgt := 5) hx hb dX9_poorest_53 (by decide) ?_
      exact ih x1 v7 H locs ls hf hm (lv_sub hl [1, 2, 0] rfl)
    have hf := xif_t hc6 hf
    refine lv_iload_n hx hb dX9_poorest_22 rfl (lv_at hl 1 rfl) ?_
    refine lv_iconst (v := (-1 : Int32)) hx hb dX9_poorest_23 (by decide) ?_
    refine lv_icmp_eq (tgt := 48) hx hb dX9_poorest_24 (by decide) (fun hc8 => ?_) (fun hc8 => ?_)
    · have hf := xif_t hc8 hf
      refine lv_iload_n hx hb dX9_poorest_48 rfl (lv_at hl 2 rfl) ?_
      refine lv_istore_n (lv' := [(1, .int x2), (0, .ref (b + 0)), (2, .int x2)]) hx hb dX9_poorest_49 rfl hl (by decide) rfl (fun ls hl => ?_)
      obtain ⟨v9, ev9, hf⟩ := xlet_x hf
      refine lv_iinc (v := v9) (lv' := [(2, .int v9), (1, .int x2), (0, .ref (b + 0))]) hx hb dX9_poorest_50 hl (k := 2) rfl (by rw [ev9]; rfl) (by decide) rfl (fun ls hl => ?_)
      refine lv_goto (tgt := 5) hx hb dX9_poorest_53 (by decide) ?_
      exact ih x2 v9 H locs ls hf hm (lv_sub hl [2, 1, 0] rfl)
    have hf := xif_f hc8 hf
    refine lv_aload_n hx hb dX9_poorest_27 rfl (lv_at hl 0 rfl) ?_
    refine x_get C hm inX9 rfl 0 (by decide) tf_RX9_10 (cx_ColouredHeap LX_top) rfl dX9_poorest_28 ?_
    refine x_get C hm inX1 rfl 4 (by decide) tf_RX9_232 (cx_Heap (LX_heap 0 _ rfl)) rfl dX9_poorest_31 ?_
    refine lv_iload_n hx hb dX9_poorest_34 rfl (lv_at hl 2 rfl) ?_
    refine x_iald (j := (Int32.toNatClampNeg x2)) C hm (cx_I (LX_heap 5 _ rfl)) hi5 dX9_poorest_35 rfl ?_
    refine lv_aload_n hx hb dX9_poorest_36 rfl (lv_at hl 0 rfl) ?_
    refine x_get C hm inX9 rfl 0 (by decide) tf_RX9_10 (cx_ColouredHeap LX_top) rfl dX9_poorest_37 ?_
    refine x_get C hm inX1 rfl 4 (by decide) tf_RX9_232 (cx_Heap (LX_heap 0 _ rfl)) rfl dX9_poorest_40 ?_
    refine lv_iload_n hx hb dX9_poorest_43 rfl (lv_at hl 1 rfl) ?_
    obtain ⟨hi10, hf⟩ := xif_s hf
    refine x_iald (j := (Int32.toNatClampNeg x1)) C hm (cx_I (LX_heap 5 _ rfl)) hi10 dX9_poorest_44 rfl ?_
    refine lv_icmp_gt (tgt := 50) hx hb dX9_poorest_45 (by decide) (fun hc11 => ?_) (fun hc11 => ?_)
    · have hf := xif_t hc11 hf
      obtain ⟨v12, ev12, hf⟩ := xlet_x hf
      refine lv_iinc (v := v12) (lv' := [(2, .int v12), (0, .ref (b + 0)), (1, .int x1)]) hx hb dX9_poorest_50 hl (k := 2) rfl (by rw [ev12]; rfl) (by decide) rfl (fun ls hl => ?_)
      refine lv_goto (tgt := 5) hx hb dX9_poorest_53 (by decide) ?_
      exact ih x1 v12 H locs ls hf hm (lv_sub hl [1, 2, 0] rfl)
    have hf := xif_f hc11 hf
    refine lv_iload_n hx hb dX9_poorest_48 rfl (lv_at hl 2 rfl) ?_
    refine lv_istore_n (lv' := [(1, .int x2), (0, .ref (b + 0)), (2, .int x2)]) hx hb dX9_poorest_49 rfl hl (by decide) rfl (fun ls hl => ?_)
    obtain ⟨v13, ev13, hf⟩ := xlet_x hf
    refine lv_iinc (v := v13) (lv' := [(2, .int v13), (1, .int x2), (0, .ref (b + 0))]) hx hb dX9_poorest_50 hl (k := 2) rfl (by rw [ev13]; rfl) (by decide) rfl (fun ls hl => ?_)
    refine lv_goto (tgt := 5) hx hb dX9_poorest_53 (by decide) ?_
    exact ih x2 v13 H locs ls hf hm (lv_sub hl [2, 1, 0] rfl)
set_option maxHeartbeats 4000000 in
set_option maxRecDepth 20000 in
theorem c_X9_poorest (l : Launch) (E : xE) (b : Nat) (M : xm) {r : Int32} (hf : f_X9_poorest M = some r) :
    xMet l E b NX yX9_poorest cX9_poorest 3 (some .int) (xR 1) [.ref (b + 0)] (cX E b M) (some (.int r)) True (cX E b M) := by
  refine xMet.ofW (own := RX9) (by decide) rfl (Nat.le_of_ble_eq_true rfl) ?_
  intro p e s m below meth c H locs ls C hm hl
  have hx := C.1.1
  have hb := C.1.2.1
  have hl : lv_has ls 3 [(0, .ref (b + 0))] := hl
  unfold f_X9_poorest at hf
  refine lv_iconst (v := (-1 : Int32)) hx hb dX9_poorest_0 (by decide) ?_
  refine lv_istore_n (lv' := [(1, .int (-1 : Int32)), (0, .ref (b + 0))]) hx hb dX9_poorest_1 rfl hl (by decide) rfl (fun ls hl => ?_)
  refine lv_bipush (v := (7 : Int32)) hx hb dX9_poorest_2 (by decide) ?_
  refine lv_istore_n (lv' := [(2, .int (7 : Int32)), (1, .int (-1 : Int32)), (0, .ref (b + 0))]) hx hb dX9_poorest_4 rfl hl (by decide) rfl (fun ls hl => ?_)
  obtain ⟨v14, hq, hf⟩ := xb1_e hf
  refine j_X9_poorest_5 C M (fun H locs ls hm hl => ?_) xfuel (-1 : Int32) (7 : Int32) H locs ls hq hm (lv_sub hl [2, 1, 0] rfl)
  refine lv_iload_n hx hb dX9_poorest_56 rfl (lv_at hl 0 rfl) ?_
  cases hf
  exact x_iret C hm trivial dX9_poorest_57
/-! ColouredHeap.reach(Z)I -/
theorem dX9_reach_0 : decode cX9_reach 0 = .ok (.aload_n 0, 1) := by decide +kernel
theorem dX9_reach_1 : decode cX9_reach 1 = .ok (.getfield 45, 3) := by decide +kernel
theorem dX9_reach_4 : decode cX9_reach 4 = .ok (.aload_n 0, 1) := by decide +kernel
theorem dX9_reach_5 : decode cX9_reach 5 = .ok (.getfield 10, 3) := by decide +kernel
theorem dX9_reach_8 : decode cX9_reach 8 = .ok (.iconst (-1), 1) := by decide +kernel
theorem dX9_reach_9 : decode cX9_reach 9 = .ok (.invokevirtual 273, 3) := by decide +kernel
theorem dX9_reach_12 : decode cX9_reach 12 = .ok (.iload_n 1, 1) := by decide +kernel
theorem dX9_reach_13 : decode cX9_reach 13 = .ok (.ifCond .eq 13, 3) := by decide +kernel
theorem dX9_reach_16 : decode cX9_reach 16 = .ok (.aload_n 0, 1) := by decide +kernel
theorem dX9_reach_17 : decode cX9_reach 17 = .ok (.getfield 45, 3) := by decide +kernel
theorem dX9_reach_20 : decode cX9_reach 20 = .ok (.getfield 277, 3) := by decide +kernel
theorem dX9_reach_23 : decode cX9_reach 23 = .ok (.goto 10, 3) := by decide +kernel
theorem dX9_reach_26 : decode cX9_reach 26 = .ok (.aload_n 0, 1) := by decide +kernel
theorem dX9_reach_27 : decode cX9_reach 27 = .ok (.getfield 45, 3) := by decide +kernel
theorem dX9_reach_30 : decode cX9_reach 30 = .ok (.getfield 279, 3) := by decide +kernel
theorem dX9_reach_33 : decode cX9_reach 33 = .ok (.ireturn, 1) := by decide +kernel
def f_X9_reach (M : xm) (a1 : Int32) : Option (Int32 × xm) := xb1 (f_X6_take 1 M (-1 : Int32)) (fun M2 => (if a1 = 0 then some ((M2 986 3), M2) else some ((M2 986 4), M2)))
set_option maxHeartbeats 4000000 in
set_option maxRecDepth 20000 in
theorem c_X9_reach (l : Launch) (E : xE) (b : Nat) (M : xm) (a1 : Int32) {r : Int32} {M' : xm} (hf : f_X9_reach M a1 = some (r, M')) :
    xMet l E b NX yX9_reach cX9_reach 2 (some .int) (xR 5) [.ref (b + 0), .int a1] (cX E b M) (some (.int r)) True (cX E b M') := by
  refine xMet.ofW (own := RX9) (by decide) rfl (Nat.le_of_ble_eq_true rfl) ?_
  intro p e s m below meth c H locs ls C hm hl
  have hx := C.1.1
  have hb := C.1.2.1
  have hl : lv_has ls 2 [(0, .ref (b + 0)), (1, .int a1)] := hl
  unfold f_X9_reach at hf
  refine lv_aload_n hx hb dX9_reach_0 rfl (lv_at hl 0 rfl) ?_
  refine x_get C hm inX9 rfl 7 (by decide) tf_RX9_45 (cx_ColouredHeap LX_top) rfl dX9_reach_1 ?_
  refine lv_aload_n hx hb dX9_reach_4 rfl (lv_at hl 0 rfl) ?_
  refine x_get C hm inX9 rfl 0 (by decide) tf_RX9_10 (cx_ColouredHeap LX_top) rfl dX9_reach_5 ?_
  refine lv_iconst (v := (-1 : Int32)) hx hb dX9_reach_8 (by decide) ?_
  obtain ⟨M2, hq1, hf⟩ := xb1_e hf
  refine x_callVv (As := [.ref (b + 1), .int (-1 : Int32)]) (rest := []) C hm (c_X6_take l E b LX_heap M (-1 : Int32) hq1) rfl (cx_Survey (LX_survey 0 _ rfl)) tc_X6_take tm_RX9_273 ti_X6_take ts_X6_take tn_RX6 td_X6_take rfl rfl ⟨Nat.le_of_ble_eq_true rfl, Nat.le_of_ble_eq_true rfl⟩ rfl hl.1 rfl (Nat.le_of_ble_eq_true rfl) ⟨Nat.zero_le _, Nat.zero_le _⟩ dX9_reach_9 (fun H locs hP3 hm => ?_)
  refine lv_iload_n hx hb dX9_reach_12 rfl (lv_at hl 1 rfl) ?_
  refine lv_if_eq (tgt := 26) hx hb dX9_reach_13 (by decide) (fun hc4 => ?_) (fun hc4 => ?_)
  · have hf := xif_t hc4 hf
    refine lv_aload_n hx hb dX9_reach_26 rfl (lv_at hl 0 rfl) ?_
    refine x_get C hm inX9 rfl 7 (by decide) tf_RX9_45 (cx_ColouredHeap LX_top) rfl dX9_reach_27 ?_
    refine x_get C hm inX6 rfl 3 (by decide) tf_RX9_279 (cx_Survey (LX_survey 0 _ rfl)) rfl dX9_reach_30 ?_
    cases hf
    exact x_iret C hm trivial dX9_reach_33
  have hf := xif_f hc4 hf
  refine lv_aload_n hx hb dX9_reach_16 rfl (lv_at hl 0 rfl) ?_
  refine x_get C hm inX9 rfl 7 (by decide) tf_RX9_45 (cx_ColouredHeap LX_top) rfl dX9_reach_17 ?_
  refine x_get C hm inX6 rfl 4 (by decide) tf_RX9_277 (cx_Survey (LX_survey 0 _ rfl)) rfl dX9_reach_20 ?_
  refine lv_goto (tgt := 33) hx hb dX9_reach_23 (by decide) ?_
  cases hf
  exact x_iret C hm trivial dX9_reach_33
/-! ColouredHeap.reached(I)Z -/
theorem dX9_reached_0 : decode cX9_reached 0 = .ok (.aload_n 0, 1) := by decide +kernel
theorem dX9_reached_1 : decode cX9_reached 1 = .ok (.iload_n 1, 1) := by decide +kernel
theorem dX9_reached_2 : decode cX9_reached 2 = .ok (.invokevirtual 270, 3) := by decide +kernel
theorem dX9_reached_5 : decode cX9_reached 5 = .ok (.ireturn, 1) := by decide +kernel
def f_X9_reached (M : xm) (a1 : Int32) : Option (Int32 × xm) := xb2 (f_X9_isReached M a1) (fun v2 M3 => some (v2, M3))
set_option maxHeartbeats 4000000 in
set_option maxRecDepth 20000 in
theorem c_X9_reached (l : Launch) (E : xE) (b : Nat) (M : xm) (a1 : Int32) {r : Int32} {M' : xm} (hf : f_X9_reached M a1 = some (r, M')) :
    xMet l E b NX yX9_reached cX9_reached 2 (some .boolean) (xR 6) [.ref (b + 0), .int a1] (cX E b M) (some (.int r)) (xbo r = true) (cX E b M') := by
  refine xMet.ofW (own := RX9) (by decide) rfl (Nat.le_of_ble_eq_true rfl) ?_
  intro p e s m below meth c H locs ls C hm hl
  have hx := C.1.1
  have hb := C.1.2.1
  have hl : lv_has ls 2 [(0, .ref (b + 0)), (1, .int a1)] := hl
  unfold f_X9_reached at hf
  refine lv_aload_n hx hb dX9_reached_0 rfl (lv_at hl 0 rfl) ?_
  refine lv_iload_n hx hb dX9_reached_1 rfl (lv_at hl 1 rfl) ?_
  obtain ⟨v2, M3, hq1, hf⟩ := xb2_e hf
  refine x_callVi (As := [.int a1]) (rest := []) C hm (c_X9_isReached l E b M a1 hq1) rfl (cx_ColouredHeap LX_top) tc_X9_isReached tm_RX9_270 ti_X9_isReached ts_X9_isReached tn_RX9 td_X9_isReached rfl rfl ⟨Nat.le_of_ble_eq_true rfl, Nat.le_of_ble_eq_true rfl⟩ rfl hl.1 rfl (Nat.le_of_ble_eq_true rfl) ⟨Nat.zero_le _, Nat.zero_le _⟩ dX9_reached_2 (fun H locs hP4 hm => ?_)
  cases hf
  exact x_zret C hm hP4 hP4 dX9_reached_5
/-! ColouredHeap.retained(I)I -/
theorem dX9_retained_0 : decode cX9_retained 0 = .ok (.aload_n 0, 1) := by decide +kernel
theorem dX9_retained_1 : decode cX9_retained 1 = .ok (.iload_n 1, 1) := by decide +kernel
theorem dX9_retained_2 : decode cX9_retained 2 = .ok (.invokevirtual 270, 3) := by decide +kernel
theorem dX9_retained_5 : decode cX9_retained 5 = .ok (.ifCond .ne 5, 3) := by decide +kernel
theorem dX9_retained_8 : decode cX9_retained 8 = .ok (.iconst (-1), 1) := by decide +kernel
theorem dX9_retained_9 : decode cX9_retained 9 = .ok (.ireturn, 1) := by decide +kernel
theorem dX9_retained_10 : decode cX9_retained 10 = .ok (.aload_n 0, 1) := by decide +kernel
theorem dX9_retained_11 : decode cX9_retained 11 = .ok (.getfield 45, 3) := by decide +kernel
theorem dX9_retained_14 : decode cX9_retained 14 = .ok (.getfield 277, 3) := by decide +kernel
theorem dX9_retained_17 : decode cX9_retained 17 = .ok (.istore_n 2, 1) := by decide +kernel
theorem dX9_retained_18 : decode cX9_retained 18 = .ok (.aload_n 0, 1) := by decide +kernel
theorem dX9_retained_19 : decode cX9_retained 19 = .ok (.getfield 45, 3) := by decide +kernel
theorem dX9_retained_22 : decode cX9_retained 22 = .ok (.aload_n 0, 1) := by decide +kernel
theorem dX9_retained_23 : decode cX9_retained 23 = .ok (.getfield 10, 3) := by decide +kernel
theorem dX9_retained_26 : decode cX9_retained 26 = .ok (.iload_n 1, 1) := by decide +kernel
theorem dX9_retained_27 : decode cX9_retained 27 = .ok (.invokevirtual 273, 3) := by decide +kernel
theorem dX9_retained_30 : decode cX9_retained 30 = .ok (.iload_n 2, 1) := by decide +kernel
theorem dX9_retained_31 : decode cX9_retained 31 = .ok (.aload_n 0, 1) := by decide +kernel
theorem dX9_retained_32 : decode cX9_retained 32 = .ok (.getfield 45, 3) := by decide +kernel
theorem dX9_retained_35 : decode cX9_retained 35 = .ok (.getfield 277, 3) := by decide +kernel
theorem dX9_retained_38 : decode cX9_retained 38 = .ok (.isub, 1) := by decide +kernel
theorem dX9_retained_39 : decode cX9_retained 39 = .ok (.ireturn, 1) := by decide +kernel
def f_X9_retained (M : xm) (a1 : Int32) : Option (Int32 × xm) := xb2 (f_X9_isReached M a1) (fun v2 M3 => (if v2 = 0 then some ((-1 : Int32), M3) else xlet (M3 986 4) (fun v6 => xb1 (f_X6_take 1 M3 a1) (fun M8 => some ((v6 - (M8 986 4)), M8)))))
set_option maxHeartbeats 4000000 in
set_option maxRecDepth 20000 in
theorem c_X9_retained (l : Launch) (E : xE) (b : Nat) (M : xm) (a1 : Int32) {r : Int32} {M' : xm} (hf : f_X9_retained M a1 = some (r, M')) :
    xMet l E b NX yX9_retained cX9_retained 3 (some .int) (xR 6) [.ref (b + 0), .int a1] (cX E b M) (some (.int r)) True (cX E b M') := by
  refine xMet.ofW (own := RX9) (by decide) rfl (Nat.le_of_ble_eq_true rfl) ?_
  intro p e s m below meth c H locs ls C hm hl
  have hx := C.1.1
  have hb := C.1.2.1
  have hl : lv_has ls 3 [(0, .ref (b + 0)), (1, .int a1)] := hl
  unfold f_X9_retained at hf
  refine lv_aload_n hx hb dX9_retained_0 rfl (lv_at hl 0 rfl) ?_
  refine lv_iload_n hx hb dX9_retained_1 rfl (lv_at hl 1 rfl) ?_
  obtain ⟨v2, M3, hq1, hf⟩ := xb2_e hf
  refine x_callVi (As := [.int a1]) (rest := []) C hm (c_X9_isReached l E b M a1 hq1) rfl (cx_ColouredHeap LX_top) tc_X9_isReached tm_RX9_270 ti_X9_isReached ts_X9_isReached tn_RX9 td_X9_isReached rfl rfl ⟨Nat.le_of_ble_eq_true rfl, Nat.le_of_ble_eq_true rfl⟩ rfl hl.1 rfl (Nat.le_of_ble_eq_true rfl) ⟨Nat.zero_le _, Nat.zero_le _⟩ dX9_retained_2 (fun H locs hP4 hm => ?_)
  refine lv_if_ne (tgt := 10) hx hb dX9_retained_5 (by decide) (fun hc5 => ?_) (fun hc5 => ?_)
  rotate_left
  · have hf := xif_t hc5 hf
    refine lv_iconst (v := (-1 : Int32)) hx hb dX9_retained_8 (by decide) ?_
    cases hf
    exact x_iret C hm trivial dX9_retained_9
  have hf := xif_f hc5 hf
  refine lv_aload_n hx hb dX9_retained_10 rfl (lv_at hl 0 rfl) ?_
  refine x_get C hm inX9 rfl 7 (by decide) tf_RX9_45 (cx_ColouredHeap LX_top) rfl dX9_retained_11 ?_
  refine x_get C hm inX6 rfl 4 (by decide) tf_RX9_277 (cx_Survey (LX_survey 0 _ rfl)) rfl dX9_retained_14 ?_
  refine lv_topi (fun v6 ev6 => ?_)
  have hf := xlet_e ev6 hf
  refine lv_istore_n (lv' := [(2, .int v6), (0, .ref (b + 0)), (1, .int a1)]) hx hb dX9_retained_17 rfl hl (by decide) rfl (fun ls hl => ?_)
  refine lv_aload_n hx hb dX9_retained_18 rfl (lv_at hl 1 rfl) ?_
  refine x_get C hm inX9 rfl 7 (by decide) tf_RX9_45 (cx_ColouredHeap LX_top) rfl dX9_retained_19 ?_
  refine lv_aload_n hx hb dX9_retained_22 rfl (lv_at hl 1 rfl) ?_
  refine x_get C hm inX9 rfl 0 (by decide) tf_RX9_10 (cx_ColouredHeap LX_top) rfl dX9_retained_23 ?_
  refine lv_iload_n hx hb dX9_retained_26 rfl (lv_at hl 2 rfl) ?_
  obtain ⟨M8, hq7, hf⟩ := xb1_e hf
  refine x_callVv (As := [.ref (b + 1), .int a1]) (rest := []) C hm (c_X6_take l E b LX_heap M3 a1 hq7) rfl (cx_Survey (LX_survey 0 _ rfl)) tc_X6_take tm_RX9_273 ti_X6_take ts_X6_take tn_RX6 td_X6_take rfl rfl ⟨Nat.le_of_ble_eq_true rfl, Nat.le_of_ble_eq_true rfl⟩ rfl hl.1 rfl (Nat.le_of_ble_eq_true rfl) ⟨Nat.zero_le _, Nat.zero_le _⟩ dX9_retained_27 (fun H locs hP9 hm => ?_)
  refine lv_iload_n hx hb dX9_retained_30 rfl (lv_at hl 0 rfl) ?_
  refine lv_aload_n hx hb dX9_retained_31 rfl (lv_at hl 1 rfl) ?_
  refine x_get C hm inX9 rfl 7 (by decide) tf_RX9_45 (cx_ColouredHeap LX_top) rfl dX9_retained_32 ?_
  refine x_get C hm inX6 rfl 4 (by decide) tf_RX9_277 (cx_Survey (LX_survey 0 _ rfl)) rfl dX9_retained_35 ?_
  refine lv_isub hx hb dX9_retained_38 ?_
  cases hf
  exact x_iret C hm trivial dX9_retained_39
/-! ColouredHeap.root(I)I -/
theorem dX9_root_0 : decode cX9_root 0 = .ok (.iload_n 1, 1) := by decide +kernel
theorem dX9_root_1 : decode cX9_root 1 = .ok (.invokestatic 105, 3) := by decide +kernel
theorem dX9_root_4 : decode cX9_root 4 = .ok (.ifCond .eq 15, 3) := by decide +kernel
theorem dX9_root_7 : decode cX9_root 7 = .ok (.aload_n 0, 1) := by decide +kernel
theorem dX9_root_8 : decode cX9_root 8 = .ok (.getfield 10, 3) := by decide +kernel
theorem dX9_root_11 : decode cX9_root 11 = .ok (.getfield 139, 3) := by decide +kernel
theorem dX9_root_14 : decode cX9_root 14 = .ok (.iload_n 1, 1) := by decide +kernel
theorem dX9_root_15 : decode cX9_root 15 = .ok (.iaload, 1) := by decide +kernel
theorem dX9_root_16 : decode cX9_root 16 = .ok (.goto 5, 3) := by decide +kernel
theorem dX9_root_19 : decode cX9_root 19 = .ok (.bipush (-2), 2) := by decide +kernel
theorem dX9_root_21 : decode cX9_root 21 = .ok (.ireturn, 1) := by decide +kernel
def f_X9_root (M : xm) (a1 : Int32) : Option (Int32) := (if (f_X9_isRoot a1) = 0 then some (-2 : Int32) else if xin a1 6 = true then some (M (1 + 8) (Int32.toNatClampNeg a1)) else none)
set_option maxHeartbeats 4000000 in
set_option maxRecDepth 20000 in
theorem c_X9_root (l : Launch) (E : xE) (b : Nat) (M : xm) (a1 : Int32) {r : Int32} (hf : f_X9_root M a1 = some r) :
    xMet l E b NX yX9_root cX9_root 2 (some .int) (xR 2) [.ref (b + 0), .int a1] (cX E b M) (some (.int r)) True (cX E b M) := by
  refine xMet.ofW (own := RX9) (by decide) rfl (Nat.le_of_ble_eq_true rfl) ?_
  intro p e s m below meth c H locs ls C hm hl
  have hx := C.1.1
  have hb := C.1.2.1
  have hl : lv_has ls 2 [(0, .ref (b + 0)), (1, .int a1)] := hl
  unfold f_X9_root at hf
  refine lv_iload_n hx hb dX9_root_0 rfl (lv_at hl 1 rfl) ?_
  refine x_callSi (As := [.int a1]) (rest := []) C hm (c_X9_isRoot l E b M a1 rfl) tc_X9_isRoot tm_RX9_105 tz_X9_isRoot tn_RX9 td_X9_isRoot rfl rfl ⟨Nat.le_of_ble_eq_true rfl, Nat.le_of_ble_eq_true rfl⟩ rfl hl.1 rfl (Nat.le_of_ble_eq_true rfl) ⟨Nat.zero_le _, Nat.zero_le _⟩ dX9_root_1 (fun H locs hP1 hm => ?_)
  refine lv_if_eq (tgt := 19) hx hb dX9_root_4 (by decide) (fun hc2 => ?_) (fun hc2 => ?_)
  · have hf := xif_t hc2 hf
    refine lv_bipush (v := (-2 : Int32)) hx hb dX9_root_19 (by decide) ?_
    cases hf
    exact x_iret C hm trivial dX9_root_21
  have hf := xif_f hc2 hf
  refine lv_aload_n hx hb dX9_root_7 rfl (lv_at hl 0 rfl) ?_
  refine x_get C hm inX9 rfl 0 (by decide) tf_RX9_10 (cx_ColouredHeap LX_top) rfl dX9_root_8 ?_
  refine x_get C hm inX1 rfl 7 (by decide) tf_RX9_139 (cx_Heap (LX_heap 0 _ rfl)) rfl dX9_root_11 ?_
  refine lv_iload_n hx hb dX9_root_14 rfl (lv_at hl 1 rfl) ?_
  obtain ⟨hi3, hf⟩ := xif_s hf
  refine x_iald (j := (Int32.toNatClampNeg a1)) C hm (cx_I (LX_heap 8 _ rfl)) hi3 dX9_root_15 rfl ?_
  refine lv_goto (tgt := 21) hx hb dX9_root_16 (by decide) ?_
  cases hf
  exact x_iret C hm trivial dX9_root_21
/-! ColouredHeap.safe()Z -/
theorem dX9_safe_0 : decode cX9_safe 0 = .ok (.aload_n 0, 1) := by decide +kernel
theorem dX9_safe_1 : decode cX9_safe 1 = .ok (.getfield 45, 3) := by decide +kernel
theorem dX9_safe_4 : decode cX9_safe 4 = .ok (.aload_n 0, 1) := by decide +kernel
theorem dX9_safe_5 : decode cX9_safe 5 = .ok (.getfield 10, 3) := by decide +kernel
theorem dX9_safe_8 : decode cX9_safe 8 = .ok (.iconst (-1), 1) := by decide +kernel
theorem dX9_safe_9 : decode cX9_safe 9 = .ok (.invokevirtual 273, 3) := by decide +kernel
theorem dX9_safe_12 : decode cX9_safe 12 = .ok (.aload_n 0, 1) := by decide +kernel
theorem dX9_safe_13 : decode cX9_safe 13 = .ok (.getfield 45, 3) := by decide +kernel
theorem dX9_safe_16 : decode cX9_safe 16 = .ok (.getfield 287, 3) := by decide +kernel
theorem dX9_safe_19 : decode cX9_safe 19 = .ok (.ireturn, 1) := by decide +kernel
def f_X9_safe (M : xm) : Option (Int32 × xm) := xb1 (f_X6_take 1 M (-1 : Int32)) (fun M2 => if xbo (M2 986 6) = true then some ((M2 986 6), M2) else none)
set_option maxHeartbeats 4000000 in
set_option maxRecDepth 20000 in
theorem c_X9_safe (l : Launch) (E : xE) (b : Nat) (M : xm) {r : Int32} {M' : xm} (hf : f_X9_safe M = some (r, M')) :
    xMet l E b NX yX9_safe cX9_safe 1 (some .boolean) (xR 5) [.ref (b + 0)] (cX E b M) (some (.int r)) (xbo r = true) (cX E b M') := by
  refine xMet.ofW (own := RX9) (by decide) rfl (Nat.le_of_ble_eq_true rfl) ?_
  intro p e s m below meth c H locs ls C hm hl
  have hx := C.1.1
  have hb := C.1.2.1
  have hl : lv_has ls 1 [(0, .ref (b + 0))] := hl
  unfold f_X9_safe at hf
  refine lv_aload_n hx hb dX9_safe_0 rfl (lv_at hl 0 rfl) ?_
  refine x_get C hm inX9 rfl 7 (by decide) tf_RX9_45 (cx_ColouredHeap LX_top) rfl dX9_safe_1 ?_
  refine lv_aload_n hx hb dX9_safe_4 rfl (lv_at hl 0 rfl) ?_
  refine x_get C hm inX9 rfl 0 (by decide) tf_RX9_10 (cx_ColouredHeap LX_top) rfl dX9_safe_5 ?_
  refine lv_iconst (v := (-1 : Int32)) hx hb dX9_safe_8 (by decide) ?_
  obtain ⟨M2, hq1, hf⟩ := xb1_e hf
  refine x_callVv (As := [.ref (b + 1), .int (-1 : Int32)]) (rest := []) C hm (c_X6_take l E b LX_heap M (-1 : Int32) hq1) rfl (cx_Survey (LX_survey 0 _ rfl)) tc_X6_take tm_RX9_273 ti_X6_take ts_X6_take tn_RX6 td_X6_take rfl rfl ⟨Nat.le_of_ble_eq_true rfl, Nat.le_of_ble_eq_true rfl⟩ rfl hl.1 rfl (Nat.le_of_ble_eq_true rfl) ⟨Nat.zero_le _, Nat.zero_le _⟩ dX9_safe_9 (fun H locs hP3 hm => ?_)
  refine lv_aload_n hx hb dX9_safe_12 rfl (lv_at hl 0 rfl) ?_
  refine x_get C hm inX9 rfl 7 (by decide) tf_RX9_45 (cx_ColouredHeap LX_top) rfl dX9_safe_13 ?_
  refine x_get C hm inX6 rfl 6 (by decide) tf_RX9_287 (cx_Survey (LX_survey 0 _ rfl)) rfl dX9_safe_16 ?_
  obtain ⟨hb4, hf⟩ := xif_s hf
  cases hf
  exact x_zret C hm hb4 hb4 dX9_safe_19
/-! ColouredHeap.said(II)I -/
theorem dX9_said_0 : decode cX9_said 0 = .ok (.iload_n 1, 1) := by decide +kernel
theorem dX9_said_1 : decode cX9_said 1 = .ok (.iconst (-1), 1) := by decide +kernel
theorem dX9_said_2 : decode cX9_said 2 = .ok (.if_icmp .ne 13, 3) := by decide +kernel
theorem dX9_said_5 : decode cX9_said 5 = .ok (.aload_n 0, 1) := by decide +kernel
theorem dX9_said_6 : decode cX9_said 6 = .ok (.getfield 26, 3) := by decide +kernel
theorem dX9_said_9 : decode cX9_said 9 = .ok (.iconst 0, 1) := by decide +kernel
theorem dX9_said_10 : decode cX9_said 10 = .ok (.putfield 310, 3) := by decide +kernel
theorem dX9_said_13 : decode cX9_said 13 = .ok (.iconst 0, 1) := by decide +kernel
theorem dX9_said_14 : decode cX9_said 14 = .ok (.ireturn, 1) := by decide +kernel
theorem dX9_said_15 : decode cX9_said 15 = .ok (.iload_n 1, 1) := by decide +kernel
theorem dX9_said_16 : decode cX9_said 16 = .ok (.invokestatic 223, 3) := by decide +kernel
theorem dX9_said_19 : decode cX9_said 19 = .ok (.ifCond .eq 24, 3) := by decide +kernel
theorem dX9_said_22 : decode cX9_said 22 = .ok (.iload_n 2, 1) := by decide +kernel
theorem dX9_said_23 : decode cX9_said 23 = .ok (.ifCond .lt 20, 3) := by decide +kernel
theorem dX9_said_26 : decode cX9_said 26 = .ok (.iload_n 2, 1) := by decide +kernel
theorem dX9_said_27 : decode cX9_said 27 = .ok (.iconst 1, 1) := by decide +kernel
theorem dX9_said_28 : decode cX9_said 28 = .ok (.if_icmp .gt 15, 3) := by decide +kernel
theorem dX9_said_31 : decode cX9_said 31 = .ok (.aload_n 0, 1) := by decide +kernel
theorem dX9_said_32 : decode cX9_said 32 = .ok (.getfield 26, 3) := by decide +kernel
theorem dX9_said_35 : decode cX9_said 35 = .ok (.getfield 310, 3) := by decide +kernel
theorem dX9_said_38 : decode cX9_said 38 = .ok (.bipush 8, 2) := by decide +kernel
theorem dX9_said_40 : decode cX9_said 40 = .ok (.if_icmp .lt 6, 3) := by decide +kernel
theorem dX9_said_43 : decode cX9_said 43 = .ok (.bipush (-2), 2) := by decide +kernel
theorem dX9_said_45 : decode cX9_said 45 = .ok (.ireturn, 1) := by decide +kernel
theorem dX9_said_46 : decode cX9_said 46 = .ok (.aload_n 0, 1) := by decide +kernel
theorem dX9_said_47 : decode cX9_said 47 = .ok (.getfield 26, 3) := by decide +kernel
theorem dX9_said_50 : decode cX9_said 50 = .ok (.getfield 313, 3) := by decide +kernel
theorem dX9_said_53 : decode cX9_said 53 = .ok (.aload_n 0, 1) := by decide +kernel
theorem dX9_said_54 : decode cX9_said 54 = .ok (.getfield 26, 3) := by decide +kernel
theorem dX9_said_57 : decode cX9_said 57 = .ok (.getfield 310, 3) := by decide +kernel
theorem dX9_said_60 : decode cX9_said 60 = .ok (.iload_n 1, 1) := by decide +kernel
theorem dX9_said_61 : decode cX9_said 61 = .ok (.iastore, 1) := by decide +kernel
theorem dX9_said_62 : decode cX9_said 62 = .ok (.aload_n 0, 1) := by decide +kernel
theorem dX9_said_63 : decode cX9_said 63 = .ok (.getfield 26, 3) := by decide +kernel
theorem dX9_said_66 : decode cX9_said 66 = .ok (.getfield 316, 3) := by decide +kernel
theorem dX9_said_69 : decode cX9_said 69 = .ok (.aload_n 0, 1) := by decide +kernel
theorem dX9_said_70 : decode cX9_said 70 = .ok (.getfield 26, 3) := by decide +kernel
theorem dX9_said_73 : decode cX9_said 73 = .ok (.getfield 310, 3) := by decide +kernel
theorem dX9_said_76 : decode cX9_said 76 = .ok (.iload_n 2, 1) := by decide +kernel
theorem dX9_said_77 : decode cX9_said 77 = .ok (.iastore, 1) := by decide +kernel
theorem dX9_said_78 : decode cX9_said 78 = .ok (.aload_n 0, 1) := by decide +kernel
theorem dX9_said_79 : decode cX9_said 79 = .ok (.getfield 26, 3) := by decide +kernel
theorem dX9_said_82 : decode cX9_said 82 = .ok (.dup, 1) := by decide +kernel
theorem dX9_said_83 : decode cX9_said 83 = .ok (.getfield 310, 3) := by decide +kernel
theorem dX9_said_86 : decode cX9_said 86 = .ok (.iconst 1, 1) := by decide +kernel
theorem dX9_said_87 : decode cX9_said 87 = .ok (.iadd, 1) := by decide +kernel
theorem dX9_said_88 : decode cX9_said 88 = .ok (.putfield 310, 3) := by decide +kernel
theorem dX9_said_91 : decode cX9_said 91 = .ok (.aload_n 0, 1) := by decide +kernel
theorem dX9_said_92 : decode cX9_said 92 = .ok (.getfield 26, 3) := by decide +kernel
theorem dX9_said_95 : decode cX9_said 95 = .ok (.getfield 310, 3) := by decide +kernel
theorem dX9_said_98 : decode cX9_said 98 = .ok (.ireturn, 1) := by decide +kernel
def f_X9_said (M : xm) (a1 : Int32) (a2 : Int32) : Option (Int32 × xm) := (if a1 = (-1 : Int32) then xlet (up2 M 483 2 (0 : Int32)) (fun M12 => some ((0 : Int32), M12)) else (if (f_X9_isPage a1) = 0 then some ((-2 : Int32), M) else (if a2 < 0 then some ((-2 : Int32), M) else (if (1 : Int32) < a2 then some ((-2 : Int32), M) else (if (M 483 2) < (8 : Int32) then if xin (M 483 2) 8 = true then xlet (up2 M (483 + 1) (Int32.toNatClampNeg (M 483 2)) a1) (fun M8 => if xin (M8 483 2) 8 = true then xlet (up2 M8 (483 + 2) (Int32.toNatClampNeg (M8 483 2)) a2) (fun M10 => xlet (up2 M10 483 2 ((M10 483 2) + (1 : Int32))) (fun M11 => some ((M11 483 2), M11))) else none) else none else some ((-2 : Int32), M))))))
set_option maxHeartbeats 4000000 in
set_option maxRecDepth 20000 in
theorem c_X9_said (l : Launch) (E : xE) (b : Nat) (M : xm) (a1 : Int32) (a2 : Int32) {r : Int32} {M' : xm} (hf : f_X9_said M a1 a2 = some (r, M')) :
    xMet l E b NX yX9_said cX9_said 3 (some .int) (xR 2) [.ref (b + 0), .int a1, .int a2] (cX E b M) (some (.int r)) True (cX E b M') := by
  refine xMet.ofW (own := RX9) (by decide) rfl (Nat.le_of_ble_eq_true rfl) ?_
  intro p e s m below meth c H locs ls C hm hl
  have hx := C.1.1
  have hb := C.1.2.1
  have hl : lv_has ls 3 [(0, .ref (b + 0)), (1, .int a1), (2, .int a2)] := hl
  unfold f_X9_said at hf
  refine lv_iload_n hx hb dX9_said_0 rfl (lv_at hl 1 rfl) ?_
  refine lv_iconst (v := (-1 : Int32)) hx hb dX9_said_1 (by decide) ?_
  refine lv_icmp_ne (tgt := 15) hx hb dX9_said_2 (by decide) (fun hc1 => ?_) (fun hc1 => ?_)
  rotate_left
  · have hf := xif_t hc1 hf
    refine lv_aload_n hx hb dX9_said_5 rfl (lv_at hl 0 rfl) ?_
    refine x_get C hm inX9 rfl 2 (by decide) tf_RX9_26 (cx_ColouredHeap LX_top) rfl dX9_said_6 ?_
    refine lv_iconst (v := (0 : Int32)) hx hb dX9_said_9 (by decide) ?_
    obtain ⟨M12, eM12, hf⟩ := xlet_x hf
    refine x_put (cf' := cX E b M12) C hm inX8 tyX8 tyX8_ok nmX8 rfl 2 (by decide) tf_RX9_310 rfl rfl rfl (cx_Told (LX_told 0 _ rfl)) (Nat.le_of_ble_eq_true rfl) (by rw [eM12]; exact cu_Told_2 (LX_told 0 _ rfl)) (by rw [eM12]; exact cX_o) dX9_said_10 (fun H locs hm => ?_)
    refine lv_iconst (v := (0 : Int32)) hx hb dX9_said_13 (by decide) ?_
    cases hf
    exact x_iret C hm trivial dX9_said_14
  have hf := xif_f hc1 hf
  refine lv_iload_n hx hb dX9_said_15 rfl (lv_at hl 1 rfl) ?_
  refine x_callSi (As := [.int a1]) (rest := []) C hm (c_X9_isPage l E b M a1 rfl) tc_X9_isPage tm_RX9_223 tz_X9_isPage tn_RX9 td_X9_isPage rfl rfl ⟨Nat.le_of_ble_eq_true rfl, Nat.le_of_ble_eq_true rfl⟩ rfl hl.1 rfl (Nat.le_of_ble_eq_true rfl) ⟨Nat.zero_le _, Nat.zero_le _⟩ dX9_said_16 (fun H locs hP2 hm => ?_)
  refine lv_if_eq (tgt := 43) hx hb dX9_said_19 (by decide) (fun hc3 => ?_) (fun hc3 => ?_)
  · have hf := xif_t hc3 hf
    refine lv_bipush (v := (-2 : Int32)) hx hb dX9_said_43 (by decide) ?_
    cases hf
    exact x_iret C hm trivial dX9_said_45
  have hf := xif_f hc3 hf
  refine lv_iload_n hx hb dX9_said_22 rfl (lv_at hl 2 rfl) ?_
  refine lv_if_lt (tgt := 43) hx hb dX9_said_23 (by decide) (fun hc4 => ?_) (fun hc4 => ?_)
  · have hf := xif_t hc4 hf
    refine lv_bipush (v := (-2 : Int32)) hx hb dX9_said_43 (by decide) ?_
    cases hf
    exact x_iret C hm trivial dX9_said_45
  have hf := xif_f hc4 hf
  refine lv_iload_n hx hb dX9_said_26 rfl (lv_at hl 2 rfl) ?_
  refine lv_iconst (v := (1 : Int32)) hx hb dX9_said_27 (by decide) ?_
  refine lv_icmp_gt (tgt := 43) hx hb dX9_said_28 (by decide) (fun hc5 => ?_) (fun hc5 => ?_)
  · have hf := xif_t hc5 hf
    refine lv_bipush (v := (-2 : Int32)) hx hb dX9_said_43 (by decide) ?_
    cases hf
    exact x_iret C hm trivial dX9_said_45
  have hf := xif_f hc5 hf
  refine lv_aload_n hx hb dX9_said_31 rfl (lv_at hl 0 rfl) ?_
  refine x_get C hm inX9 rfl 2 (by decide) tf_RX9_26 (cx_ColouredHeap LX_top) rfl dX9_said_32 ?_
  refine x_get C hm inX8 rfl 2 (by decide) tf_RX9_310 (cx_Told (LX_told 0 _ rfl)) rfl dX9_said_35 ?_
  refine lv_bipush (v := (8 : Int32)) hx hb dX9_said_38 (by decide) ?_
  refine lv_icmp_lt (tgt := 46) hx hb dX9_said_40 (by decide) (fun hc6 => ?_) (fun hc6 => ?_)
  rotate_left
  · have hf := xif_f hc6 hf
    refine lv_bipush (v := (-2 : Int32)) hx hb dX9_said_43 (by decide) ?_
    cases hf
    exact x_iret C hm trivial dX9_said_45
  have hf := xif_t hc6 hf
  refine lv_aload_n hx hb dX9_said_46 rfl (lv_at hl 0 rfl) ?_
  refine x_get C hm inX9 rfl 2 (by decide) tf_RX9_26 (cx_ColouredHeap LX_top) rfl dX9_said_47 ?_
  refine x_get C hm inX8 rfl 0 (by decide) tf_RX9_313 (cx_Told (LX_told 0 _ rfl)) rfl dX9_said_50 ?_
  refine lv_aload_n hx hb dX9_said_53 rfl (lv_at hl 0 rfl) ?_
  refine x_get C hm inX9 rfl 2 (by decide) tf_RX9_26 (cx_ColouredHeap LX_top) rfl dX9_said_54 ?_
  refine x_get C hm inX8 rfl 2 (by decide) tf_RX9_310 (cx_Told (LX_told 0 _ rfl)) rfl dX9_said_57 ?_
  refine lv_iload_n hx hb dX9_said_60 rfl (lv_at hl 1 rfl) ?_
  obtain ⟨hi7, hf⟩ := xif_s hf
  obtain ⟨M8, eM8, hf⟩ := xlet_x hf
  refine x_iast (j := (Int32.toNatClampNeg (M 483 2))) (cf' := cX E b M8) C hm (cx_I (LX_told 1 _ rfl)) hi7 dX9_said_61 rfl (by rw [eM8]; exact cu_I (LX_told 1 _ rfl)) (by rw [eM8]; exact cX_o) (fun H locs hm => ?_)
  refine lv_aload_n hx hb dX9_said_62 rfl (lv_at hl 0 rfl) ?_
  refine x_get C hm inX9 rfl 2 (by decide) tf_RX9_26 (cx_ColouredHeap LX_top) rfl dX9_said_63 ?_
  refine x_get C hm inX8 rfl 1 (by decide) tf_RX9_316 (cx_Told (LX_told 0 _ rfl)) rfl dX9_said_66 ?_
  refine lv_aload_n hx hb dX9_said_69 rfl (lv_at hl 0 rfl) ?_
  refine x_get C hm inX9 rfl 2 (by decide) tf_RX9_26 (cx_ColouredHeap LX_top) rfl dX9_said_70 ?_
  refine x_get C hm inX8 rfl 2 (by decide) tf_RX9_310 (cx_Told (LX_told 0 _ rfl)) rfl dX9_said_73 ?_
  refine lv_iload_n hx hb dX9_said_76 rfl (lv_at hl 2 rfl) ?_
  obtain ⟨hi9, hf⟩ := xif_s hf
  obtain ⟨M10, eM10, hf⟩ := xlet_x hf
  refine x_iast (j := (Int32.toNatClampNeg (M8 483 2))) (cf' := cX E b M10) C hm (cx_I (LX_told 2 _ rfl)) hi9 dX9_said_77 rfl (by rw [eM10]; exact cu_I (LX_told 2 _ rfl)) (by rw [eM10]; exact cX_o) (fun H locs hm => ?_)
  refine lv_aload_n hx hb dX9_said_78 rfl (lv_at hl 0 rfl) ?_
  refine x_get C hm inX9 rfl 2 (by decide) tf_RX9_26 (cx_ColouredHeap LX_top) rfl dX9_said_79 ?_
  refine lv_dup hx hb dX9_said_82 rfl ?_
  refine x_get C hm inX8 rfl 2 (by decide) tf_RX9_310 (cx_Told (LX_told 0 _ rfl)) rfl dX9_said_83 ?_
  refine lv_iconst (v := (1 : Int32)) hx hb dX9_said_86 (by decide) ?_
  refine lv_iadd hx hb dX9_said_87 ?_
  obtain ⟨M11, eM11, hf⟩ := xlet_x hf
  refine x_put (cf' := cX E b M11) C hm inX8 tyX8 tyX8_ok nmX8 rfl 2 (by decide) tf_RX9_310 rfl rfl rfl (cx_Told (LX_told 0 _ rfl)) (Nat.le_of_ble_eq_true rfl) (by rw [eM11]; exact cu_Told_2 (LX_told 0 _ rfl)) (by rw [eM11]; exact cX_o) dX9_said_88 (fun H locs hm => ?_)
  refine lv_aload_n hx hb dX9_said_91 rfl (lv_at hl 0 rfl) ?_
  refine x_get C hm inX9 rfl 2 (by decide) tf_RX9_26 (cx_ColouredHeap LX_top) rfl dX9_said_92 ?_
  refine x_get C hm inX8 rfl 2 (by decide) tf_RX9_310 (cx_Told (LX_told 0 _ rfl)) rfl dX9_said_95 ?_
  cases hf
  exact x_iret C hm trivial dX9_said_98
/-! ColouredHeap.same(II)Z -/
theorem dX9_same_0 : decode cX9_same 0 = .ok (.aload_n 0, 1) := by decide +kernel
theorem dX9_same_1 : decode cX9_same 1 = .ok (.iload_n 1, 1) := by decide +kernel
theorem dX9_same_2 : decode cX9_same 2 = .ok (.invokevirtual 270, 3) := by decide +kernel
theorem dX9_same_5 : decode cX9_same 5 = .ok (.ifCond .eq 32, 3) := by decide +kernel
theorem dX9_same_8 : decode cX9_same 8 = .ok (.aload_n 0, 1) := by decide +kernel
theorem dX9_same_9 : decode cX9_same 9 = .ok (.iload_n 2, 1) := by decide +kernel
theorem dX9_same_10 : decode cX9_same 10 = .ok (.invokevirtual 270, 3) := by decide +kernel
theorem dX9_same_13 : decode cX9_same 13 = .ok (.ifCond .eq 24, 3) := by decide +kernel
theorem dX9_same_16 : decode cX9_same 16 = .ok (.aload_n 0, 1) := by decide +kernel
theorem dX9_same_17 : decode cX9_same 17 = .ok (.getfield 10, 3) := by decide +kernel
theorem dX9_same_20 : decode cX9_same 20 = .ok (.getfield 217, 3) := by decide +kernel
theorem dX9_same_23 : decode cX9_same 23 = .ok (.iload_n 1, 1) := by decide +kernel
theorem dX9_same_24 : decode cX9_same 24 = .ok (.iaload, 1) := by decide +kernel
theorem dX9_same_25 : decode cX9_same 25 = .ok (.aload_n 0, 1) := by decide +kernel
theorem dX9_same_26 : decode cX9_same 26 = .ok (.getfield 10, 3) := by decide +kernel
theorem dX9_same_29 : decode cX9_same 29 = .ok (.getfield 217, 3) := by decide +kernel
theorem dX9_same_32 : decode cX9_same 32 = .ok (.iload_n 2, 1) := by decide +kernel
theorem dX9_same_33 : decode cX9_same 33 = .ok (.iaload, 1) := by decide +kernel
theorem dX9_same_34 : decode cX9_same 34 = .ok (.if_icmp .eq 5, 3) := by decide +kernel
theorem dX9_same_37 : decode cX9_same 37 = .ok (.iconst 0, 1) := by decide +kernel
theorem dX9_same_38 : decode cX9_same 38 = .ok (.ireturn, 1) := by decide +kernel
theorem dX9_same_39 : decode cX9_same 39 = .ok (.iconst 0, 1) := by decide +kernel
theorem dX9_same_40 : decode cX9_same 40 = .ok (.istore_n 3, 1) := by decide +kernel
theorem dX9_same_41 : decode cX9_same 41 = .ok (.iload_n 3, 1) := by decide +kernel
theorem dX9_same_42 : decode cX9_same 42 = .ok (.iconst 3, 1) := by decide +kernel
theorem dX9_same_43 : decode cX9_same 43 = .ok (.if_icmp .ge 46, 3) := by decide +kernel
theorem dX9_same_46 : decode cX9_same 46 = .ok (.aload_n 0, 1) := by decide +kernel
theorem dX9_same_47 : decode cX9_same 47 = .ok (.getfield 10, 3) := by decide +kernel
theorem dX9_same_50 : decode cX9_same 50 = .ok (.aload_n 0, 1) := by decide +kernel
theorem dX9_same_51 : decode cX9_same 51 = .ok (.getfield 10, 3) := by decide +kernel
theorem dX9_same_54 : decode cX9_same 54 = .ok (.iload_n 1, 1) := by decide +kernel
theorem dX9_same_55 : decode cX9_same 55 = .ok (.iload_n 3, 1) := by decide +kernel
theorem dX9_same_56 : decode cX9_same 56 = .ok (.invokevirtual 304, 3) := by decide +kernel
theorem dX9_same_59 : decode cX9_same 59 = .ok (.invokevirtual 267, 3) := by decide +kernel
theorem dX9_same_62 : decode cX9_same 62 = .ok (.aload_n 0, 1) := by decide +kernel
theorem dX9_same_63 : decode cX9_same 63 = .ok (.getfield 10, 3) := by decide +kernel
theorem dX9_same_66 : decode cX9_same 66 = .ok (.aload_n 0, 1) := by decide +kernel
theorem dX9_same_67 : decode cX9_same 67 = .ok (.getfield 10, 3) := by decide +kernel
theorem dX9_same_70 : decode cX9_same 70 = .ok (.iload_n 2, 1) := by decide +kernel
theorem dX9_same_71 : decode cX9_same 71 = .ok (.iload_n 3, 1) := by decide +kernel
theorem dX9_same_72 : decode cX9_same 72 = .ok (.invokevirtual 304, 3) := by decide +kernel
theorem dX9_same_75 : decode cX9_same 75 = .ok (.invokevirtual 267, 3) := by decide +kernel
theorem dX9_same_78 : decode cX9_same 78 = .ok (.if_icmp .eq 5, 3) := by decide +kernel
theorem dX9_same_81 : decode cX9_same 81 = .ok (.iconst 0, 1) := by decide +kernel
theorem dX9_same_82 : decode cX9_same 82 = .ok (.ireturn, 1) := by decide +kernel
theorem dX9_same_83 : decode cX9_same 83 = .ok (.iinc 3 1, 3) := by decide +kernel
theorem dX9_same_86 : decode cX9_same 86 = .ok (.goto (-45), 3) := by decide +kernel
theorem dX9_same_89 : decode cX9_same 89 = .ok (.iconst 1, 1) := by decide +kernel
theorem dX9_same_90 : decode cX9_same 90 = .ok (.ireturn, 1) := by decide +kernel
def g_X9_same_41 (M : xm) (x14 : Int32) (x15 : Int32) : Nat → Int32 → Option ((Unit) ⊕ (Unit))
  | 0, _ => none
  | n + 1, x16 => (if (3 : Int32) ≤ x16 then some (Sum.inr ()) else xb1 (f_X1_fieldOf 1 M x14 x16) (fun v19 => xb1 (f_X1_leadsTo 1 M v19) (fun v22 => xb1 (f_X1_fieldOf 1 M x15 x16) (fun v25 => xb1 (f_X1_leadsTo 1 M v25) (fun v28 => (if v22 = v28 then xlet (x16 + (1 : Int32)) (fun v31 => g_X9_same_41 M x14 x15 n v31) else some (Sum.inl ())))))))
def f_X9_same (M : xm) (a1 : Int32) (a2 : Int32) : Option (Int32 × xm) := xb2 (f_X9_isReached M a1) (fun v2 M3 => (if v2 = 0 then some ((0 : Int32), M3) else xb2 (f_X9_isReached M3 a2) (fun v7 M8 => (if v7 = 0 then some ((0 : Int32), M8) else if xin a1 64 = true then if xin a2 64 = true then (if (M8 (1 + 1) (Int32.toNatClampNeg a1)) = (M8 (1 + 1) (Int32.toNatClampNeg a2)) then xs2 (g_X9_same_41 M8 a1 a2 xfuel (0 : Int32)) (fun q32 => some ((0 : Int32), M8)) (fun q32 => some ((1 : Int32), M8)) else some ((0 : Int32), M8)) else none else none))))
set_option maxHeartbeats 4000000 in
set_option maxRecDepth 20000 in
theorem j_X9_same_41 {p : Program} {l : Launch} {e : Env} {s : State} {m : MethodId} {args : Array Value} {below : List Frame} {meth : Method} {c : Code} {Q : State → Prop} {E : xE} {b : Nat} (C : xC p s m args meth c cX9_same 4 RX9 (some .boolean) E b) (M : xm) (x14 : Int32) (x15 : Int32) {r : (Unit) ⊕ (Unit)}
    (kx0 : ∀ q : Unit, r = Sum.inl q → ∀ (H : Heap) (locs : List Loc) (ls : Array Slot), xM E b NX (cX E b M) s.heap H locs → lv_has ls 4 [] → W p l e (xR 6) s m args below meth c H locs 0 0 Q (F0 m 81 ls []))
    (kx1 : ∀ q : Unit, r = Sum.inr q → ∀ (H : Heap) (locs : List Loc) (ls : Array Slot), xM E b NX (cX E b M) s.heap H locs → lv_has ls 4 [] → W p l e (xR 6) s m args below meth c H locs 0 0 Q (F0 m 89 ls [])) :
    ∀ (n : Nat) (x16 : Int32) (H : Heap) (locs : List Loc) (ls : Array Slot), g_X9_same_41 M x14 x15 n x16 = some r → xM E b NX (cX E b M) s.heap H locs → lv_has ls 4 [(0, .ref (b + 0)), (1, .int x14), (2, .int x15), (3, .int x16)] → W p l e (xR 6) s m args below meth c H locs 0 0 Q (F0 m 41 ls []) := by
  have hx := C.1.1
  have hb := C.1.2.1
  intro n
  induction n with
  | zero =>
    intro x16 H locs ls hf hm hl
    rw [g_X9_same_41] at hf
    cases hf
  | succ n ih =>
    intro x16 H locs ls hf hm hl
    rw [g_X9_same_41] at hf
    refine lv_iload_n hx hb dX9_same_41 rfl (lv_at hl 3 rfl) ?_
    refine lv_iconst (v := (3 : Int32)) hx hb dX9_same_42 (by decide) ?_
    refine lv_icmp_ge (tgt := 89) hx hb dX9_same_43 (by decide) (fun hc17 => ?_) (fun hc17 => ?_)
    · have hf := xif_t hc17 hf
      cases hf
      exact kx1 () rfl H locs ls hm (lv_sub hl [] rfl)
    have hf := xif_f hc17 hf
    refine lv_aload_n hx hb dX9_same_46 rfl (lv_at hl 0 rfl) ?_
    refine x_get C hm inX9 rfl 0 (by decide) tf_RX9_10 (cx_ColouredHeap LX_top) rfl dX9_same_47 ?_
    refine lv_aload_n hx hb dX9_same_50 rfl (lv_at hl 0 rfl) ?_
    refine x_get C hm inX9 rfl 0 (by decide) tf_RX9_10 (cx_ColouredHeap LX_top) rfl dX9_same_51 ?_
    refine lv_iload_n hx hb dX9_same_54 rfl (lv_at hl 1 rfl) ?_
    refine lv_iload_n hx hb dX9_same_55 rfl (lv_at hl 3 rfl) ?_
    obtain ⟨v19, hq18, hf⟩ := xb1_e hf
    refine x_callVi (As := [.int x14, .int x16]) (rest := [.ref (b + 1)]) C hm (c_X1_fieldOf l E b LX_heap M x14 x16 hq18) rfl (cx_Heap (LX_heap 0 _ rfl)) tc_X1_fieldOf tm_RX9_304 ti_X1_fieldOf ts_X1_fieldOf tn_RX1 td_X1_fieldOf rfl rfl ⟨Nat.le_of_ble_eq_true rfl, Nat.le_of_ble_eq_true rfl⟩ rfl hl.1 rfl (Nat.le_of_ble_eq_true rfl) ⟨Nat.zero_le _, Nat.zero_le _⟩ dX9_same_56 (fun H locs hP20 hm => ?_)
    obtain ⟨v22, hq21, hf⟩ := xb1_e hf
    refine x_callVi (As := [.int v19]) (rest := []) C hm (c_X1_leadsTo l E b LX_heap M v19 hq21) rfl (cx_Heap (LX_heap 0 _ rfl)) tc_X1_leadsTo tm_RX9_267 ti_X1_leadsTo ts_X1_leadsTo tn_RX1 td_X1_leadsTo rfl rfl ⟨Nat.le_of_ble_eq_true rfl, Nat.le_of_ble_eq_true rfl⟩ rfl hl.1 rfl (Nat.le_of_ble_eq_true rfl) ⟨Nat.zero_le _, Nat.zero_le _⟩ dX9_same_59 (fun H locs hP23 hm => ?_)
    refine lv_aload_n hx hb dX9_same_62 rfl (lv_at hl 0 rfl) ?_
    refine x_get C hm inX9 rfl 0 (by decide) tf_RX9_10 (cx_ColouredHeap LX_top) rfl dX9_same_63 ?_
    refine lv_aload_n hx hb dX9_same_66 rfl (lv_at hl 0 rfl) ?_
    refine x_get C hm inX9 rfl 0 (by decide) tf_RX9_10 (cx_ColouredHeap LX_top) rfl dX9_same_67 ?_
    refine lv_iload_n hx hb dX9_same_70 rfl (lv_at hl 2 rfl) ?_
    refine lv_iload_n hx hb dX9_same_71 rfl (lv_at hl 3 rfl) ?_
    obtain ⟨v25, hq24, hf⟩ := xb1_e hf
    refine x_callVi (As := [.int x15, .int x16]) (rest := [.ref (b + 1), .int v22]) C hm (c_X1_fieldOf l E b LX_heap M x15 x16 hq24) rfl (cx_Heap (LX_heap 0 _ rfl)) tc_X1_fieldOf tm_RX9_304 ti_X1_fieldOf ts_X1_fieldOf tn_RX1 td_X1_fieldOf rfl rfl ⟨Nat.le_of_ble_eq_true rfl, Nat.le_of_ble_eq_true rfl⟩ rfl hl.1 rfl (Nat.le_of_ble_eq_true rfl) ⟨Nat.zero_le _, Nat.zero_le _⟩ dX9_same_72 (fun H locs hP26 hm => ?_)
    obtain ⟨v28, hq27, hf⟩ := xb1_e hf
    refine x_callVi (As := [.int v25]) (rest := [.int v22]) C hm (c_X1_leadsTo l E b LX_heap M v25 hq27) rfl (cx_Heap (LX_heap 0 _ rfl)) tc_X1_leadsTo tm_RX9_267 ti_X1_leadsTo ts_X1_leadsTo tn_RX1 td_X1_leadsTo rfl rfl ⟨Nat.le_of_ble_eq_true rfl, Nat.le_of_ble_eq_true rfl⟩ rfl hl.1 rfl (Nat.le_of_ble_eq_true rfl) ⟨Nat.zero_le _, Nat.zero_le _⟩ dX9_same_75 (fun H locs hP29 hm => ?_)
    refine lv_icmp_eq (tgt := 83) hx hb dX9_same_78 (by decide) (fun hc30 => ?_) (fun hc30 => ?_)
    rotate_left
    · have hf := xif_f hc30 hf
      cases hf
      exact kx0 () rfl H locs ls hm (lv_sub hl [] rfl)
    have hf := xif_t hc30 hf
    obtain ⟨v31, ev31, hf⟩ := xlet_x hf
    refine lv_iinc (v := v31) (lv' := [(3, .int v31), (0, .ref (b + 0)), (1, .int x14), (2, .int x15)]) hx hb dX9_same_83 hl (k := 3) rfl (by rw [ev31]; rfl) (by decide) rfl (fun ls hl => ?_)
    refine lv_goto (tgt := 41) hx hb dX9_same_86 (by decide) ?_
    exact ih v31 H locs ls hf hm (lv_sub hl [1, 2, 3, 0] rfl)
set_option maxHeartbeats 4000000 in
set_option maxRecDepth 20000 in
theorem c_X9_same (l : Launch) (E : xE) (b : Nat) (M : xm) (a1 : Int32) (a2 : Int32) {r : Int32} {M' : xm} (hf : f_X9_same M a1 a2 = some (r, M')) :
    xMet l E b NX yX9_same cX9_same 4 (some .boolean) (xR 6) [.ref (b + 0), .int a1, .int a2] (cX E b M) (some (.int r)) (xbo r = true) (cX E b M') := by
  refine xMet.ofW (own := RX9) (by decide) rfl (Nat.le_of_ble_eq_true rfl) ?_
  intro p e s m below meth c H locs ls C hm hl
  have hx := C.1.1
  have hb := C.1.2.1
  have hl : lv_has ls 4 [(0, .ref (b + 0)), (1, .int a1), (2, .int a2)] := hl
  unfold f_X9_same at hf
  refine lv_aload_n hx hb dX9_same_0 rfl (lv_at hl 0 rfl) ?_
  refine lv_iload_n hx hb dX9_same_1 rfl (lv_at hl 1 rfl) ?_
  obtain ⟨v2, M3, hq1, hf⟩ := xb2_e hf
  refine x_callVi (As := [.int a1]) (rest := []) C hm (c_X9_isReached l E b M a1 hq1) rfl (cx_ColouredHeap LX_top) tc_X9_isReached tm_RX9_270 ti_X9_isReached ts_X9_isReached tn_RX9 td_X9_isReached rfl rfl ⟨Nat.le_of_ble_eq_true rfl, Nat.le_of_ble_eq_true rfl⟩ rfl hl.1 rfl (Nat.le_of_ble_eq_true rfl) ⟨Nat.zero_le _, Nat.zero_le _⟩ dX9_same_2 (fun H locs hP4 hm => ?_)
  refine lv_if_eq (tgt := 37) hx hb dX9_same_5 (by decide) (fun hc5 => ?_) (fun hc5 => ?_)
  · have hf := xif_t hc5 hf
    refine lv_iconst (v := (0 : Int32)) hx hb dX9_same_37 (by decide) ?_
    cases hf
    exact x_zret C hm (by decide) (by decide) dX9_same_38
  have hf := xif_f hc5 hf
  refine lv_aload_n hx hb dX9_same_8 rfl (lv_at hl 0 rfl) ?_
  refine lv_iload_n hx hb dX9_same_9 rfl (lv_at hl 2 rfl) ?_
  obtain ⟨v7, M8, hq6, hf⟩ := xb2_e hf
  refine x_callVi (As := [.int a2]) (rest := []) C hm (c_X9_isReached l E b M3 a2 hq6) rfl (cx_ColouredHeap LX_top) tc_X9_isReached tm_RX9_270 ti_X9_isReached ts_X9_isReached tn_RX9 td_X9_isReached rfl rfl ⟨Nat.le_of_ble_eq_true rfl, Nat.le_of_ble_eq_true rfl⟩ rfl hl.1 rfl (Nat.le_of_ble_eq_true rfl) ⟨Nat.zero_le _, Nat.zero_le _⟩ dX9_same_10 (fun H locs hP9 hm => ?_)
  refine lv_if_eq (tgt := 37) hx hb dX9_same_13 (by decide) (fun hc10 => ?_) (fun hc10 => ?_)
  · have hf := xif_t hc10 hf
    refine lv_iconst (v := (0 : Int32)) hx hb dX9_same_37 (by decide) ?_
    cases hf
    exact x_zret C hm (by decide) (by decide) dX9_same_38
  have hf := xif_f hc10 hf
  refine lv_aload_n hx hb dX9_same_16 rfl (lv_at hl 0 rfl) ?_
  refine x_get C hm inX9 rfl 0 (by decide) tf_RX9_10 (cx_ColouredHeap LX_top) rfl dX9_same_17 ?_
  refine x_get C hm inX1 rfl 0 (by decide) tf_RX9_217 (cx_Heap (LX_heap 0 _ rfl)) rfl dX9_same_20 ?_
  refine lv_iload_n hx hb dX9_same_23 rfl (lv_at hl 1 rfl) ?_
  obtain ⟨hi11, hf⟩ := xif_s hf
  refine x_iald (j := (Int32.toNatClampNeg a1)) C hm (cx_I (LX_heap 1 _ rfl)) hi11 dX9_same_24 rfl ?_
  refine lv_aload_n hx hb dX9_same_25 rfl (lv_at hl 0 rfl) ?_
  refine x_get C hm inX9 rfl 0 (by decide) tf_RX9_10 (cx_ColouredHeap LX_top) rfl dX9_same_26 ?_
  refine x_get C hm inX1 rfl 0 (by decide) tf_RX9_217 (cx_Heap (LX_heap 0 _ rfl)) rfl dX9_same_29 ?_
  refine lv_iload_n hx hb dX9_same_32 rfl (lv_at hl 2 rfl) ?_
  obtain ⟨hi12, hf⟩ := xif_s hf
  refine x_iald (j := (Int32.toNatClampNeg a2)) C hm (cx_I (LX_heap 1 _ rfl)) hi12 dX9_same_33 rfl ?_
  refine lv_icmp_eq (tgt := 39) hx hb dX9_same_34 (by decide) (fun hc13 => ?_) (fun hc13 => ?_)
  rotate_left
  · have hf := xif_f hc13 hf
    refine lv_iconst (v := (0 : Int32)) hx hb dX9_same_37 (by decide) ?_
    cases hf
    exact x_zret C hm (by decide) (by decide) dX9_same_38
  have hf := xif_t hc13 hf
  refine lv_iconst (v := (0 : Int32)) hx hb dX9_same_39 (by decide) ?_
  refine lv_istore_n (lv' := [(3, .int (0 : Int32)), (0, .ref (b + 0)), (1, .int a1), (2, .int a2)]) hx hb dX9_same_40 rfl hl (by decide) rfl (fun ls hl => ?_)
  rcases xs2_e hf with ⟨q32, hq, hf⟩ | ⟨q32, hq, hf⟩
  · refine j_X9_same_41 C M8 a1 a2 (r := Sum.inl q32) (fun q2 hr H locs ls hm hl => ?_) (fun q2 hr => by cases hr) xfuel (0 : Int32) H locs ls hq hm (lv_sub hl [1, 2, 3, 0] rfl)
    cases hr
    refine lv_iconst (v := (0 : Int32)) hx hb dX9_same_81 (by decide) ?_
    cases hf
    exact x_zret C hm (by decide) (by decide) dX9_same_82
  · refine j_X9_same_41 C M8 a1 a2 (r := Sum.inr q32) (fun q2 hr => by cases hr) (fun q2 hr H locs ls hm hl => ?_) xfuel (0 : Int32) H locs ls hq hm (lv_sub hl [1, 2, 3, 0] rfl)
    cases hr
    refine lv_iconst (v := (1 : Int32)) hx hb dX9_same_89 (by decide) ?_
    cases hf
    exact x_zret C hm (by decide) (by decide) dX9_same_90
/-! ColouredHeap.shape(II)I -/
theorem dX9_shape_0 : decode cX9_shape 0 = .ok (.aload_n 0, 1) := by decide +kernel
theorem dX9_shape_1 : decode cX9_shape 1 = .ok (.iload_n 1, 1) := by decide +kernel
theorem dX9_shape_2 : decode cX9_shape 2 = .ok (.invokevirtual 270, 3) := by decide +kernel
theorem dX9_shape_5 : decode cX9_shape 5 = .ok (.ifCond .ne 5, 3) := by decide +kernel
theorem dX9_shape_8 : decode cX9_shape 8 = .ok (.iconst (-1), 1) := by decide +kernel
theorem dX9_shape_9 : decode cX9_shape 9 = .ok (.ireturn, 1) := by decide +kernel
theorem dX9_shape_10 : decode cX9_shape 10 = .ok (.aload_n 0, 1) := by decide +kernel
theorem dX9_shape_11 : decode cX9_shape 11 = .ok (.getfield 10, 3) := by decide +kernel
theorem dX9_shape_14 : decode cX9_shape 14 = .ok (.aload_n 0, 1) := by decide +kernel
theorem dX9_shape_15 : decode cX9_shape 15 = .ok (.getfield 10, 3) := by decide +kernel
theorem dX9_shape_18 : decode cX9_shape 18 = .ok (.iload_n 1, 1) := by decide +kernel
theorem dX9_shape_19 : decode cX9_shape 19 = .ok (.iload_n 2, 1) := by decide +kernel
theorem dX9_shape_20 : decode cX9_shape 20 = .ok (.invokevirtual 304, 3) := by decide +kernel
theorem dX9_shape_23 : decode cX9_shape 23 = .ok (.invokevirtual 267, 3) := by decide +kernel
theorem dX9_shape_26 : decode cX9_shape 26 = .ok (.ireturn, 1) := by decide +kernel
def f_X9_shape (M : xm) (a1 : Int32) (a2 : Int32) : Option (Int32 × xm) := xb2 (f_X9_isReached M a1) (fun v2 M3 => (if v2 = 0 then some ((-1 : Int32), M3) else xb1 (f_X1_fieldOf 1 M3 a1 a2) (fun v7 => xb1 (f_X1_leadsTo 1 M3 v7) (fun v10 => some (v10, M3)))))
set_option maxHeartbeats 4000000 in
set_option maxRecDepth 20000 in
theorem c_X9_shape (l : Launch) (E : xE) (b : Nat) (M : xm) (a1 : Int32) (a2 : Int32) {r : Int32} {M' : xm} (hf : f_X9_shape M a1 a2 = some (r, M')) :
    xMet l E b NX yX9_shape cX9_shape 3 (some .int) (xR 6) [.ref (b + 0), .int a1, .int a2] (cX E b M) (some (.int r)) True (cX E b M') := by
  refine xMet.ofW (own := RX9) (by decide) rfl (Nat.le_of_ble_eq_true rfl) ?_
  intro p e s m below meth c H locs ls C hm hl
  have hx := C.1.1
  have hb := C.1.2.1
  have hl : lv_has ls 3 [(0, .ref (b + 0)), (1, .int a1), (2, .int a2)] := hl
  unfold f_X9_shape at hf
  refine lv_aload_n hx hb dX9_shape_0 rfl (lv_at hl 0 rfl) ?_
  refine lv_iload_n hx hb dX9_shape_1 rfl (lv_at hl 1 rfl) ?_
  obtain ⟨v2, M3, hq1, hf⟩ := xb2_e hf
  refine x_callVi (As := [.int a1]) (rest := []) C hm (c_X9_isReached l E b M a1 hq1) rfl (cx_ColouredHeap LX_top) tc_X9_isReached tm_RX9_270 ti_X9_isReached ts_X9_isReached tn_RX9 td_X9_isReached rfl rfl ⟨Nat.le_of_ble_eq_true rfl, Nat.le_of_ble_eq_true rfl⟩ rfl hl.1 rfl (Nat.le_of_ble_eq_true rfl) ⟨Nat.zero_le _, Nat.zero_le _⟩ dX9_shape_2 (fun H locs hP4 hm => ?_)
  refine lv_if_ne (tgt := 10) hx hb dX9_shape_5 (by decide) (fun hc5 => ?_) (fun hc5 => ?_)
  rotate_left
  · have hf := xif_t hc5 hf
    refine lv_iconst (v := (-1 : Int32)) hx hb dX9_shape_8 (by decide) ?_
    cases hf
    exact x_iret C hm trivial dX9_shape_9
  have hf := xif_f hc5 hf
  refine lv_aload_n hx hb dX9_shape_10 rfl (lv_at hl 0 rfl) ?_
  refine x_get C hm inX9 rfl 0 (by decide) tf_RX9_10 (cx_ColouredHeap LX_top) rfl dX9_shape_11 ?_
  refine lv_aload_n hx hb dX9_shape_14 rfl (lv_at hl 0 rfl) ?_
  refine x_get C hm inX9 rfl 0 (by decide) tf_RX9_10 (cx_ColouredHeap LX_top) rfl dX9_shape_15 ?_
  refine lv_iload_n hx hb dX9_shape_18 rfl (lv_at hl 1 rfl) ?_
  refine lv_iload_n hx hb dX9_shape_19 rfl (lv_at hl 2 rfl) ?_
  obtain ⟨v7, hq6, hf⟩ := xb1_e hf
  refine x_callVi (As := [.int a1, .int a2]) (rest := [.ref (b + 1)]) C hm (c_X1_fieldOf l E b LX_heap M3 a1 a2 hq6) rfl (cx_Heap (LX_heap 0 _ rfl)) tc_X1_fieldOf tm_RX9_304 ti_X1_fieldOf ts_X1_fieldOf tn_RX1 td_X1_fieldOf rfl rfl ⟨Nat.le_of_ble_eq_true rfl, Nat.le_of_ble_eq_true rfl⟩ rfl hl.1 rfl (Nat.le_of_ble_eq_true rfl) ⟨Nat.zero_le _, Nat.zero_le _⟩ dX9_shape_20 (fun H locs hP8 hm => ?_)
  obtain ⟨v10, hq9, hf⟩ := xb1_e hf
  refine x_callVi (As := [.int v7]) (rest := []) C hm (c_X1_leadsTo l E b LX_heap M3 v7 hq9) rfl (cx_Heap (LX_heap 0 _ rfl)) tc_X1_leadsTo tm_RX9_267 ti_X1_leadsTo ts_X1_leadsTo tn_RX1 td_X1_leadsTo rfl rfl ⟨Nat.le_of_ble_eq_true rfl, Nat.le_of_ble_eq_true rfl⟩ rfl hl.1 rfl (Nat.le_of_ble_eq_true rfl) ⟨Nat.zero_le _, Nat.zero_le _⟩ dX9_shape_23 (fun H locs hP11 hm => ?_)
  cases hf
  exact x_iret C hm trivial dX9_shape_26
/-! ColouredHeap.stale()I -/
theorem dX9_stale_0 : decode cX9_stale 0 = .ok (.aload_n 0, 1) := by decide +kernel
theorem dX9_stale_1 : decode cX9_stale 1 = .ok (.getfield 45, 3) := by decide +kernel
theorem dX9_stale_4 : decode cX9_stale 4 = .ok (.aload_n 0, 1) := by decide +kernel
theorem dX9_stale_5 : decode cX9_stale 5 = .ok (.getfield 10, 3) := by decide +kernel
theorem dX9_stale_8 : decode cX9_stale 8 = .ok (.iconst (-1), 1) := by decide +kernel
theorem dX9_stale_9 : decode cX9_stale 9 = .ok (.invokevirtual 273, 3) := by decide +kernel
theorem dX9_stale_12 : decode cX9_stale 12 = .ok (.aload_n 0, 1) := by decide +kernel
theorem dX9_stale_13 : decode cX9_stale 13 = .ok (.getfield 45, 3) := by decide +kernel
theorem dX9_stale_16 : decode cX9_stale 16 = .ok (.getfield 284, 3) := by decide +kernel
theorem dX9_stale_19 : decode cX9_stale 19 = .ok (.ireturn, 1) := by decide +kernel
def f_X9_stale (M : xm) : Option (Int32 × xm) := xb1 (f_X6_take 1 M (-1 : Int32)) (fun M2 => some ((M2 986 5), M2))
set_option maxHeartbeats 4000000 in
set_option maxRecDepth 20000 in
theorem c_X9_stale (l : Launch) (E : xE) (b : Nat) (M : xm) {r : Int32} {M' : xm} (hf : f_X9_stale M = some (r, M')) :
    xMet l E b NX yX9_stale cX9_stale 1 (some .int) (xR 5) [.ref (b + 0)] (cX E b M) (some (.int r)) True (cX E b M') := by
  refine xMet.ofW (own := RX9) (by decide) rfl (Nat.le_of_ble_eq_true rfl) ?_
  intro p e s m below meth c H locs ls C hm hl
  have hx := C.1.1
  have hb := C.1.2.1
  have hl : lv_has ls 1 [(0, .ref (b + 0))] := hl
  unfold f_X9_stale at hf
  refine lv_aload_n hx hb dX9_stale_0 rfl (lv_at hl 0 rfl) ?_
  refine x_get C hm inX9 rfl 7 (by decide) tf_RX9_45 (cx_ColouredHeap LX_top) rfl dX9_stale_1 ?_
  refine lv_aload_n hx hb dX9_stale_4 rfl (lv_at hl 0 rfl) ?_
  refine x_get C hm inX9 rfl 0 (by decide) tf_RX9_10 (cx_ColouredHeap LX_top) rfl dX9_stale_5 ?_
  refine lv_iconst (v := (-1 : Int32)) hx hb dX9_stale_8 (by decide) ?_
  obtain ⟨M2, hq1, hf⟩ := xb1_e hf
  refine x_callVv (As := [.ref (b + 1), .int (-1 : Int32)]) (rest := []) C hm (c_X6_take l E b LX_heap M (-1 : Int32) hq1) rfl (cx_Survey (LX_survey 0 _ rfl)) tc_X6_take tm_RX9_273 ti_X6_take ts_X6_take tn_RX6 td_X6_take rfl rfl ⟨Nat.le_of_ble_eq_true rfl, Nat.le_of_ble_eq_true rfl⟩ rfl hl.1 rfl (Nat.le_of_ble_eq_true rfl) ⟨Nat.zero_le _, Nat.zero_le _⟩ dX9_stale_9 (fun H locs hP3 hm => ?_)
  refine lv_aload_n hx hb dX9_stale_12 rfl (lv_at hl 0 rfl) ?_
  refine x_get C hm inX9 rfl 7 (by decide) tf_RX9_45 (cx_ColouredHeap LX_top) rfl dX9_stale_13 ?_
  refine x_get C hm inX6 rfl 5 (by decide) tf_RX9_284 (cx_Survey (LX_survey 0 _ rfl)) rfl dX9_stale_16 ?_
  cases hf
  exact x_iret C hm trivial dX9_stale_19
/-! ColouredHeap.start()Z -/
theorem dX9_start_0 : decode cX9_start 0 = .ok (.aload_n 0, 1) := by decide +kernel
theorem dX9_start_1 : decode cX9_start 1 = .ok (.getfield 10, 3) := by decide +kernel
theorem dX9_start_4 : decode cX9_start 4 = .ok (.invokevirtual 152, 3) := by decide +kernel
theorem dX9_start_7 : decode cX9_start 7 = .ok (.ifCond .ne 5, 3) := by decide +kernel
theorem dX9_start_10 : decode cX9_start 10 = .ok (.iconst 0, 1) := by decide +kernel
theorem dX9_start_11 : decode cX9_start 11 = .ok (.ireturn, 1) := by decide +kernel
theorem dX9_start_12 : decode cX9_start 12 = .ok (.aload_n 0, 1) := by decide +kernel
theorem dX9_start_13 : decode cX9_start 13 = .ok (.getfield 19, 3) := by decide +kernel
theorem dX9_start_16 : decode cX9_start 16 = .ok (.aload_n 0, 1) := by decide +kernel
theorem dX9_start_17 : decode cX9_start 17 = .ok (.getfield 10, 3) := by decide +kernel
theorem dX9_start_20 : decode cX9_start 20 = .ok (.invokevirtual 113, 3) := by decide +kernel
theorem dX9_start_23 : decode cX9_start 23 = .ok (.aload_n 0, 1) := by decide +kernel
theorem dX9_start_24 : decode cX9_start 24 = .ok (.getfield 19, 3) := by decide +kernel
theorem dX9_start_27 : decode cX9_start 27 = .ok (.invokevirtual 121, 3) := by decide +kernel
theorem dX9_start_30 : decode cX9_start 30 = .ok (.aload_n 0, 1) := by decide +kernel
theorem dX9_start_31 : decode cX9_start 31 = .ok (.getfield 10, 3) := by decide +kernel
theorem dX9_start_34 : decode cX9_start 34 = .ok (.invokevirtual 155, 3) := by decide +kernel
theorem dX9_start_37 : decode cX9_start 37 = .ok (.aload_n 0, 1) := by decide +kernel
theorem dX9_start_38 : decode cX9_start 38 = .ok (.getfield 10, 3) := by decide +kernel
theorem dX9_start_41 : decode cX9_start 41 = .ok (.invokevirtual 158, 3) := by decide +kernel
theorem dX9_start_44 : decode cX9_start 44 = .ok (.iconst 1, 1) := by decide +kernel
theorem dX9_start_45 : decode cX9_start 45 = .ok (.ireturn, 1) := by decide +kernel
def f_X9_start (M : xm) : Option (Int32 × xm) := xb1 (f_X1_canMark 1 M) (fun v2 => (if v2 = 0 then some ((0 : Int32), M) else xb1 (f_X5_prepare 16 1 M) (fun M6 => xb1 (f_X5_keep 16 M6) (fun M9 => xb1 (f_X1_turnToMarking 1 M9) (fun M12 => xb1 (f_X1_mendRoots 1 M12) (fun M15 => some ((1 : Int32), M15)))))))
set_option maxHeartbeats 4000000 in
set_option maxRecDepth 20000 in
theorem c_X9_start (l : Launch) (E : xE) (b : Nat) (M : xm) {r : Int32} {M' : xm} (hf : f_X9_start M = some (r, M')) :
    xMet l E b NX yX9_start cX9_start 1 (some .boolean) (xR 6) [.ref (b + 0)] (cX E b M) (some (.int r)) (xbo r = true) (cX E b M') := by
  refine xMet.ofW (own := RX9) (by decide) rfl (Nat.le_of_ble_eq_true rfl) ?_
  intro p e s m below meth c H locs ls C hm hl
  have hx := C.1.1
  have hb := C.1.2.1
  have hl : lv_has ls 1 [(0, .ref (b + 0))] := hl
  unfold f_X9_start at hf
  refine lv_aload_n hx hb dX9_start_0 rfl (lv_at hl 0 rfl) ?_
  refine x_get C hm inX9 rfl 0 (by decide) tf_RX9_10 (cx_ColouredHeap LX_top) rfl dX9_start_1 ?_
  obtain ⟨v2, hq1, hf⟩ := xb1_e hf
  refine x_callVi (As := []) (rest := []) C hm (c_X1_canMark l E b LX_heap M hq1) rfl (cx_Heap (LX_heap 0 _ rfl)) tc_X1_canMark tm_RX9_152 ti_X1_canMark ts_X1_canMark tn_RX1 td_X1_canMark rfl rfl ⟨Nat.le_of_ble_eq_true rfl, Nat.le_of_ble_eq_true rfl⟩ rfl hl.1 rfl (Nat.le_of_ble_eq_true rfl) ⟨Nat.zero_le _, Nat.zero_le _⟩ dX9_start_4 (fun H locs hP3 hm => ?_)
  refine lv_if_ne (tgt := 12) hx hb dX9_start_7 (by decide) (fun hc4 => ?_) (fun hc4 => ?_)
  rotate_left
  · have hf := xif_t hc4 hf
    refine lv_iconst (v := (0 : Int32)) hx hb dX9_start_10 (by decide) ?_
    cases hf
    exact x_zret C hm (by decide) (by decide) dX9_start_11
  have hf := xif_f hc4 hf
  refine lv_aload_n hx hb dX9_start_12 rfl (lv_at hl 0 rfl) ?_
  refine x_get C hm inX9 rfl 1 (by decide) tf_RX9_19 (cx_ColouredHeap LX_top) rfl dX9_start_13 ?_
  refine lv_aload_n hx hb dX9_start_16 rfl (lv_at hl 0 rfl) ?_
  refine x_get C hm inX9 rfl 0 (by decide) tf_RX9_10 (cx_ColouredHeap LX_top) rfl dX9_start_17 ?_
  obtain ⟨M6, hq5, hf⟩ := xb1_e hf
  refine x_callVv (As := [.ref (b + 1)]) (rest := []) C hm (c_X5_prepare l E b LX_steps LX_heap M hq5) rfl (cx_Steps (LX_steps 0 _ rfl)) tc_X5_prepare tm_RX9_113 ti_X5_prepare ts_X5_prepare tn_RX5 td_X5_prepare rfl rfl ⟨Nat.le_of_ble_eq_true rfl, Nat.le_of_ble_eq_true rfl⟩ rfl hl.1 rfl (Nat.le_of_ble_eq_true rfl) ⟨Nat.zero_le _, Nat.zero_le _⟩ dX9_start_20 (fun H locs hP7 hm => ?_)
  refine lv_aload_n hx hb dX9_start_23 rfl (lv_at hl 0 rfl) ?_
  refine x_get C hm inX9 rfl 1 (by decide) tf_RX9_19 (cx_ColouredHeap LX_top) rfl dX9_start_24 ?_
  obtain ⟨M9, hq8, hf⟩ := xb1_e hf
  refine x_callVv (As := []) (rest := []) C hm (c_X5_keep l E b LX_steps M6 hq8) rfl (cx_Steps (LX_steps 0 _ rfl)) tc_X5_keep tm_RX9_121 ti_X5_keep ts_X5_keep tn_RX5 td_X5_keep rfl rfl ⟨Nat.le_of_ble_eq_true rfl, Nat.le_of_ble_eq_true rfl⟩ rfl hl.1 rfl (Nat.le_of_ble_eq_true rfl) ⟨Nat.zero_le _, Nat.zero_le _⟩ dX9_start_27 (fun H locs hP10 hm => ?_)
  refine lv_aload_n hx hb dX9_start_30 rfl (lv_at hl 0 rfl) ?_
  refine x_get C hm inX9 rfl 0 (by decide) tf_RX9_10 (cx_ColouredHeap LX_top) rfl dX9_start_31 ?_
  obtain ⟨M12, hq11, hf⟩ := xb1_e hf
  refine x_callVv (As := []) (rest := []) C hm (c_X1_turnToMarking l E b LX_heap M9 hq11) rfl (cx_Heap (LX_heap 0 _ rfl)) tc_X1_turnToMarking tm_RX9_155 ti_X1_turnToMarking ts_X1_turnToMarking tn_RX1 td_X1_turnToMarking rfl rfl ⟨Nat.le_of_ble_eq_true rfl, Nat.le_of_ble_eq_true rfl⟩ rfl hl.1 rfl (Nat.le_of_ble_eq_true rfl) ⟨Nat.zero_le _, Nat.zero_le _⟩ dX9_start_34 (fun H locs hP13 hm => ?_)
  refine lv_aload_n hx hb dX9_start_37 rfl (lv_at hl 0 rfl) ?_
  refine x_get C hm inX9 rfl 0 (by decide) tf_RX9_10 (cx_ColouredHeap LX_top) rfl dX9_start_38 ?_
  obtain ⟨M15, hq14, hf⟩ := xb1_e hf
  refine x_callVv (As := []) (rest := []) C hm (c_X1_mendRoots l E b LX_heap M12 hq14) rfl (cx_Heap (LX_heap 0 _ rfl)) tc_X1_mendRoots tm_RX9_158 ti_X1_mendRoots ts_X1_mendRoots tn_RX1 td_X1_mendRoots rfl rfl ⟨Nat.le_of_ble_eq_true rfl, Nat.le_of_ble_eq_true rfl⟩ rfl hl.1 rfl (Nat.le_of_ble_eq_true rfl) ⟨Nat.zero_le _, Nat.zero_le _⟩ dX9_start_41 (fun H locs hP16 hm => ?_)
  refine lv_iconst (v := (1 : Int32)) hx hb dX9_start_44 (by decide) ?_
  cases hf
  exact x_zret C hm (by decide) (by decide) dX9_start_45
/-! ColouredHeap.text()I -/
theorem dX9_text_0 : decode cX9_text 0 = .ok (.aload_n 0, 1) := by decide +kernel
theorem dX9_text_1 : decode cX9_text 1 = .ok (.aload_n 0, 1) := by decide +kernel
theorem dX9_text_2 : decode cX9_text 2 = .ok (.getfield 26, 3) := by decide +kernel
theorem dX9_text_5 : decode cX9_text 5 = .ok (.getfield 78, 3) := by decide +kernel
theorem dX9_text_8 : decode cX9_text 8 = .ok (.invokevirtual 80, 3) := by decide +kernel
theorem dX9_text_11 : decode cX9_text 11 = .ok (.astore_n 1, 1) := by decide +kernel
theorem dX9_text_12 : decode cX9_text 12 = .ok (.aload_n 1, 1) := by decide +kernel
theorem dX9_text_13 : decode cX9_text 13 = .ok (.ifnonnull 5, 3) := by decide +kernel
theorem dX9_text_16 : decode cX9_text 16 = .ok (.iconst (-1), 1) := by decide +kernel
theorem dX9_text_17 : decode cX9_text 17 = .ok (.ireturn, 1) := by decide +kernel
theorem dX9_text_18 : decode cX9_text 18 = .ok (.aload_n 0, 1) := by decide +kernel
theorem dX9_text_19 : decode cX9_text 19 = .ok (.getfield 52, 3) := by decide +kernel
theorem dX9_text_22 : decode cX9_text 22 = .ok (.invokevirtual 84, 3) := by decide +kernel
theorem dX9_text_25 : decode cX9_text 25 = .ok (.istore_n 2, 1) := by decide +kernel
theorem dX9_text_26 : decode cX9_text 26 = .ok (.aload_n 0, 1) := by decide +kernel
theorem dX9_text_27 : decode cX9_text 27 = .ok (.getfield 52, 3) := by decide +kernel
theorem dX9_text_30 : decode cX9_text 30 = .ok (.iconst 0, 1) := by decide +kernel
theorem dX9_text_31 : decode cX9_text 31 = .ok (.putfield 70, 3) := by decide +kernel
theorem dX9_text_34 : decode cX9_text 34 = .ok (.iload_n 2, 1) := by decide +kernel
theorem dX9_text_35 : decode cX9_text 35 = .ok (.ifCond .ne 5, 3) := by decide +kernel
theorem dX9_text_38 : decode cX9_text 38 = .ok (.iconst (-1), 1) := by decide +kernel
theorem dX9_text_39 : decode cX9_text 39 = .ok (.ireturn, 1) := by decide +kernel
theorem dX9_text_40 : decode cX9_text 40 = .ok (.aload_n 1, 1) := by decide +kernel
theorem dX9_text_41 : decode cX9_text 41 = .ok (.aload_n 0, 1) := by decide +kernel
theorem dX9_text_42 : decode cX9_text 42 = .ok (.getfield 52, 3) := by decide +kernel
theorem dX9_text_45 : decode cX9_text 45 = .ok (.getfield 88, 3) := by decide +kernel
theorem dX9_text_48 : decode cX9_text 48 = .ok (.invokevirtual 92, 3) := by decide +kernel
theorem dX9_text_51 : decode cX9_text 51 = .ok (.aload_n 0, 1) := by decide +kernel
theorem dX9_text_52 : decode cX9_text 52 = .ok (.getfield 26, 3) := by decide +kernel
theorem dX9_text_55 : decode cX9_text 55 = .ok (.dup, 1) := by decide +kernel
theorem dX9_text_56 : decode cX9_text 56 = .ok (.getfield 78, 3) := by decide +kernel
theorem dX9_text_59 : decode cX9_text 59 = .ok (.iconst 1, 1) := by decide +kernel
theorem dX9_text_60 : decode cX9_text 60 = .ok (.iadd, 1) := by decide +kernel
theorem dX9_text_61 : decode cX9_text 61 = .ok (.putfield 78, 3) := by decide +kernel
theorem dX9_text_64 : decode cX9_text 64 = .ok (.aload_n 0, 1) := by decide +kernel
theorem dX9_text_65 : decode cX9_text 65 = .ok (.getfield 26, 3) := by decide +kernel
theorem dX9_text_68 : decode cX9_text 68 = .ok (.getfield 78, 3) := by decide +kernel
theorem dX9_text_71 : decode cX9_text 71 = .ok (.iconst 1, 1) := by decide +kernel
theorem dX9_text_72 : decode cX9_text 72 = .ok (.isub, 1) := by decide +kernel
theorem dX9_text_73 : decode cX9_text 73 = .ok (.ireturn, 1) := by decide +kernel
def f_X9_text (M : xm) : Option (Int32 × xm) := xb1 (f_X9_textAt (M 483 3)) (fun o2 => xopt o2 (some ((-1 : Int32), M)) (fun o4 => xb2 (f_X4_readTape M) (fun v7 M8 => xlet (up2 M8 990 5 (0 : Int32)) (fun M10 => (if v7 = 0 then some ((-1 : Int32), M10) else xb1 (f_X7_takeOver o4 (990 + 5) M10) (fun M13 => xlet (up2 M13 483 3 ((M13 483 3) + (1 : Int32))) (fun M15 => some (((M15 483 3) - (1 : Int32)), M15))))))))
set_option maxHeartbeats 4000000 in
set_option maxRecDepth 20000 in
theorem c_X9_text (l : Launch) (E : xE) (b : Nat) (M : xm) {r : Int32} {M' : xm} (hf : f_X9_text M = some (r, M')) :
    xMet l E b NX yX9_text cX9_text 3 (some .int) (xR 212) [.ref (b + 0)] (cX E b M) (some (.int r)) True (cX E b M') := by
  refine xMet.ofW (own := RX9) (by decide) rfl (Nat.le_of_ble_eq_true rfl) ?_
  intro p e s m below meth c H locs ls C hm hl
  have hx := C.1.1
  have hb := C.1.2.1
  have hl : lv_has ls 3 [(0, .ref (b + 0))] := hl
  unfold f_X9_text at hf
  refine lv_aload_n hx hb dX9_text_0 rfl (lv_at hl 0 rfl) ?_
  refine lv_aload_n hx hb dX9_text_1 rfl (lv_at hl 0 rfl) ?_
  refine x_get C hm inX9 rfl 2 (by decide) tf_RX9_26 (cx_ColouredHeap LX_top) rfl dX9_text_2 ?_
  refine x_get C hm inX8 rfl 3 (by decide) tf_RX9_78 (cx_Told (LX_told 0 _ rfl)) rfl dX9_text_5 ?_
  obtain ⟨o2, hq1, hf⟩ := xb1_e hf
  refine x_callVr (As := [.int (M 483 3)]) (rest := []) C hm (c_X9_textAt l E b M (M 483 3) hq1) rfl (cx_ColouredHeap LX_top) tc_X9_textAt tm_RX9_80 ti_X9_textAt ts_X9_textAt tn_RX9 td_X9_textAt rfl rfl ⟨Nat.le_of_ble_eq_true rfl, Nat.le_of_ble_eq_true rfl⟩ rfl hl.1 rfl (Nat.le_of_ble_eq_true rfl) ⟨Nat.zero_le _, Nat.zero_le _⟩ dX9_text_8 (fun H locs hP3 hm => ?_)
  refine x_astoreQ_n (b := b) (o := o2) (lv' := [(1, xrf b o2), (0, .ref (b + 0))]) hx hb dX9_text_11 rfl hl (by decide) (by cases o2 <;> rfl) (fun ls hl => ?_)
  refine x_aloadQ_n (b := b) (o := o2) hx hb dX9_text_12 rfl (lv_at hl 0 rfl) ?_
  refine x_ifnonnullQ (b := b) (o := o2) (tgt := 18) hx hb dX9_text_13 (by decide) (fun hn5 => ?_) (fun o4 hn5 => ?_)
  · subst hn5
    have hf := xopt_n hf
    have hl := lv_sub (l' := [(0, .ref (b + 0))]) hl [1] rfl
    refine lv_iconst (v := (-1 : Int32)) hx hb dX9_text_16 (by decide) ?_
    cases hf
    exact x_iret C hm trivial dX9_text_17
  subst hn5
  have hf := xopt_s hf
  have hl : lv_has ls 3 [(1, .ref (b + o4)), (0, .ref (b + 0))] := hl
  refine lv_aload_n hx hb dX9_text_18 rfl (lv_at hl 1 rfl) ?_
  refine x_get C hm inX9 rfl 8 (by decide) tf_RX9_52 (cx_ColouredHeap LX_top) rfl dX9_text_19 ?_
  obtain ⟨v7, M8, hq6, hf⟩ := xb2_e hf
  refine x_callVi (As := []) (rest := []) C hm (c_X4_readTape l E b M hq6) rfl (cx_Reader (LX_reader 0 _ rfl)) tc_X4_readTape tm_RX9_84 ti_X4_readTape ts_X4_readTape tn_RX4 td_X4_readTape rfl rfl ⟨Nat.le_of_ble_eq_true rfl, Nat.le_of_ble_eq_true rfl⟩ rfl hl.1 rfl (Nat.le_of_ble_eq_true rfl) ⟨Nat.zero_le _, Nat.zero_le _⟩ dX9_text_22 (fun H locs hP9 hm => ?_)
  refine lv_istore_n (lv' := [(2, .int v7), (1, .ref (b + o4)), (0, .ref (b + 0))]) hx hb dX9_text_25 rfl hl (by decide) rfl (fun ls hl => ?_)
  refine lv_aload_n hx hb dX9_text_26 rfl (lv_at hl 2 rfl) ?_
  refine x_get C hm inX9 rfl 8 (by decide) tf_RX9_52 (cx_ColouredHeap LX_top) rfl dX9_text_27 ?_
  refine lv_iconst (v := (0 : Int32)) hx hb dX9_text_30 (by decide) ?_
  obtain ⟨M10, eM10, hf⟩ := xlet_x hf
  refine x_put (cf' := cX E b M10) C hm inX4 tyX4 tyX4_ok nmX4 rfl 5 (by decide) tf_RX9_70 rfl rfl rfl (cx_Reader (LX_reader 0 _ rfl)) (Nat.le_of_ble_eq_true rfl) (by rw [eM10]; exact cu_Reader_5 (LX_reader 0 _ rfl)) (by rw [eM10]; exact cX_o) dX9_text_31 (fun H locs hm => ?_)
  refine lv_iload_n hx hb dX9_text_34 rfl (lv_at hl 0 rfl) ?_
  refine lv_if_ne (tgt := 40) hx hb dX9_text_35 (by decide) (fun hc11 => ?_) (fun hc11 => ?_)
  rotate_left
  · have hf := xif_t hc11 hf
    refine lv_iconst (v := (-1 : Int32)) hx hb dX9_text_38 (by decide) ?_
    cases hf
    exact x_iret C hm trivial dX9_text_39
  have hf := xif_f hc11 hf
  refine lv_aload_n hx hb dX9_text_40 rfl (lv_at hl 1 rfl) ?_
  refine lv_aload_n hx hb dX9_text_41 rfl (lv_at hl 2 rfl) ?_
  refine x_get C hm inX9 rfl 8 (by decide) tf_RX9_52 (cx_ColouredHeap LX_top) rfl dX9_text_42 ?_
  refine x_get C hm inX4 rfl 4 (by decide) tf_RX9_88 (cx_Reader (LX_reader 0 _ rfl)) rfl dX9_text_45 ?_
  obtain ⟨M13, hq12, hf⟩ := xb1_e hf
  refine x_callVv (As := [.ref (b + (990 + 5))]) (rest := []) C hm (c_X7_takeOver l E b ((X9_textAt_lat  hq1) o4 rfl) (lat_draft LX_reader) M10 hq12) rfl (cx_Text (((X9_textAt_lat  hq1) o4 rfl) 0 _ rfl)) tc_X7_takeOver tm_RX9_92 ti_X7_takeOver ts_X7_takeOver tn_RX7 td_X7_takeOver rfl rfl ⟨Nat.le_of_ble_eq_true rfl, Nat.le_of_ble_eq_true rfl⟩ rfl hl.1 rfl (Nat.le_of_ble_eq_true rfl) ⟨Nat.zero_le _, Nat.zero_le _⟩ dX9_text_48 (fun H locs hP14 hm => ?_)
  refine lv_aload_n hx hb dX9_text_51 rfl (lv_at hl 2 rfl) ?_
  refine x_get C hm inX9 rfl 2 (by decide) tf_RX9_26 (cx_ColouredHeap LX_top) rfl dX9_text_52 ?_
  refine lv_dup hx hb dX9_text_55 rfl ?_
  refine x_get C hm inX8 rfl 3 (by decide) tf_RX9_78 (cx_Told (LX_told 0 _ rfl)) rfl dX9_text_56 ?_
  refine lv_iconst (v := (1 : Int32)) hx hb dX9_text_59 (by decide) ?_
  refine lv_iadd hx hb dX9_text_60 ?_
  obtain ⟨M15, eM15, hf⟩ := xlet_x hf
  refine x_put (cf' := cX E b M15) C hm inX8 tyX8 tyX8_ok nmX8 rfl 3 (by decide) tf_RX9_78 rfl rfl rfl (cx_Told (LX_told 0 _ rfl)) (Nat.le_of_ble_eq_true rfl) (by rw [eM15]; exact cu_Told_3 (LX_told 0 _ rfl)) (by rw [eM15]; exact cX_o) dX9_text_61 (fun H locs hm => ?_)
  refine lv_aload_n hx hb dX9_text_64 rfl (lv_at hl 2 rfl) ?_
  refine x_get C hm inX9 rfl 2 (by decide) tf_RX9_26 (cx_ColouredHeap LX_top) rfl dX9_text_65 ?_
  refine x_get C hm inX8 rfl 3 (by decide) tf_RX9_78 (cx_Told (LX_told 0 _ rfl)) rfl dX9_text_68 ?_
  refine lv_iconst (v := (1 : Int32)) hx hb dX9_text_71 (by decide) ?_
  refine lv_isub hx hb dX9_text_72 ?_
  cases hf
  exact x_iret C hm trivial dX9_text_73
/-! ColouredHeap.till()I -/
theorem dX9_till_0 : decode cX9_till 0 = .ok (.aload_n 0, 1) := by decide +kernel
theorem dX9_till_1 : decode cX9_till 1 = .ok (.getfield 39, 3) := by decide +kernel
theorem dX9_till_4 : decode cX9_till 4 = .ok (.aload_n 0, 1) := by decide +kernel
theorem dX9_till_5 : decode cX9_till 5 = .ok (.getfield 10, 3) := by decide +kernel
theorem dX9_till_8 : decode cX9_till 8 = .ok (.invokevirtual 261, 3) := by decide +kernel
theorem dX9_till_11 : decode cX9_till 11 = .ok (.iconst 0, 1) := by decide +kernel
theorem dX9_till_12 : decode cX9_till 12 = .ok (.istore_n 1, 1) := by decide +kernel
theorem dX9_till_13 : decode cX9_till 13 = .ok (.iload_n 1, 1) := by decide +kernel
theorem dX9_till_14 : decode cX9_till 14 = .ok (.sipush 200, 3) := by decide +kernel
theorem dX9_till_17 : decode cX9_till 17 = .ok (.if_icmp .gt 43, 3) := by decide +kernel
theorem dX9_till_20 : decode cX9_till 20 = .ok (.aload_n 0, 1) := by decide +kernel
theorem dX9_till_21 : decode cX9_till 21 = .ok (.getfield 39, 3) := by decide +kernel
theorem dX9_till_24 : decode cX9_till 24 = .ok (.getfield 172, 3) := by decide +kernel
theorem dX9_till_27 : decode cX9_till 27 = .ok (.ifCond .ne 5, 3) := by decide +kernel
theorem dX9_till_30 : decode cX9_till 30 = .ok (.iload_n 1, 1) := by decide +kernel
theorem dX9_till_31 : decode cX9_till 31 = .ok (.ireturn, 1) := by decide +kernel
theorem dX9_till_32 : decode cX9_till 32 = .ok (.aload_n 0, 1) := by decide +kernel
theorem dX9_till_33 : decode cX9_till 33 = .ok (.getfield 39, 3) := by decide +kernel
theorem dX9_till_36 : decode cX9_till 36 = .ok (.aload_n 0, 1) := by decide +kernel
theorem dX9_till_37 : decode cX9_till 37 = .ok (.getfield 59, 3) := by decide +kernel
theorem dX9_till_40 : decode cX9_till 40 = .ok (.aload_n 0, 1) := by decide +kernel
theorem dX9_till_41 : decode cX9_till 41 = .ok (.aload_n 0, 1) := by decide +kernel
theorem dX9_till_42 : decode cX9_till 42 = .ok (.getfield 26, 3) := by decide +kernel
theorem dX9_till_45 : decode cX9_till 45 = .ok (.getfield 102, 3) := by decide +kernel
theorem dX9_till_48 : decode cX9_till 48 = .ok (.invokevirtual 80, 3) := by decide +kernel
theorem dX9_till_51 : decode cX9_till 51 = .ok (.invokevirtual 127, 3) := by decide +kernel
theorem dX9_till_54 : decode cX9_till 54 = .ok (.iinc 1 1, 3) := by decide +kernel
theorem dX9_till_57 : decode cX9_till 57 = .ok (.goto (-44), 3) := by decide +kernel
theorem dX9_till_60 : decode cX9_till 60 = .ok (.iconst (-1), 1) := by decide +kernel
theorem dX9_till_61 : decode cX9_till 61 = .ok (.ireturn, 1) := by decide +kernel
def g_X9_till_13  : Nat → xm → Int32 → Option ((Int32 × xm) ⊕ (xm))
  | 0, _, _ => none
  | n + 1, M5, x4 => (if (200 : Int32) < x4 then some (Sum.inr M5) else (if (M5 971 14) = 0 then some (Sum.inl (x4, M5)) else xb1 (f_X9_textAt (M5 483 4)) (fun o9 => xb1 (f_X1_tick 971 o9 M5) (fun M12 => xlet (x4 + (1 : Int32)) (fun v14 => g_X9_till_13 n M12 v14)))))
def f_X9_till (M : xm) : Option (Int32 × xm) := xb1 (f_X1_takeOver 971 1 M) (fun M2 => xs2 (g_X9_till_13 xfuel M2 (0 : Int32)) (fun q15 => some (q15.1, (q15.2))) (fun q15 => some ((-1 : Int32), q15)))
set_option maxHeartbeats 4000000 in
set_option maxRecDepth 20000 in
theorem j_X9_till_13 {p : Program} {l : Launch} {e : Env} {s : State} {m : MethodId} {args : Array Value} {below : List Frame} {meth : Method} {c : Code} {Q : State → Prop} {E : xE} {b : Nat} (C : xC p s m args meth c cX9_till 2 RX9 (some .int) E b)  {r : (Int32 × xm) ⊕ (xm)}
    (kx0 : ∀ q : Int32 × xm, r = Sum.inl q → ∀ (H : Heap) (locs : List Loc) (ls : Array Slot), xM E b NX (cX E b q.2) s.heap H locs → lv_has ls 2 [(1, .int q.1)] → W p l e (xR 8) s m args below meth c H locs 0 0 Q (F0 m 30 ls []))
    (kx1 : ∀ q : xm, r = Sum.inr q → ∀ (H : Heap) (locs : List Loc) (ls : Array Slot), xM E b NX (cX E b q) s.heap H locs → lv_has ls 2 [] → W p l e (xR 8) s m args below meth c H locs 0 0 Q (F0 m 60 ls [])) :
    ∀ (n : Nat) (M5 : xm) (x4 : Int32) (H : Heap) (locs : List Loc) (ls : Array Slot), g_X9_till_13 n M5 x4 = some r → xM E b NX (cX E b M5) s.heap H locs → lv_has ls 2 [(0, .ref (b + 0)), (1, .int x4)] → W p l e (xR 8) s m args below meth c H locs 0 0 Q (F0 m 13 ls []) := by
  have hx := C.1.1
  have hb := C.1.2.1
  intro n
  induction n with
  | zero =>
    intro M5 x4 H locs ls hf hm hl
    rw [g_X9_till_13] at hf
    cases hf
  | succ n ih =>
    intro M5 x4 H locs ls hf hm hl
    rw [g_X9_till_13] at hf
    refine lv_iload_n hx hb dX9_till_13 rfl (lv_at hl 1 rfl) ?_
    refine lv_sipush (v := (200 : Int32)) hx hb dX9_till_14 (by decide) ?_
    refine lv_icmp_gt (tgt := 60) hx hb dX9_till_17 (by decide) (fun hc6 => ?_) (fun hc6 => ?_)
    · have hf := xif_t hc6 hf
      cases hf
      exact kx1 M5 rfl H locs ls hm (lv_sub hl [] rfl)
    have hf := xif_f hc6 hf
    refine lv_aload_n hx hb dX9_till_20 rfl (lv_at hl 0 rfl) ?_
    refine x_get C hm inX9 rfl 6 (by decide) tf_RX9_39 (cx_ColouredHeap LX_top) rfl dX9_till_21 ?_
    refine x_get C hm inX1 rfl 14 (by decide) tf_RX9_172 (cx_Heap (LX_trial 0 _ rfl)) rfl dX9_till_24 ?_
    refine lv_if_ne (tgt := 32) hx hb dX9_till_27 (by decide) (fun hc7 => ?_) (fun hc7 => ?_)
    rotate_left
    · have hf := xif_t hc7 hf
      cases hf
      exact kx0 (x4, M5) rfl H locs ls hm (lv_sub hl [1] rfl)
    have hf := xif_f hc7 hf
    refine lv_aload_n hx hb dX9_till_32 rfl (lv_at hl 0 rfl) ?_
    refine x_get C hm inX9 rfl 6 (by decide) tf_RX9_39 (cx_ColouredHeap LX_top) rfl dX9_till_33 ?_
    refine lv_aload_n hx hb dX9_till_36 rfl (lv_at hl 0 rfl) ?_
    refine x_get C hm inX9 rfl 9 (by decide) tf_RX9_59 (cx_ColouredHeap LX_top) rfl dX9_till_37 ?_
    refine lv_aload_n hx hb dX9_till_40 rfl (lv_at hl 0 rfl) ?_
    refine lv_aload_n hx hb dX9_till_41 rfl (lv_at hl 0 rfl) ?_
    refine x_get C hm inX9 rfl 2 (by decide) tf_RX9_26 (cx_ColouredHeap LX_top) rfl dX9_till_42 ?_
    refine x_get C hm inX8 rfl 4 (by decide) tf_RX9_102 (cx_Told (LX_told 0 _ rfl)) rfl dX9_till_45 ?_
    obtain ⟨o9, hq8, hf⟩ := xb1_e hf
    refine x_callVr (As := [.int (M5 483 4)]) (rest := [.ref (b + 1004), .ref (b + 971)]) C hm (c_X9_textAt l E b M5 (M5 483 4) hq8) rfl (cx_ColouredHeap LX_top) tc_X9_textAt tm_RX9_80 ti_X9_textAt ts_X9_textAt tn_RX9 td_X9_textAt rfl rfl ⟨Nat.le_of_ble_eq_true rfl, Nat.le_of_ble_eq_true rfl⟩ rfl hl.1 rfl (Nat.le_of_ble_eq_true rfl) ⟨Nat.zero_le _, Nat.zero_le _⟩ dX9_till_48 (fun H locs hP10 hm => ?_)
    obtain ⟨M12, hq11, hf⟩ := xb1_e hf
    refine x_callVv (As := [.ref (b + 1004), xrf b o9]) (rest := []) C hm (c_X1_tick l E b LX_trial (X9_textAt_lat  hq8) M5 hq11) rfl (cx_Heap (LX_trial 0 _ rfl)) tc_X1_tick tm_RX9_127 ti_X1_tick ts_X1_tick tn_RX1 td_X1_tick rfl rfl ⟨Nat.le_of_ble_eq_true rfl, Nat.le_of_ble_eq_true rfl⟩ rfl hl.1 rfl (Nat.le_of_ble_eq_true rfl) ⟨Nat.zero_le _, Nat.zero_le _⟩ dX9_till_51 (fun H locs hP13 hm => ?_)
    obtain ⟨v14, ev14, hf⟩ := xlet_x hf
    refine lv_iinc (v := v14) (lv' := [(1, .int v14), (0, .ref (b + 0))]) hx hb dX9_till_54 hl (k := 1) rfl (by rw [ev14]; rfl) (by decide) rfl (fun ls hl => ?_)
    refine lv_goto (tgt := 13) hx hb dX9_till_57 (by decide) ?_
    exact ih M12 v14 H locs ls hf hm (lv_sub hl [1, 0] rfl)
set_option maxHeartbeats 4000000 in
set_option maxRecDepth 20000 in
theorem c_X9_till (l : Launch) (E : xE) (b : Nat) (M : xm) {r : Int32} {M' : xm} (hf : f_X9_till M = some (r, M')) :
    xMet l E b NX yX9_till cX9_till 2 (some .int) (xR 8) [.ref (b + 0)] (cX E b M) (some (.int r)) True (cX E b M') := by
  refine xMet.ofW (own := RX9) (by decide) rfl (Nat.le_of_ble_eq_true rfl) ?_
  intro p e s m below meth c H locs ls C hm hl
  have hx := C.1.1
  have hb := C.1.2.1
  have hl : lv_has ls 2 [(0, .ref (b + 0))] := hl
  unfold f_X9_till at hf
  refine lv_aload_n hx hb dX9_till_0 rfl (lv_at hl 0 rfl) ?_
  refine x_get C hm inX9 rfl 6 (by decide) tf_RX9_39 (cx_ColouredHeap LX_top) rfl dX9_till_1 ?_
  refine lv_aload_n hx hb dX9_till_4 rfl (lv_at hl 0 rfl) ?_
  refine x_get C hm inX9 rfl 0 (by decide) tf_RX9_10 (cx_ColouredHeap LX_top) rfl dX9_till_5 ?_
  obtain ⟨M2, hq1, hf⟩ := xb1_e hf
  refine x_callVv (As := [.ref (b + 1)]) (rest := []) C hm (c_X1_takeOver l E b LX_trial LX_heap M hq1) rfl (cx_Heap (LX_trial 0 _ rfl)) tc_X1_takeOver tm_RX9_261 ti_X1_takeOver ts_X1_takeOver tn_RX1 td_X1_takeOver rfl rfl ⟨Nat.le_of_ble_eq_true rfl, Nat.le_of_ble_eq_true rfl⟩ rfl hl.1 rfl (Nat.le_of_ble_eq_true rfl) ⟨Nat.zero_le _, Nat.zero_le _⟩ dX9_till_8 (fun H locs hP3 hm => ?_)
  refine lv_iconst (v := (0 : Int32)) hx hb dX9_till_11 (by decide) ?_
  refine lv_istore_n (lv' := [(1, .int (0 : Int32)), (0, .ref (b + 0))]) hx hb dX9_till_12 rfl hl (by decide) rfl (fun ls hl => ?_)
  rcases xs2_e hf with ⟨q15, hq, hf⟩ | ⟨q15, hq, hf⟩
  · refine j_X9_till_13 C (r := Sum.inl q15) (fun q2 hr H locs ls hm hl => ?_) (fun q2 hr => by cases hr) xfuel M2 (0 : Int32) H locs ls hq hm (lv_sub hl [1, 0] rfl)
    cases hr
    refine lv_iload_n hx hb dX9_till_30 rfl (lv_at hl 0 rfl) ?_
    cases hf
    exact x_iret C hm trivial dX9_till_31
  · refine j_X9_till_13 C (r := Sum.inr q15) (fun q2 hr => by cases hr) (fun q2 hr H locs ls hm hl => ?_) xfuel M2 (0 : Int32) H locs ls hq hm (lv_sub hl [1, 0] rfl)
    cases hr
    refine lv_iconst (v := (-1 : Int32)) hx hb dX9_till_60 (by decide) ?_
    cases hf
    exact x_iret C hm trivial dX9_till_61
/-! ColouredHeap.undo()I -/
theorem dX9_undo_0 : decode cX9_undo 0 = .ok (.aload_n 0, 1) := by decide +kernel
theorem dX9_undo_1 : decode cX9_undo 1 = .ok (.getfield 19, 3) := by decide +kernel
theorem dX9_undo_4 : decode cX9_undo 4 = .ok (.getfield 208, 3) := by decide +kernel
theorem dX9_undo_7 : decode cX9_undo 7 = .ok (.ifCond .ne 5, 3) := by decide +kernel
theorem dX9_undo_10 : decode cX9_undo 10 = .ok (.iconst (-1), 1) := by decide +kernel
theorem dX9_undo_11 : decode cX9_undo 11 = .ok (.ireturn, 1) := by decide +kernel
theorem dX9_undo_12 : decode cX9_undo 12 = .ok (.aload_n 0, 1) := by decide +kernel
theorem dX9_undo_13 : decode cX9_undo 13 = .ok (.getfield 19, 3) := by decide +kernel
theorem dX9_undo_16 : decode cX9_undo 16 = .ok (.aload_n 0, 1) := by decide +kernel
theorem dX9_undo_17 : decode cX9_undo 17 = .ok (.getfield 10, 3) := by decide +kernel
theorem dX9_undo_20 : decode cX9_undo 20 = .ok (.invokevirtual 211, 3) := by decide +kernel
theorem dX9_undo_23 : decode cX9_undo 23 = .ok (.aload_n 0, 1) := by decide +kernel
theorem dX9_undo_24 : decode cX9_undo 24 = .ok (.getfield 19, 3) := by decide +kernel
theorem dX9_undo_27 : decode cX9_undo 27 = .ok (.getfield 208, 3) := by decide +kernel
theorem dX9_undo_30 : decode cX9_undo 30 = .ok (.ireturn, 1) := by decide +kernel
def f_X9_undo (M : xm) : Option (Int32 × xm) := (if (M 16 2) = 0 then some ((-1 : Int32), M) else xb1 (f_X5_takeBack 16 1 M) (fun M3 => some ((M3 16 2), M3)))
set_option maxHeartbeats 4000000 in
set_option maxRecDepth 20000 in
theorem c_X9_undo (l : Launch) (E : xE) (b : Nat) (M : xm) {r : Int32} {M' : xm} (hf : f_X9_undo M = some (r, M')) :
    xMet l E b NX yX9_undo cX9_undo 1 (some .int) (xR 5) [.ref (b + 0)] (cX E b M) (some (.int r)) True (cX E b M') := by
  refine xMet.ofW (own := RX9) (by decide) rfl (Nat.le_of_ble_eq_true rfl) ?_
  intro p e s m below meth c H locs ls C hm hl
  have hx := C.1.1
  have hb := C.1.2.1
  have hl : lv_has ls 1 [(0, .ref (b + 0))] := hl
  unfold f_X9_undo at hf
  refine lv_aload_n hx hb dX9_undo_0 rfl (lv_at hl 0 rfl) ?_
  refine x_get C hm inX9 rfl 1 (by decide) tf_RX9_19 (cx_ColouredHeap LX_top) rfl dX9_undo_1 ?_
  refine x_get C hm inX5 rfl 2 (by decide) tf_RX9_208 (cx_Steps (LX_steps 0 _ rfl)) rfl dX9_undo_4 ?_
  refine lv_if_ne (tgt := 12) hx hb dX9_undo_7 (by decide) (fun hc1 => ?_) (fun hc1 => ?_)
  rotate_left
  · have hf := xif_t hc1 hf
    refine lv_iconst (v := (-1 : Int32)) hx hb dX9_undo_10 (by decide) ?_
    cases hf
    exact x_iret C hm trivial dX9_undo_11
  have hf := xif_f hc1 hf
  refine lv_aload_n hx hb dX9_undo_12 rfl (lv_at hl 0 rfl) ?_
  refine x_get C hm inX9 rfl 1 (by decide) tf_RX9_19 (cx_ColouredHeap LX_top) rfl dX9_undo_13 ?_
  refine lv_aload_n hx hb dX9_undo_16 rfl (lv_at hl 0 rfl) ?_
  refine x_get C hm inX9 rfl 0 (by decide) tf_RX9_10 (cx_ColouredHeap LX_top) rfl dX9_undo_17 ?_
  obtain ⟨M3, hq2, hf⟩ := xb1_e hf
  refine x_callVv (As := [.ref (b + 1)]) (rest := []) C hm (c_X5_takeBack l E b LX_steps LX_heap M hq2) rfl (cx_Steps (LX_steps 0 _ rfl)) tc_X5_takeBack tm_RX9_211 ti_X5_takeBack ts_X5_takeBack tn_RX5 td_X5_takeBack rfl rfl ⟨Nat.le_of_ble_eq_true rfl, Nat.le_of_ble_eq_true rfl⟩ rfl hl.1 rfl (Nat.le_of_ble_eq_true rfl) ⟨Nat.zero_le _, Nat.zero_le _⟩ dX9_undo_20 (fun H locs hP4 hm => ?_)
  refine lv_aload_n hx hb dX9_undo_23 rfl (lv_at hl 0 rfl) ?_
  refine x_get C hm inX9 rfl 1 (by decide) tf_RX9_19 (cx_ColouredHeap LX_top) rfl dX9_undo_24 ?_
  refine x_get C hm inX5 rfl 2 (by decide) tf_RX9_208 (cx_Steps (LX_steps 0 _ rfl)) rfl dX9_undo_27 ?_
  cases hf
  exact x_iret C hm trivial dX9_undo_30
